/-! methods, links, constants -/
abbrev qX0_init : sx_Y := (yX0_init, cX0_init, 1, none)
theorem pnX0 : plainName RX0 = true := by decide +kernel
theorem nhX0 : RX0 ≠ "java/lang/invoke/MethodHandle" ∧ RX0 ≠ "java/lang/invoke/VarHandle" := by decide +kernel
theorem y0X0_init : sx_Y0 qX0_init 0 := ⟨(lw_in (tk_2 (List.mem_of_getElem? (i := 203) rfl)) rfl), (lw_in (tk_1 (List.mem_of_getElem? (i := 11) rfl)) rfl), plainFor_of_name pnX0, ⟨nhX0.1, nhX0.2, by decide +kernel⟩, by decide +kernel⟩
theorem yiX0_init : Cond.instanceMethod yX0_init ∈ lw_good := (lw_in (tk_2 (List.mem_of_getElem? (i := 202) rfl)) rfl)
abbrev qX0_forgetAll : sx_Y := (yX0_forgetAll, cX0_forgetAll, 1, none)
theorem y0X0_forgetAll : sx_Y0 qX0_forgetAll 0 := ⟨(lw_in (tk_5 (List.mem_of_getElem? (i := 1) rfl)) rfl), (lw_in (tk_1 (List.mem_of_getElem? (i := 11) rfl)) rfl), plainFor_of_name pnX0, ⟨nhX0.1, nhX0.2, by decide +kernel⟩, by decide +kernel⟩
theorem yvX0_forgetAll : Cond.instanceMethod yX0_forgetAll ∈ lw_good ∧ Cond.selects yX0_forgetAll.cls yX0_forgetAll yX0_forgetAll ∈ lw_good := ⟨(lw_in (tk_4 (List.mem_of_getElem? (i := 239) rfl)) rfl), (lw_in (tk_5 (List.mem_of_getElem? (i := 0) rfl)) rfl)⟩
abbrev qX0_ownCode : sx_Y := (yX0_ownCode, cX0_ownCode, 1, (some .int))
theorem y0X0_ownCode : sx_Y0 qX0_ownCode 1 := ⟨(lw_in (tk_5 (List.mem_of_getElem? (i := 198) rfl)) rfl), (lw_in (tk_1 (List.mem_of_getElem? (i := 11) rfl)) rfl), plainFor_of_name pnX0, ⟨nhX0.1, nhX0.2, by decide +kernel⟩, by decide +kernel⟩
theorem ysX0_ownCode : Cond.static yX0_ownCode ∈ lw_good := (lw_in (tk_5 (List.mem_of_getElem? (i := 197) rfl)) rfl)
abbrev qX0_has : sx_Y := (yX0_has, cX0_has, 2, (some .boolean))
theorem y0X0_has : sx_Y0 qX0_has 1 := ⟨(lw_in (tk_5 (List.mem_of_getElem? (i := 202) rfl)) rfl), (lw_in (tk_1 (List.mem_of_getElem? (i := 11) rfl)) rfl), plainFor_of_name pnX0, ⟨nhX0.1, nhX0.2, by decide +kernel⟩, by decide +kernel⟩
theorem yvX0_has : Cond.instanceMethod yX0_has ∈ lw_good ∧ Cond.selects yX0_has.cls yX0_has yX0_has ∈ lw_good := ⟨(lw_in (tk_5 (List.mem_of_getElem? (i := 200) rfl)) rfl), (lw_in (tk_5 (List.mem_of_getElem? (i := 201) rfl)) rfl)⟩
abbrev qX0_hasFunction : sx_Y := (yX0_hasFunction, cX0_hasFunction, 2, (some .boolean))
theorem y0X0_hasFunction : sx_Y0 qX0_hasFunction 1 := ⟨(lw_in (tk_5 (List.mem_of_getElem? (i := 159) rfl)) rfl), (lw_in (tk_1 (List.mem_of_getElem? (i := 11) rfl)) rfl), plainFor_of_name pnX0, ⟨nhX0.1, nhX0.2, by decide +kernel⟩, by decide +kernel⟩
theorem yvX0_hasFunction : Cond.instanceMethod yX0_hasFunction ∈ lw_good ∧ Cond.selects yX0_hasFunction.cls yX0_hasFunction yX0_hasFunction ∈ lw_good := ⟨(lw_in (tk_5 (List.mem_of_getElem? (i := 157) rfl)) rfl), (lw_in (tk_5 (List.mem_of_getElem? (i := 158) rfl)) rfl)⟩
abbrev qX1_init : sx_Y := (yX1_init, cX1_init, 1, none)
theorem pnX1 : plainName RX1 = true := by decide +kernel
theorem nhX1 : RX1 ≠ "java/lang/invoke/MethodHandle" ∧ RX1 ≠ "java/lang/invoke/VarHandle" := by decide +kernel
theorem y0X1_init : sx_Y0 qX1_init 0 := ⟨(lw_in (tk_3 (List.mem_of_getElem? (i := 120) rfl)) rfl), (lw_in (tk_1 (List.mem_of_getElem? (i := 12) rfl)) rfl), plainFor_of_name pnX1, ⟨nhX1.1, nhX1.2, by decide +kernel⟩, by decide +kernel⟩
theorem yiX1_init : Cond.instanceMethod yX1_init ∈ lw_good := (lw_in (tk_3 (List.mem_of_getElem? (i := 119) rfl)) rfl)
abbrev qX1_renew : sx_Y := (yX1_renew, cX1_renew, 3, none)
theorem y0X1_renew : sx_Y0 qX1_renew 2 := ⟨(lw_in (tk_7 (List.mem_of_getElem? (i := 118) rfl)) rfl), (lw_in (tk_1 (List.mem_of_getElem? (i := 12) rfl)) rfl), plainFor_of_name pnX1, ⟨nhX1.1, nhX1.2, by decide +kernel⟩, by decide +kernel⟩
theorem yvX1_renew : Cond.instanceMethod yX1_renew ∈ lw_good ∧ Cond.selects yX1_renew.cls yX1_renew yX1_renew ∈ lw_good := ⟨(lw_in (tk_7 (List.mem_of_getElem? (i := 116) rfl)) rfl), (lw_in (tk_7 (List.mem_of_getElem? (i := 117) rfl)) rfl)⟩
abbrev qX1_fillIn : sx_Y := (yX1_fillIn, cX1_fillIn, 10, (some .int))
theorem y0X1_fillIn : sx_Y0 qX1_fillIn 3 := ⟨(lw_in (tk_7 (List.mem_of_getElem? (i := 129) rfl)) rfl), (lw_in (tk_1 (List.mem_of_getElem? (i := 12) rfl)) rfl), plainFor_of_name pnX1, ⟨nhX1.1, nhX1.2, by decide +kernel⟩, by decide +kernel⟩
theorem yvX1_fillIn : Cond.instanceMethod yX1_fillIn ∈ lw_good ∧ Cond.selects yX1_fillIn.cls yX1_fillIn yX1_fillIn ∈ lw_good := ⟨(lw_in (tk_7 (List.mem_of_getElem? (i := 127) rfl)) rfl), (lw_in (tk_7 (List.mem_of_getElem? (i := 128) rfl)) rfl)⟩
abbrev qX2_init : sx_Y := (yX2_init, cX2_init, 1, none)
theorem pnX2 : plainName RX2 = true := by decide +kernel
theorem nhX2 : RX2 ≠ "java/lang/invoke/MethodHandle" ∧ RX2 ≠ "java/lang/invoke/VarHandle" := by decide +kernel
theorem y0X2_init : sx_Y0 qX2_init 0 := ⟨(lw_in (tk_1 (List.mem_of_getElem? (i := 29) rfl)) rfl), (lw_in (tk_1 (List.mem_of_getElem? (i := 2) rfl)) rfl), plainFor_of_name pnX2, ⟨nhX2.1, nhX2.2, by decide +kernel⟩, by decide +kernel⟩
theorem yiX2_init : Cond.instanceMethod yX2_init ∈ lw_good := (lw_in (tk_1 (List.mem_of_getElem? (i := 28) rfl)) rfl)
abbrev qX2_take : sx_Y := (yX2_take, cX2_take, 3, none)
theorem y0X2_take : sx_Y0 qX2_take 2 := ⟨(lw_in (tk_3 (List.mem_of_getElem? (i := 179) rfl)) rfl), (lw_in (tk_1 (List.mem_of_getElem? (i := 2) rfl)) rfl), plainFor_of_name pnX2, ⟨nhX2.1, nhX2.2, by decide +kernel⟩, by decide +kernel⟩
theorem yvX2_take : Cond.instanceMethod yX2_take ∈ lw_good ∧ Cond.selects yX2_take.cls yX2_take yX2_take ∈ lw_good := ⟨(lw_in (tk_3 (List.mem_of_getElem? (i := 177) rfl)) rfl), (lw_in (tk_3 (List.mem_of_getElem? (i := 178) rfl)) rfl)⟩
abbrev qX2_u1 : sx_Y := (yX2_u1, cX2_u1, 2, (some .int))
theorem y0X2_u1 : sx_Y0 qX2_u1 1 := ⟨(lw_in (tk_3 (List.mem_of_getElem? (i := 236) rfl)) rfl), (lw_in (tk_1 (List.mem_of_getElem? (i := 2) rfl)) rfl), plainFor_of_name pnX2, ⟨nhX2.1, nhX2.2, by decide +kernel⟩, by decide +kernel⟩
theorem yvX2_u1 : Cond.instanceMethod yX2_u1 ∈ lw_good ∧ Cond.selects yX2_u1.cls yX2_u1 yX2_u1 ∈ lw_good := ⟨(lw_in (tk_3 (List.mem_of_getElem? (i := 234) rfl)) rfl), (lw_in (tk_3 (List.mem_of_getElem? (i := 235) rfl)) rfl)⟩
abbrev qX2_u2 : sx_Y := (yX2_u2, cX2_u2, 2, (some .int))
theorem y0X2_u2 : sx_Y0 qX2_u2 1 := ⟨(lw_in (tk_3 (List.mem_of_getElem? (i := 194) rfl)) rfl), (lw_in (tk_1 (List.mem_of_getElem? (i := 2) rfl)) rfl), plainFor_of_name pnX2, ⟨nhX2.1, nhX2.2, by decide +kernel⟩, by decide +kernel⟩
theorem yvX2_u2 : Cond.instanceMethod yX2_u2 ∈ lw_good ∧ Cond.selects yX2_u2.cls yX2_u2 yX2_u2 ∈ lw_good := ⟨(lw_in (tk_3 (List.mem_of_getElem? (i := 192) rfl)) rfl), (lw_in (tk_3 (List.mem_of_getElem? (i := 193) rfl)) rfl)⟩
abbrev qX2_s2 : sx_Y := (yX2_s2, cX2_s2, 2, (some .int))
theorem y0X2_s2 : sx_Y0 qX2_s2 1 := ⟨(lw_in (tk_4 (List.mem_of_getElem? (i := 13) rfl)) rfl), (lw_in (tk_1 (List.mem_of_getElem? (i := 2) rfl)) rfl), plainFor_of_name pnX2, ⟨nhX2.1, nhX2.2, by decide +kernel⟩, by decide +kernel⟩
theorem yvX2_s2 : Cond.instanceMethod yX2_s2 ∈ lw_good ∧ Cond.selects yX2_s2.cls yX2_s2 yX2_s2 ∈ lw_good := ⟨(lw_in (tk_4 (List.mem_of_getElem? (i := 11) rfl)) rfl), (lw_in (tk_4 (List.mem_of_getElem? (i := 12) rfl)) rfl)⟩
abbrev qX2_u4 : sx_Y := (yX2_u4, cX2_u4, 2, (some .long))
theorem y0X2_u4 : sx_Y0 qX2_u4 1 := ⟨(lw_in (tk_3 (List.mem_of_getElem? (i := 198) rfl)) rfl), (lw_in (tk_1 (List.mem_of_getElem? (i := 2) rfl)) rfl), plainFor_of_name pnX2, ⟨nhX2.1, nhX2.2, by decide +kernel⟩, by decide +kernel⟩
theorem yvX2_u4 : Cond.instanceMethod yX2_u4 ∈ lw_good ∧ Cond.selects yX2_u4.cls yX2_u4 yX2_u4 ∈ lw_good := ⟨(lw_in (tk_3 (List.mem_of_getElem? (i := 196) rfl)) rfl), (lw_in (tk_3 (List.mem_of_getElem? (i := 197) rfl)) rfl)⟩
abbrev qX2_hasTable : sx_Y := (yX2_hasTable, cX2_hasTable, 2, (some .boolean))
theorem y0X2_hasTable : sx_Y0 qX2_hasTable 1 := ⟨(lw_in (tk_4 (List.mem_of_getElem? (i := 5) rfl)) rfl), (lw_in (tk_1 (List.mem_of_getElem? (i := 2) rfl)) rfl), plainFor_of_name pnX2, ⟨nhX2.1, nhX2.2, by decide +kernel⟩, by decide +kernel⟩
theorem yvX2_hasTable : Cond.instanceMethod yX2_hasTable ∈ lw_good ∧ Cond.selects yX2_hasTable.cls yX2_hasTable yX2_hasTable ∈ lw_good := ⟨(lw_in (tk_4 (List.mem_of_getElem? (i := 3) rfl)) rfl), (lw_in (tk_4 (List.mem_of_getElem? (i := 4) rfl)) rfl)⟩
abbrev qX2_hasGlyph : sx_Y := (yX2_hasGlyph, cX2_hasGlyph, 2, (some .boolean))
theorem y0X2_hasGlyph : sx_Y0 qX2_hasGlyph 1 := ⟨(lw_in (tk_4 (List.mem_of_getElem? (i := 190) rfl)) rfl), (lw_in (tk_1 (List.mem_of_getElem? (i := 2) rfl)) rfl), plainFor_of_name pnX2, ⟨nhX2.1, nhX2.2, by decide +kernel⟩, by decide +kernel⟩
theorem yvX2_hasGlyph : Cond.instanceMethod yX2_hasGlyph ∈ lw_good ∧ Cond.selects yX2_hasGlyph.cls yX2_hasGlyph yX2_hasGlyph ∈ lw_good := ⟨(lw_in (tk_4 (List.mem_of_getElem? (i := 188) rfl)) rfl), (lw_in (tk_4 (List.mem_of_getElem? (i := 189) rfl)) rfl)⟩
abbrev qX2_advanceOf : sx_Y := (yX2_advanceOf, cX2_advanceOf, 2, (some .int))
theorem y0X2_advanceOf : sx_Y0 qX2_advanceOf 1 := ⟨(lw_in (tk_4 (List.mem_of_getElem? (i := 194) rfl)) rfl), (lw_in (tk_1 (List.mem_of_getElem? (i := 2) rfl)) rfl), plainFor_of_name pnX2, ⟨nhX2.1, nhX2.2, by decide +kernel⟩, by decide +kernel⟩
theorem yvX2_advanceOf : Cond.instanceMethod yX2_advanceOf ∈ lw_good ∧ Cond.selects yX2_advanceOf.cls yX2_advanceOf yX2_advanceOf ∈ lw_good := ⟨(lw_in (tk_4 (List.mem_of_getElem? (i := 192) rfl)) rfl), (lw_in (tk_4 (List.mem_of_getElem? (i := 193) rfl)) rfl)⟩
abbrev qX2_bearingOf : sx_Y := (yX2_bearingOf, cX2_bearingOf, 3, (some .int))
theorem y0X2_bearingOf : sx_Y0 qX2_bearingOf 1 := ⟨(lw_in (tk_4 (List.mem_of_getElem? (i := 199) rfl)) rfl), (lw_in (tk_1 (List.mem_of_getElem? (i := 2) rfl)) rfl), plainFor_of_name pnX2, ⟨nhX2.1, nhX2.2, by decide +kernel⟩, by decide +kernel⟩
theorem yvX2_bearingOf : Cond.instanceMethod yX2_bearingOf ∈ lw_good ∧ Cond.selects yX2_bearingOf.cls yX2_bearingOf yX2_bearingOf ∈ lw_good := ⟨(lw_in (tk_4 (List.mem_of_getElem? (i := 197) rfl)) rfl), (lw_in (tk_4 (List.mem_of_getElem? (i := 198) rfl)) rfl)⟩
abbrev qX2_kernOf : sx_Y := (yX2_kernOf, cX2_kernOf, 5, (some .int))
theorem y0X2_kernOf : sx_Y0 qX2_kernOf 2 := ⟨(lw_in (tk_4 (List.mem_of_getElem? (i := 208) rfl)) rfl), (lw_in (tk_1 (List.mem_of_getElem? (i := 2) rfl)) rfl), plainFor_of_name pnX2, ⟨nhX2.1, nhX2.2, by decide +kernel⟩, by decide +kernel⟩
theorem yvX2_kernOf : Cond.instanceMethod yX2_kernOf ∈ lw_good ∧ Cond.selects yX2_kernOf.cls yX2_kernOf yX2_kernOf ∈ lw_good := ⟨(lw_in (tk_4 (List.mem_of_getElem? (i := 206) rfl)) rfl), (lw_in (tk_4 (List.mem_of_getElem? (i := 207) rfl)) rfl)⟩
abbrev qX2_findGlyph : sx_Y := (yX2_findGlyph, cX2_findGlyph, 4, (some .int))
theorem y0X2_findGlyph : sx_Y0 qX2_findGlyph 1 := ⟨(lw_in (tk_4 (List.mem_of_getElem? (i := 167) rfl)) rfl), (lw_in (tk_1 (List.mem_of_getElem? (i := 2) rfl)) rfl), plainFor_of_name pnX2, ⟨nhX2.1, nhX2.2, by decide +kernel⟩, by decide +kernel⟩
theorem yvX2_findGlyph : Cond.instanceMethod yX2_findGlyph ∈ lw_good ∧ Cond.selects yX2_findGlyph.cls yX2_findGlyph yX2_findGlyph ∈ lw_good := ⟨(lw_in (tk_4 (List.mem_of_getElem? (i := 165) rfl)) rfl), (lw_in (tk_4 (List.mem_of_getElem? (i := 166) rfl)) rfl)⟩
abbrev qX2_findInGroups : sx_Y := (yX2_findInGroups, cX2_findInGroups, 6, (some .long))
theorem y0X2_findInGroups : sx_Y0 qX2_findInGroups 1 := ⟨(lw_in (tk_4 (List.mem_of_getElem? (i := 171) rfl)) rfl), (lw_in (tk_1 (List.mem_of_getElem? (i := 2) rfl)) rfl), plainFor_of_name pnX2, ⟨nhX2.1, nhX2.2, by decide +kernel⟩, by decide +kernel⟩
theorem yvX2_findInGroups : Cond.instanceMethod yX2_findInGroups ∈ lw_good ∧ Cond.selects yX2_findInGroups.cls yX2_findInGroups yX2_findInGroups ∈ lw_good := ⟨(lw_in (tk_4 (List.mem_of_getElem? (i := 170) rfl)) rfl), (lw_sel (q := (yX2_findInGroups, 17)) (List.mem_of_getElem? (i := 34) (by decide +kernel)) (by decide +kernel))⟩
abbrev qX2_findInSegments : sx_Y := (yX2_findInSegments, cX2_findInSegments, 3, (some .int))
theorem y0X2_findInSegments : sx_Y0 qX2_findInSegments 1 := ⟨(lw_in (tk_4 (List.mem_of_getElem? (i := 176) rfl)) rfl), (lw_in (tk_1 (List.mem_of_getElem? (i := 2) rfl)) rfl), plainFor_of_name pnX2, ⟨nhX2.1, nhX2.2, by decide +kernel⟩, by decide +kernel⟩
theorem yvX2_findInSegments : Cond.instanceMethod yX2_findInSegments ∈ lw_good ∧ Cond.selects yX2_findInSegments.cls yX2_findInSegments yX2_findInSegments ∈ lw_good := ⟨(lw_in (tk_4 (List.mem_of_getElem? (i := 175) rfl)) rfl), (lw_sel (q := (yX2_findInSegments, 17)) (List.mem_of_getElem? (i := 35) (by decide +kernel)) (by decide +kernel))⟩
abbrev qX2_findInSegment : sx_Y := (yX2_findInSegment, cX2_findInSegment, 9, (some .int))
theorem y0X2_findInSegment : sx_Y0 qX2_findInSegment 2 := ⟨(lw_in (tk_4 (List.mem_of_getElem? (i := 180) rfl)) rfl), (lw_in (tk_1 (List.mem_of_getElem? (i := 2) rfl)) rfl), plainFor_of_name pnX2, ⟨nhX2.1, nhX2.2, by decide +kernel⟩, by decide +kernel⟩
theorem yvX2_findInSegment : Cond.instanceMethod yX2_findInSegment ∈ lw_good ∧ Cond.selects yX2_findInSegment.cls yX2_findInSegment yX2_findInSegment ∈ lw_good := ⟨(lw_in (tk_4 (List.mem_of_getElem? (i := 179) rfl)) rfl), (lw_sel (q := (yX2_findInSegment, 17)) (List.mem_of_getElem? (i := 36) (by decide +kernel)) (by decide +kernel))⟩
abbrev qX3_init : sx_Y := (yX3_init, cX3_init, 2, none)
theorem pnX3 : plainName RX3 = true := by decide +kernel
theorem nhX3 : RX3 ≠ "java/lang/invoke/MethodHandle" ∧ RX3 ≠ "java/lang/invoke/VarHandle" := by decide +kernel
theorem y0X3_init : sx_Y0 qX3_init 1 := ⟨(lw_in (tk_1 (List.mem_of_getElem? (i := 131) rfl)) rfl), (lw_in (tk_1 (List.mem_of_getElem? (i := 3) rfl)) rfl), plainFor_of_name pnX3, ⟨nhX3.1, nhX3.2, by decide +kernel⟩, by decide +kernel⟩
theorem yiX3_init : Cond.instanceMethod yX3_init ∈ lw_good := (lw_in (tk_1 (List.mem_of_getElem? (i := 130) rfl)) rfl)
abbrev qX3_glyphsHold : sx_Y := (yX3_glyphsHold, cX3_glyphsHold, 2, (some .boolean))
theorem y0X3_glyphsHold : sx_Y0 qX3_glyphsHold 0 := ⟨(lw_in (tk_4 (List.mem_of_getElem? (i := 45) rfl)) rfl), (lw_in (tk_1 (List.mem_of_getElem? (i := 3) rfl)) rfl), plainFor_of_name pnX3, ⟨nhX3.1, nhX3.2, by decide +kernel⟩, by decide +kernel⟩
theorem yvX3_glyphsHold : Cond.instanceMethod yX3_glyphsHold ∈ lw_good ∧ Cond.selects yX3_glyphsHold.cls yX3_glyphsHold yX3_glyphsHold ∈ lw_good := ⟨(lw_in (tk_4 (List.mem_of_getElem? (i := 43) rfl)) rfl), (lw_in (tk_4 (List.mem_of_getElem? (i := 44) rfl)) rfl)⟩
abbrev qX3_glyphHolds : sx_Y := (yX3_glyphHolds, cX3_glyphHolds, 3, (some .boolean))
theorem y0X3_glyphHolds : sx_Y0 qX3_glyphHolds 1 := ⟨(lw_in (tk_4 (List.mem_of_getElem? (i := 49) rfl)) rfl), (lw_in (tk_1 (List.mem_of_getElem? (i := 3) rfl)) rfl), plainFor_of_name pnX3, ⟨nhX3.1, nhX3.2, by decide +kernel⟩, by decide +kernel⟩
theorem yvX3_glyphHolds : Cond.instanceMethod yX3_glyphHolds ∈ lw_good ∧ Cond.selects yX3_glyphHolds.cls yX3_glyphHolds yX3_glyphHolds ∈ lw_good := ⟨(lw_in (tk_4 (List.mem_of_getElem? (i := 48) rfl)) rfl), (lw_sel (q := (yX3_glyphHolds, 15)) (List.mem_of_getElem? (i := 14) (by decide +kernel)) (by decide +kernel))⟩
abbrev qX3_goTo : sx_Y := (yX3_goTo, cX3_goTo, 2, none)
theorem y0X3_goTo : sx_Y0 qX3_goTo 1 := ⟨(lw_in (tk_4 (List.mem_of_getElem? (i := 58) rfl)) rfl), (lw_in (tk_1 (List.mem_of_getElem? (i := 3) rfl)) rfl), plainFor_of_name pnX3, ⟨nhX3.1, nhX3.2, by decide +kernel⟩, by decide +kernel⟩
theorem yvX3_goTo : Cond.instanceMethod yX3_goTo ∈ lw_good ∧ Cond.selects yX3_goTo.cls yX3_goTo yX3_goTo ∈ lw_good := ⟨(lw_in (tk_4 (List.mem_of_getElem? (i := 57) rfl)) rfl), (lw_sel (q := (yX3_goTo, 15)) (List.mem_of_getElem? (i := 16) (by decide +kernel)) (by decide +kernel))⟩
abbrev qX3_takeU1 : sx_Y := (yX3_takeU1, cX3_takeU1, 1, (some .int))
theorem y0X3_takeU1 : sx_Y0 qX3_takeU1 0 := ⟨(lw_in (tk_4 (List.mem_of_getElem? (i := 71) rfl)) rfl), (lw_in (tk_1 (List.mem_of_getElem? (i := 3) rfl)) rfl), plainFor_of_name pnX3, ⟨nhX3.1, nhX3.2, by decide +kernel⟩, by decide +kernel⟩
theorem yvX3_takeU1 : Cond.instanceMethod yX3_takeU1 ∈ lw_good ∧ Cond.selects yX3_takeU1.cls yX3_takeU1 yX3_takeU1 ∈ lw_good := ⟨(lw_in (tk_4 (List.mem_of_getElem? (i := 70) rfl)) rfl), (lw_sel (q := (yX3_takeU1, 15)) (List.mem_of_getElem? (i := 19) (by decide +kernel)) (by decide +kernel))⟩
abbrev qX3_takeU2 : sx_Y := (yX3_takeU2, cX3_takeU2, 1, (some .int))
theorem y0X3_takeU2 : sx_Y0 qX3_takeU2 0 := ⟨(lw_in (tk_4 (List.mem_of_getElem? (i := 66) rfl)) rfl), (lw_in (tk_1 (List.mem_of_getElem? (i := 3) rfl)) rfl), plainFor_of_name pnX3, ⟨nhX3.1, nhX3.2, by decide +kernel⟩, by decide +kernel⟩
theorem yvX3_takeU2 : Cond.instanceMethod yX3_takeU2 ∈ lw_good ∧ Cond.selects yX3_takeU2.cls yX3_takeU2 yX3_takeU2 ∈ lw_good := ⟨(lw_in (tk_4 (List.mem_of_getElem? (i := 65) rfl)) rfl), (lw_sel (q := (yX3_takeU2, 15)) (List.mem_of_getElem? (i := 18) (by decide +kernel)) (by decide +kernel))⟩
abbrev qX3_takeS2 : sx_Y := (yX3_takeS2, cX3_takeS2, 1, (some .int))
theorem y0X3_takeS2 : sx_Y0 qX3_takeS2 0 := ⟨(lw_in (tk_4 (List.mem_of_getElem? (i := 76) rfl)) rfl), (lw_in (tk_1 (List.mem_of_getElem? (i := 3) rfl)) rfl), plainFor_of_name pnX3, ⟨nhX3.1, nhX3.2, by decide +kernel⟩, by decide +kernel⟩
theorem yvX3_takeS2 : Cond.instanceMethod yX3_takeS2 ∈ lw_good ∧ Cond.selects yX3_takeS2.cls yX3_takeS2 yX3_takeS2 ∈ lw_good := ⟨(lw_in (tk_4 (List.mem_of_getElem? (i := 75) rfl)) rfl), (lw_sel (q := (yX3_takeS2, 15)) (List.mem_of_getElem? (i := 20) (by decide +kernel)) (by decide +kernel))⟩
abbrev qX3_readOutline : sx_Y := (yX3_readOutline, cX3_readOutline, 7, (some .boolean))
theorem y0X3_readOutline : sx_Y0 qX3_readOutline 2 := ⟨(lw_in (tk_4 (List.mem_of_getElem? (i := 84) rfl)) rfl), (lw_in (tk_1 (List.mem_of_getElem? (i := 3) rfl)) rfl), plainFor_of_name pnX3, ⟨nhX3.1, nhX3.2, by decide +kernel⟩, by decide +kernel⟩
theorem yvX3_readOutline : Cond.instanceMethod yX3_readOutline ∈ lw_good ∧ Cond.selects yX3_readOutline.cls yX3_readOutline yX3_readOutline ∈ lw_good := ⟨(lw_in (tk_4 (List.mem_of_getElem? (i := 82) rfl)) rfl), (lw_in (tk_4 (List.mem_of_getElem? (i := 83) rfl)) rfl)⟩
abbrev qX3_takeProgram : sx_Y := (yX3_takeProgram, cX3_takeProgram, 3, (some .boolean))
theorem y0X3_takeProgram : sx_Y0 qX3_takeProgram 1 := ⟨(lw_in (tk_4 (List.mem_of_getElem? (i := 80) rfl)) rfl), (lw_in (tk_1 (List.mem_of_getElem? (i := 3) rfl)) rfl), plainFor_of_name pnX3, ⟨nhX3.1, nhX3.2, by decide +kernel⟩, by decide +kernel⟩
theorem yvX3_takeProgram : Cond.instanceMethod yX3_takeProgram ∈ lw_good ∧ Cond.selects yX3_takeProgram.cls yX3_takeProgram yX3_takeProgram ∈ lw_good := ⟨(lw_in (tk_4 (List.mem_of_getElem? (i := 79) rfl)) rfl), (lw_sel (q := (yX3_takeProgram, 15)) (List.mem_of_getElem? (i := 21) (by decide +kernel)) (by decide +kernel))⟩
abbrev qX3_takeFlags : sx_Y := (yX3_takeFlags, cX3_takeFlags, 7, (some .boolean))
theorem y0X3_takeFlags : sx_Y0 qX3_takeFlags 1 := ⟨(lw_in (tk_4 (List.mem_of_getElem? (i := 94) rfl)) rfl), (lw_in (tk_1 (List.mem_of_getElem? (i := 3) rfl)) rfl), plainFor_of_name pnX3, ⟨nhX3.1, nhX3.2, by decide +kernel⟩, by decide +kernel⟩
theorem yvX3_takeFlags : Cond.instanceMethod yX3_takeFlags ∈ lw_good ∧ Cond.selects yX3_takeFlags.cls yX3_takeFlags yX3_takeFlags ∈ lw_good := ⟨(lw_in (tk_4 (List.mem_of_getElem? (i := 93) rfl)) rfl), (lw_sel (q := (yX3_takeFlags, 15)) (List.mem_of_getElem? (i := 22) (by decide +kernel)) (by decide +kernel))⟩
abbrev qX3_takePlaces : sx_Y := (yX3_takePlaces, cX3_takePlaces, 9, none)
theorem y0X3_takePlaces : sx_Y0 qX3_takePlaces 4 := ⟨(lw_in (tk_4 (List.mem_of_getElem? (i := 98) rfl)) rfl), (lw_in (tk_1 (List.mem_of_getElem? (i := 3) rfl)) rfl), plainFor_of_name pnX3, ⟨nhX3.1, nhX3.2, by decide +kernel⟩, by decide +kernel⟩
theorem yvX3_takePlaces : Cond.instanceMethod yX3_takePlaces ∈ lw_good ∧ Cond.selects yX3_takePlaces.cls yX3_takePlaces yX3_takePlaces ∈ lw_good := ⟨(lw_in (tk_4 (List.mem_of_getElem? (i := 97) rfl)) rfl), (lw_sel (q := (yX3_takePlaces, 15)) (List.mem_of_getElem? (i := 23) (by decide +kernel)) (by decide +kernel))⟩
abbrev qX3_partsHold : sx_Y := (yX3_partsHold, cX3_partsHold, 3, (some .boolean))
theorem y0X3_partsHold : sx_Y0 qX3_partsHold 1 := ⟨(lw_in (tk_4 (List.mem_of_getElem? (i := 54) rfl)) rfl), (lw_in (tk_1 (List.mem_of_getElem? (i := 3) rfl)) rfl), plainFor_of_name pnX3, ⟨nhX3.1, nhX3.2, by decide +kernel⟩, by decide +kernel⟩
theorem yvX3_partsHold : Cond.instanceMethod yX3_partsHold ∈ lw_good ∧ Cond.selects yX3_partsHold.cls yX3_partsHold yX3_partsHold ∈ lw_good := ⟨(lw_in (tk_4 (List.mem_of_getElem? (i := 53) rfl)) rfl), (lw_sel (q := (yX3_partsHold, 15)) (List.mem_of_getElem? (i := 15) (by decide +kernel)) (by decide +kernel))⟩
abbrev qX3_readPart : sx_Y := (yX3_readPart, cX3_readPart, 4, none)
theorem y0X3_readPart : sx_Y0 qX3_readPart 2 := ⟨(lw_in (tk_6 (List.mem_of_getElem? (i := 225) rfl)) rfl), (lw_in (tk_1 (List.mem_of_getElem? (i := 3) rfl)) rfl), plainFor_of_name pnX3, ⟨nhX3.1, nhX3.2, by decide +kernel⟩, by decide +kernel⟩
theorem yvX3_readPart : Cond.instanceMethod yX3_readPart ∈ lw_good ∧ Cond.selects yX3_readPart.cls yX3_readPart yX3_readPart ∈ lw_good := ⟨(lw_in (tk_6 (List.mem_of_getElem? (i := 223) rfl)) rfl), (lw_in (tk_6 (List.mem_of_getElem? (i := 224) rfl)) rfl)⟩
abbrev qX3_takePart : sx_Y := (yX3_takePart, cX3_takePart, 2, none)
theorem y0X3_takePart : sx_Y0 qX3_takePart 0 := ⟨(lw_in (tk_4 (List.mem_of_getElem? (i := 62) rfl)) rfl), (lw_in (tk_1 (List.mem_of_getElem? (i := 3) rfl)) rfl), plainFor_of_name pnX3, ⟨nhX3.1, nhX3.2, by decide +kernel⟩, by decide +kernel⟩
theorem yvX3_takePart : Cond.instanceMethod yX3_takePart ∈ lw_good ∧ Cond.selects yX3_takePart.cls yX3_takePart yX3_takePart ∈ lw_good := ⟨(lw_in (tk_4 (List.mem_of_getElem? (i := 61) rfl)) rfl), (lw_sel (q := (yX3_takePart, 15)) (List.mem_of_getElem? (i := 17) (by decide +kernel)) (by decide +kernel))⟩
abbrev qX3_depthsHold : sx_Y := (yX3_depthsHold, cX3_depthsHold, 4, (some .boolean))
theorem y0X3_depthsHold : sx_Y0 qX3_depthsHold 0 := ⟨(lw_in (tk_4 (List.mem_of_getElem? (i := 102) rfl)) rfl), (lw_in (tk_1 (List.mem_of_getElem? (i := 3) rfl)) rfl), plainFor_of_name pnX3, ⟨nhX3.1, nhX3.2, by decide +kernel⟩, by decide +kernel⟩
theorem yvX3_depthsHold : Cond.instanceMethod yX3_depthsHold ∈ lw_good ∧ Cond.selects yX3_depthsHold.cls yX3_depthsHold yX3_depthsHold ∈ lw_good := ⟨(lw_in (tk_4 (List.mem_of_getElem? (i := 101) rfl)) rfl), (lw_sel (q := (yX3_depthsHold, 15)) (List.mem_of_getElem? (i := 24) (by decide +kernel)) (by decide +kernel))⟩
abbrev qX3_deepestPart : sx_Y := (yX3_deepestPart, cX3_deepestPart, 4, (some .int))
theorem y0X3_deepestPart : sx_Y0 qX3_deepestPart 1 := ⟨(lw_in (tk_4 (List.mem_of_getElem? (i := 109) rfl)) rfl), (lw_in (tk_1 (List.mem_of_getElem? (i := 3) rfl)) rfl), plainFor_of_name pnX3, ⟨nhX3.1, nhX3.2, by decide +kernel⟩, by decide +kernel⟩
theorem yvX3_deepestPart : Cond.instanceMethod yX3_deepestPart ∈ lw_good ∧ Cond.selects yX3_deepestPart.cls yX3_deepestPart yX3_deepestPart ∈ lw_good := ⟨(lw_in (tk_4 (List.mem_of_getElem? (i := 108) rfl)) rfl), (lw_sel (q := (yX3_deepestPart, 15)) (List.mem_of_getElem? (i := 25) (by decide +kernel)) (by decide +kernel))⟩
abbrev qX4_init : sx_Y := (yX4_init, cX4_init, 3, none)
theorem pnX4 : plainName RX4 = true := by decide +kernel
theorem nhX4 : RX4 ≠ "java/lang/invoke/MethodHandle" ∧ RX4 ≠ "java/lang/invoke/VarHandle" := by decide +kernel
theorem y0X4_init : sx_Y0 qX4_init 2 := ⟨(lw_in (tk_2 (List.mem_of_getElem? (i := 30) rfl)) rfl), (lw_in (tk_1 (List.mem_of_getElem? (i := 5) rfl)) rfl), plainFor_of_name pnX4, ⟨nhX4.1, nhX4.2, by decide +kernel⟩, by decide +kernel⟩
theorem yiX4_init : Cond.instanceMethod yX4_init ∈ lw_good := (lw_in (tk_2 (List.mem_of_getElem? (i := 29) rfl)) rfl)
abbrev qX4_findFault : sx_Y := (yX4_findFault, cX4_findFault, 1, (some .int))
theorem y0X4_findFault : sx_Y0 qX4_findFault 0 := ⟨(lw_in (tk_3 (List.mem_of_getElem? (i := 186) rfl)) rfl), (lw_in (tk_1 (List.mem_of_getElem? (i := 5) rfl)) rfl), plainFor_of_name pnX4, ⟨nhX4.1, nhX4.2, by decide +kernel⟩, by decide +kernel⟩
theorem yvX4_findFault : Cond.instanceMethod yX4_findFault ∈ lw_good ∧ Cond.selects yX4_findFault.cls yX4_findFault yX4_findFault ∈ lw_good := ⟨(lw_in (tk_3 (List.mem_of_getElem? (i := 184) rfl)) rfl), (lw_in (tk_3 (List.mem_of_getElem? (i := 185) rfl)) rfl)⟩
abbrev qX4_directoryHolds : sx_Y := (yX4_directoryHolds, cX4_directoryHolds, 4, (some .boolean))
theorem y0X4_directoryHolds : sx_Y0 qX4_directoryHolds 0 := ⟨(lw_in (tk_3 (List.mem_of_getElem? (i := 190) rfl)) rfl), (lw_in (tk_1 (List.mem_of_getElem? (i := 5) rfl)) rfl), plainFor_of_name pnX4, ⟨nhX4.1, nhX4.2, by decide +kernel⟩, by decide +kernel⟩
theorem yvX4_directoryHolds : Cond.instanceMethod yX4_directoryHolds ∈ lw_good ∧ Cond.selects yX4_directoryHolds.cls yX4_directoryHolds yX4_directoryHolds ∈ lw_good := ⟨(lw_in (tk_3 (List.mem_of_getElem? (i := 189) rfl)) rfl), (lw_sel (q := (yX4_directoryHolds, 2)) (List.mem_of_getElem? (i := 0) (by decide +kernel)) (by decide +kernel))⟩
abbrev qX4_entry : sx_Y := (yX4_entry, cX4_entry, 3, (some .long))
theorem y0X4_entry : sx_Y0 qX4_entry 2 := ⟨(lw_in (tk_3 (List.mem_of_getElem? (i := 208) rfl)) rfl), (lw_in (tk_1 (List.mem_of_getElem? (i := 5) rfl)) rfl), plainFor_of_name pnX4, ⟨nhX4.1, nhX4.2, by decide +kernel⟩, by decide +kernel⟩
theorem yvX4_entry : Cond.instanceMethod yX4_entry ∈ lw_good ∧ Cond.selects yX4_entry.cls yX4_entry yX4_entry ∈ lw_good := ⟨(lw_in (tk_3 (List.mem_of_getElem? (i := 207) rfl)) rfl), (lw_sel (q := (yX4_entry, 2)) (List.mem_of_getElem? (i := 2) (by decide +kernel)) (by decide +kernel))⟩
abbrev qX4_tagsRise : sx_Y := (yX4_tagsRise, cX4_tagsRise, 2, (some .boolean))
theorem y0X4_tagsRise : sx_Y0 qX4_tagsRise 0 := ⟨(lw_in (tk_3 (List.mem_of_getElem? (i := 204) rfl)) rfl), (lw_in (tk_1 (List.mem_of_getElem? (i := 5) rfl)) rfl), plainFor_of_name pnX4, ⟨nhX4.1, nhX4.2, by decide +kernel⟩, by decide +kernel⟩
theorem yvX4_tagsRise : Cond.instanceMethod yX4_tagsRise ∈ lw_good ∧ Cond.selects yX4_tagsRise.cls yX4_tagsRise yX4_tagsRise ∈ lw_good := ⟨(lw_in (tk_3 (List.mem_of_getElem? (i := 203) rfl)) rfl), (lw_sel (q := (yX4_tagsRise, 2)) (List.mem_of_getElem? (i := 1) (by decide +kernel)) (by decide +kernel))⟩
abbrev qX4_tablesLieRight : sx_Y := (yX4_tablesLieRight, cX4_tablesLieRight, 5, (some .boolean))
theorem y0X4_tablesLieRight : sx_Y0 qX4_tablesLieRight 0 := ⟨(lw_in (tk_3 (List.mem_of_getElem? (i := 212) rfl)) rfl), (lw_in (tk_1 (List.mem_of_getElem? (i := 5) rfl)) rfl), plainFor_of_name pnX4, ⟨nhX4.1, nhX4.2, by decide +kernel⟩, by decide +kernel⟩
theorem yvX4_tablesLieRight : Cond.instanceMethod yX4_tablesLieRight ∈ lw_good ∧ Cond.selects yX4_tablesLieRight.cls yX4_tablesLieRight yX4_tablesLieRight ∈ lw_good := ⟨(lw_in (tk_3 (List.mem_of_getElem? (i := 211) rfl)) rfl), (lw_sel (q := (yX4_tablesLieRight, 2)) (List.mem_of_getElem? (i := 3) (by decide +kernel)) (by decide +kernel))⟩
abbrev qX4_shareBytes : sx_Y := (yX4_shareBytes, cX4_shareBytes, 7, (some .boolean))
theorem y0X4_shareBytes : sx_Y0 qX4_shareBytes 2 := ⟨(lw_in (tk_3 (List.mem_of_getElem? (i := 217) rfl)) rfl), (lw_in (tk_1 (List.mem_of_getElem? (i := 5) rfl)) rfl), plainFor_of_name pnX4, ⟨nhX4.1, nhX4.2, by decide +kernel⟩, by decide +kernel⟩
theorem yvX4_shareBytes : Cond.instanceMethod yX4_shareBytes ∈ lw_good ∧ Cond.selects yX4_shareBytes.cls yX4_shareBytes yX4_shareBytes ∈ lw_good := ⟨(lw_in (tk_3 (List.mem_of_getElem? (i := 216) rfl)) rfl), (lw_sel (q := (yX4_shareBytes, 2)) (List.mem_of_getElem? (i := 4) (by decide +kernel)) (by decide +kernel))⟩
abbrev qX4_sumsHold : sx_Y := (yX4_sumsHold, cX4_sumsHold, 3, (some .boolean))
theorem y0X4_sumsHold : sx_Y0 qX4_sumsHold 0 := ⟨(lw_in (tk_3 (List.mem_of_getElem? (i := 227) rfl)) rfl), (lw_in (tk_1 (List.mem_of_getElem? (i := 5) rfl)) rfl), plainFor_of_name pnX4, ⟨nhX4.1, nhX4.2, by decide +kernel⟩, by decide +kernel⟩
theorem yvX4_sumsHold : Cond.instanceMethod yX4_sumsHold ∈ lw_good ∧ Cond.selects yX4_sumsHold.cls yX4_sumsHold yX4_sumsHold ∈ lw_good := ⟨(lw_in (tk_3 (List.mem_of_getElem? (i := 226) rfl)) rfl), (lw_sel (q := (yX4_sumsHold, 2)) (List.mem_of_getElem? (i := 5) (by decide +kernel)) (by decide +kernel))⟩
abbrev qX4_sumOf : sx_Y := (yX4_sumOf, cX4_sumOf, 7, (some .long))
theorem y0X4_sumOf : sx_Y0 qX4_sumOf 3 := ⟨(lw_in (tk_3 (List.mem_of_getElem? (i := 232) rfl)) rfl), (lw_in (tk_1 (List.mem_of_getElem? (i := 5) rfl)) rfl), plainFor_of_name pnX4, ⟨nhX4.1, nhX4.2, by decide +kernel⟩, by decide +kernel⟩
theorem yvX4_sumOf : Cond.instanceMethod yX4_sumOf ∈ lw_good ∧ Cond.selects yX4_sumOf.cls yX4_sumOf yX4_sumOf ∈ lw_good := ⟨(lw_in (tk_3 (List.mem_of_getElem? (i := 231) rfl)) rfl), (lw_sel (q := (yX4_sumOf, 2)) (List.mem_of_getElem? (i := 6) (by decide +kernel)) (by decide +kernel))⟩
abbrev qX4_findTables : sx_Y := (yX4_findTables, cX4_findTables, 3, (some .boolean))
theorem y0X4_findTables : sx_Y0 qX4_findTables 0 := ⟨(lw_in (tk_4 (List.mem_of_getElem? (i := 1) rfl)) rfl), (lw_in (tk_1 (List.mem_of_getElem? (i := 5) rfl)) rfl), plainFor_of_name pnX4, ⟨nhX4.1, nhX4.2, by decide +kernel⟩, by decide +kernel⟩
theorem yvX4_findTables : Cond.instanceMethod yX4_findTables ∈ lw_good ∧ Cond.selects yX4_findTables.cls yX4_findTables yX4_findTables ∈ lw_good := ⟨(lw_in (tk_4 (List.mem_of_getElem? (i := 0) rfl)) rfl), (lw_sel (q := (yX4_findTables, 2)) (List.mem_of_getElem? (i := 7) (by decide +kernel)) (by decide +kernel))⟩
abbrev qX4_headHolds : sx_Y := (yX4_headHolds, cX4_headHolds, 2, (some .boolean))
theorem y0X4_headHolds : sx_Y0 qX4_headHolds 0 := ⟨(lw_in (tk_4 (List.mem_of_getElem? (i := 9) rfl)) rfl), (lw_in (tk_1 (List.mem_of_getElem? (i := 5) rfl)) rfl), plainFor_of_name pnX4, ⟨nhX4.1, nhX4.2, by decide +kernel⟩, by decide +kernel⟩
theorem yvX4_headHolds : Cond.instanceMethod yX4_headHolds ∈ lw_good ∧ Cond.selects yX4_headHolds.cls yX4_headHolds yX4_headHolds ∈ lw_good := ⟨(lw_in (tk_4 (List.mem_of_getElem? (i := 8) rfl)) rfl), (lw_sel (q := (yX4_headHolds, 2)) (List.mem_of_getElem? (i := 8) (by decide +kernel)) (by decide +kernel))⟩
abbrev qX4_maxpHolds : sx_Y := (yX4_maxpHolds, cX4_maxpHolds, 4, (some .boolean))
theorem y0X4_maxpHolds : sx_Y0 qX4_maxpHolds 0 := ⟨(lw_in (tk_4 (List.mem_of_getElem? (i := 19) rfl)) rfl), (lw_in (tk_1 (List.mem_of_getElem? (i := 5) rfl)) rfl), plainFor_of_name pnX4, ⟨nhX4.1, nhX4.2, by decide +kernel⟩, by decide +kernel⟩
theorem yvX4_maxpHolds : Cond.instanceMethod yX4_maxpHolds ∈ lw_good ∧ Cond.selects yX4_maxpHolds.cls yX4_maxpHolds yX4_maxpHolds ∈ lw_good := ⟨(lw_in (tk_4 (List.mem_of_getElem? (i := 18) rfl)) rfl), (lw_sel (q := (yX4_maxpHolds, 2)) (List.mem_of_getElem? (i := 9) (by decide +kernel)) (by decide +kernel))⟩
abbrev qX4_hheaHolds : sx_Y := (yX4_hheaHolds, cX4_hheaHolds, 1, (some .boolean))
theorem y0X4_hheaHolds : sx_Y0 qX4_hheaHolds 0 := ⟨(lw_in (tk_4 (List.mem_of_getElem? (i := 28) rfl)) rfl), (lw_in (tk_1 (List.mem_of_getElem? (i := 5) rfl)) rfl), plainFor_of_name pnX4, ⟨nhX4.1, nhX4.2, by decide +kernel⟩, by decide +kernel⟩
theorem yvX4_hheaHolds : Cond.instanceMethod yX4_hheaHolds ∈ lw_good ∧ Cond.selects yX4_hheaHolds.cls yX4_hheaHolds yX4_hheaHolds ∈ lw_good := ⟨(lw_in (tk_4 (List.mem_of_getElem? (i := 27) rfl)) rfl), (lw_sel (q := (yX4_hheaHolds, 2)) (List.mem_of_getElem? (i := 10) (by decide +kernel)) (by decide +kernel))⟩
abbrev qX4_hmtxHolds : sx_Y := (yX4_hmtxHolds, cX4_hmtxHolds, 1, (some .boolean))
theorem y0X4_hmtxHolds : sx_Y0 qX4_hmtxHolds 0 := ⟨(lw_in (tk_4 (List.mem_of_getElem? (i := 32) rfl)) rfl), (lw_in (tk_1 (List.mem_of_getElem? (i := 5) rfl)) rfl), plainFor_of_name pnX4, ⟨nhX4.1, nhX4.2, by decide +kernel⟩, by decide +kernel⟩
theorem yvX4_hmtxHolds : Cond.instanceMethod yX4_hmtxHolds ∈ lw_good ∧ Cond.selects yX4_hmtxHolds.cls yX4_hmtxHolds yX4_hmtxHolds ∈ lw_good := ⟨(lw_in (tk_4 (List.mem_of_getElem? (i := 31) rfl)) rfl), (lw_sel (q := (yX4_hmtxHolds, 2)) (List.mem_of_getElem? (i := 11) (by decide +kernel)) (by decide +kernel))⟩
abbrev qX4_placeInGlyf : sx_Y := (yX4_placeInGlyf, cX4_placeInGlyf, 3, (some .long))
theorem y0X4_placeInGlyf : sx_Y0 qX4_placeInGlyf 1 := ⟨(lw_in (tk_4 (List.mem_of_getElem? (i := 40) rfl)) rfl), (lw_in (tk_1 (List.mem_of_getElem? (i := 5) rfl)) rfl), plainFor_of_name pnX4, ⟨nhX4.1, nhX4.2, by decide +kernel⟩, by decide +kernel⟩
theorem yvX4_placeInGlyf : Cond.instanceMethod yX4_placeInGlyf ∈ lw_good ∧ Cond.selects yX4_placeInGlyf.cls yX4_placeInGlyf yX4_placeInGlyf ∈ lw_good := ⟨(lw_in (tk_4 (List.mem_of_getElem? (i := 39) rfl)) rfl), (lw_sel (q := (yX4_placeInGlyf, 2)) (List.mem_of_getElem? (i := 13) (by decide +kernel)) (by decide +kernel))⟩
abbrev qX4_locaHolds : sx_Y := (yX4_locaHolds, cX4_locaHolds, 7, (some .boolean))
theorem y0X4_locaHolds : sx_Y0 qX4_locaHolds 0 := ⟨(lw_in (tk_4 (List.mem_of_getElem? (i := 36) rfl)) rfl), (lw_in (tk_1 (List.mem_of_getElem? (i := 5) rfl)) rfl), plainFor_of_name pnX4, ⟨nhX4.1, nhX4.2, by decide +kernel⟩, by decide +kernel⟩
theorem yvX4_locaHolds : Cond.instanceMethod yX4_locaHolds ∈ lw_good ∧ Cond.selects yX4_locaHolds.cls yX4_locaHolds yX4_locaHolds ∈ lw_good := ⟨(lw_in (tk_4 (List.mem_of_getElem? (i := 35) rfl)) rfl), (lw_sel (q := (yX4_locaHolds, 2)) (List.mem_of_getElem? (i := 12) (by decide +kernel)) (by decide +kernel))⟩
abbrev qX4_cmapHolds : sx_Y := (yX4_cmapHolds, cX4_cmapHolds, 6, (some .boolean))
theorem y0X4_cmapHolds : sx_Y0 qX4_cmapHolds 0 := ⟨(lw_in (tk_4 (List.mem_of_getElem? (i := 113) rfl)) rfl), (lw_in (tk_1 (List.mem_of_getElem? (i := 5) rfl)) rfl), plainFor_of_name pnX4, ⟨nhX4.1, nhX4.2, by decide +kernel⟩, by decide +kernel⟩
theorem yvX4_cmapHolds : Cond.instanceMethod yX4_cmapHolds ∈ lw_good ∧ Cond.selects yX4_cmapHolds.cls yX4_cmapHolds yX4_cmapHolds ∈ lw_good := ⟨(lw_in (tk_4 (List.mem_of_getElem? (i := 112) rfl)) rfl), (lw_sel (q := (yX4_cmapHolds, 2)) (List.mem_of_getElem? (i := 26) (by decide +kernel)) (by decide +kernel))⟩
abbrev qX4_mapPlace : sx_Y := (yX4_mapPlace, cX4_mapPlace, 6, (some .long))
theorem y0X4_mapPlace : sx_Y0 qX4_mapPlace 3 := ⟨(lw_in (tk_4 (List.mem_of_getElem? (i := 117) rfl)) rfl), (lw_in (tk_1 (List.mem_of_getElem? (i := 5) rfl)) rfl), plainFor_of_name pnX4, ⟨nhX4.1, nhX4.2, by decide +kernel⟩, by decide +kernel⟩
theorem yvX4_mapPlace : Cond.instanceMethod yX4_mapPlace ∈ lw_good ∧ Cond.selects yX4_mapPlace.cls yX4_mapPlace yX4_mapPlace ∈ lw_good := ⟨(lw_in (tk_4 (List.mem_of_getElem? (i := 116) rfl)) rfl), (lw_sel (q := (yX4_mapPlace, 2)) (List.mem_of_getElem? (i := 27) (by decide +kernel)) (by decide +kernel))⟩
abbrev qX4_noteMap : sx_Y := (yX4_noteMap, cX4_noteMap, 5, (some .boolean))
theorem y0X4_noteMap : sx_Y0 qX4_noteMap 3 := ⟨(lw_in (tk_4 (List.mem_of_getElem? (i := 126) rfl)) rfl), (lw_in (tk_1 (List.mem_of_getElem? (i := 5) rfl)) rfl), plainFor_of_name pnX4, ⟨nhX4.1, nhX4.2, by decide +kernel⟩, by decide +kernel⟩
theorem yvX4_noteMap : Cond.instanceMethod yX4_noteMap ∈ lw_good ∧ Cond.selects yX4_noteMap.cls yX4_noteMap yX4_noteMap ∈ lw_good := ⟨(lw_in (tk_4 (List.mem_of_getElem? (i := 125) rfl)) rfl), (lw_sel (q := (yX4_noteMap, 2)) (List.mem_of_getElem? (i := 29) (by decide +kernel)) (by decide +kernel))⟩
abbrev qX4_byteMapHolds : sx_Y := (yX4_byteMapHolds, cX4_byteMapHolds, 3, (some .boolean))
theorem y0X4_byteMapHolds : sx_Y0 qX4_byteMapHolds 1 := ⟨(lw_in (tk_4 (List.mem_of_getElem? (i := 138) rfl)) rfl), (lw_in (tk_1 (List.mem_of_getElem? (i := 5) rfl)) rfl), plainFor_of_name pnX4, ⟨nhX4.1, nhX4.2, by decide +kernel⟩, by decide +kernel⟩
theorem yvX4_byteMapHolds : Cond.instanceMethod yX4_byteMapHolds ∈ lw_good ∧ Cond.selects yX4_byteMapHolds.cls yX4_byteMapHolds yX4_byteMapHolds ∈ lw_good := ⟨(lw_in (tk_4 (List.mem_of_getElem? (i := 137) rfl)) rfl), (lw_sel (q := (yX4_byteMapHolds, 2)) (List.mem_of_getElem? (i := 31) (by decide +kernel)) (by decide +kernel))⟩
abbrev qX4_segmentsHold : sx_Y := (yX4_segmentsHold, cX4_segmentsHold, 11, (some .boolean))
theorem y0X4_segmentsHold : sx_Y0 qX4_segmentsHold 1 := ⟨(lw_in (tk_4 (List.mem_of_getElem? (i := 133) rfl)) rfl), (lw_in (tk_1 (List.mem_of_getElem? (i := 5) rfl)) rfl), plainFor_of_name pnX4, ⟨nhX4.1, nhX4.2, by decide +kernel⟩, by decide +kernel⟩
theorem yvX4_segmentsHold : Cond.instanceMethod yX4_segmentsHold ∈ lw_good ∧ Cond.selects yX4_segmentsHold.cls yX4_segmentsHold yX4_segmentsHold ∈ lw_good := ⟨(lw_in (tk_4 (List.mem_of_getElem? (i := 132) rfl)) rfl), (lw_sel (q := (yX4_segmentsHold, 2)) (List.mem_of_getElem? (i := 30) (by decide +kernel)) (by decide +kernel))⟩
abbrev qX4_groupsHold : sx_Y := (yX4_groupsHold, cX4_groupsHold, 15, (some .boolean))
theorem y0X4_groupsHold : sx_Y0 qX4_groupsHold 1 := ⟨(lw_in (tk_4 (List.mem_of_getElem? (i := 122) rfl)) rfl), (lw_in (tk_1 (List.mem_of_getElem? (i := 5) rfl)) rfl), plainFor_of_name pnX4, ⟨nhX4.1, nhX4.2, by decide +kernel⟩, by decide +kernel⟩
theorem yvX4_groupsHold : Cond.instanceMethod yX4_groupsHold ∈ lw_good ∧ Cond.selects yX4_groupsHold.cls yX4_groupsHold yX4_groupsHold ∈ lw_good := ⟨(lw_in (tk_4 (List.mem_of_getElem? (i := 121) rfl)) rfl), (lw_sel (q := (yX4_groupsHold, 2)) (List.mem_of_getElem? (i := 28) (by decide +kernel)) (by decide +kernel))⟩
abbrev qX4_kernHolds : sx_Y := (yX4_kernHolds, cX4_kernHolds, 9, (some .boolean))
theorem y0X4_kernHolds : sx_Y0 qX4_kernHolds 0 := ⟨(lw_in (tk_4 (List.mem_of_getElem? (i := 142) rfl)) rfl), (lw_in (tk_1 (List.mem_of_getElem? (i := 5) rfl)) rfl), plainFor_of_name pnX4, ⟨nhX4.1, nhX4.2, by decide +kernel⟩, by decide +kernel⟩
theorem yvX4_kernHolds : Cond.instanceMethod yX4_kernHolds ∈ lw_good ∧ Cond.selects yX4_kernHolds.cls yX4_kernHolds yX4_kernHolds ∈ lw_good := ⟨(lw_in (tk_4 (List.mem_of_getElem? (i := 141) rfl)) rfl), (lw_sel (q := (yX4_kernHolds, 2)) (List.mem_of_getElem? (i := 32) (by decide +kernel)) (by decide +kernel))⟩
abbrev qX4_programsHold : sx_Y := (yX4_programsHold, cX4_programsHold, 1, (some .boolean))
theorem y0X4_programsHold : sx_Y0 qX4_programsHold 0 := ⟨(lw_in (tk_4 (List.mem_of_getElem? (i := 146) rfl)) rfl), (lw_in (tk_1 (List.mem_of_getElem? (i := 5) rfl)) rfl), plainFor_of_name pnX4, ⟨nhX4.1, nhX4.2, by decide +kernel⟩, by decide +kernel⟩
theorem yvX4_programsHold : Cond.instanceMethod yX4_programsHold ∈ lw_good ∧ Cond.selects yX4_programsHold.cls yX4_programsHold yX4_programsHold ∈ lw_good := ⟨(lw_in (tk_4 (List.mem_of_getElem? (i := 145) rfl)) rfl), (lw_sel (q := (yX4_programsHold, 2)) (List.mem_of_getElem? (i := 33) (by decide +kernel)) (by decide +kernel))⟩
abbrev qX5_init : sx_Y := (yX5_init, cX5_init, 3, none)
theorem pnX5 : plainName RX5 = true := by decide +kernel
theorem nhX5 : RX5 ≠ "java/lang/invoke/MethodHandle" ∧ RX5 ≠ "java/lang/invoke/VarHandle" := by decide +kernel
theorem y0X5_init : sx_Y0 qX5_init 2 := ⟨(lw_in (tk_2 (List.mem_of_getElem? (i := 137) rfl)) rfl), (lw_in (tk_1 (List.mem_of_getElem? (i := 9) rfl)) rfl), plainFor_of_name pnX5, ⟨nhX5.1, nhX5.2, by decide +kernel⟩, by decide +kernel⟩
theorem yiX5_init : Cond.instanceMethod yX5_init ∈ lw_good := (lw_in (tk_2 (List.mem_of_getElem? (i := 136) rfl)) rfl)
abbrev qX5_beginCount : sx_Y := (yX5_beginCount, cX5_beginCount, 1, none)
theorem y0X5_beginCount : sx_Y0 qX5_beginCount 0 := ⟨(lw_in (tk_5 (List.mem_of_getElem? (i := 6) rfl)) rfl), (lw_in (tk_1 (List.mem_of_getElem? (i := 9) rfl)) rfl), plainFor_of_name pnX5, ⟨nhX5.1, nhX5.2, by decide +kernel⟩, by decide +kernel⟩
theorem yvX5_beginCount : Cond.instanceMethod yX5_beginCount ∈ lw_good ∧ Cond.selects yX5_beginCount.cls yX5_beginCount yX5_beginCount ∈ lw_good := ⟨(lw_in (tk_5 (List.mem_of_getElem? (i := 4) rfl)) rfl), (lw_in (tk_5 (List.mem_of_getElem? (i := 5) rfl)) rfl)⟩
abbrev qX5_beginSize : sx_Y := (yX5_beginSize, cX5_beginSize, 2, none)
theorem y0X5_beginSize : sx_Y0 qX5_beginSize 1 := ⟨(lw_in (tk_4 (List.mem_of_getElem? (i := 237) rfl)) rfl), (lw_in (tk_1 (List.mem_of_getElem? (i := 9) rfl)) rfl), plainFor_of_name pnX5, ⟨nhX5.1, nhX5.2, by decide +kernel⟩, by decide +kernel⟩
theorem yvX5_beginSize : Cond.instanceMethod yX5_beginSize ∈ lw_good ∧ Cond.selects yX5_beginSize.cls yX5_beginSize yX5_beginSize ∈ lw_good := ⟨(lw_in (tk_4 (List.mem_of_getElem? (i := 235) rfl)) rfl), (lw_in (tk_4 (List.mem_of_getElem? (i := 236) rfl)) rfl)⟩
abbrev qX5_failOutside : sx_Y := (yX5_failOutside, cX5_failOutside, 2, none)
theorem y0X5_failOutside : sx_Y0 qX5_failOutside 1 := ⟨(lw_in (tk_6 (List.mem_of_getElem? (i := 210) rfl)) rfl), (lw_in (tk_1 (List.mem_of_getElem? (i := 9) rfl)) rfl), plainFor_of_name pnX5, ⟨nhX5.1, nhX5.2, by decide +kernel⟩, by decide +kernel⟩
theorem yvX5_failOutside : Cond.instanceMethod yX5_failOutside ∈ lw_good ∧ Cond.selects yX5_failOutside.cls yX5_failOutside yX5_failOutside ∈ lw_good := ⟨(lw_in (tk_6 (List.mem_of_getElem? (i := 208) rfl)) rfl), (lw_in (tk_6 (List.mem_of_getElem? (i := 209) rfl)) rfl)⟩
abbrev qX5_scaled : sx_Y := (yX5_scaled, cX5_scaled, 3, (some .long))
theorem y0X5_scaled : sx_Y0 qX5_scaled 1 := ⟨(lw_in (tk_5 (List.mem_of_getElem? (i := 124) rfl)) rfl), (lw_in (tk_1 (List.mem_of_getElem? (i := 9) rfl)) rfl), plainFor_of_name pnX5, ⟨nhX5.1, nhX5.2, by decide +kernel⟩, by decide +kernel⟩
theorem yvX5_scaled : Cond.instanceMethod yX5_scaled ∈ lw_good ∧ Cond.selects yX5_scaled.cls yX5_scaled yX5_scaled ∈ lw_good := ⟨(lw_in (tk_5 (List.mem_of_getElem? (i := 122) rfl)) rfl), (lw_in (tk_5 (List.mem_of_getElem? (i := 123) rfl)) rfl)⟩
abbrev qX5_runForSize : sx_Y := (yX5_runForSize, cX5_runForSize, 4, none)
theorem y0X5_runForSize : sx_Y0 qX5_runForSize 3 := ⟨(lw_in (tk_5 (List.mem_of_getElem? (i := 10) rfl)) rfl), (lw_in (tk_1 (List.mem_of_getElem? (i := 9) rfl)) rfl), plainFor_of_name pnX5, ⟨nhX5.1, nhX5.2, by decide +kernel⟩, by decide +kernel⟩
theorem yvX5_runForSize : Cond.instanceMethod yX5_runForSize ∈ lw_good ∧ Cond.selects yX5_runForSize.cls yX5_runForSize yX5_runForSize ∈ lw_good := ⟨(lw_in (tk_5 (List.mem_of_getElem? (i := 8) rfl)) rfl), (lw_in (tk_5 (List.mem_of_getElem? (i := 9) rfl)) rfl)⟩
abbrev qX5_run : sx_Y := (yX5_run, cX5_run, 7, none)
theorem y0X5_run : sx_Y0 qX5_run 4 := ⟨(lw_in (tk_5 (List.mem_of_getElem? (i := 14) rfl)) rfl), (lw_in (tk_1 (List.mem_of_getElem? (i := 9) rfl)) rfl), plainFor_of_name pnX5, ⟨nhX5.1, nhX5.2, by decide +kernel⟩, by decide +kernel⟩
theorem yvX5_run : Cond.instanceMethod yX5_run ∈ lw_good ∧ Cond.selects yX5_run.cls yX5_run yX5_run ∈ lw_good := ⟨(lw_in (tk_5 (List.mem_of_getElem? (i := 12) rfl)) rfl), (lw_in (tk_5 (List.mem_of_getElem? (i := 13) rfl)) rfl)⟩
abbrev qX5_isAtEnd : sx_Y := (yX5_isAtEnd, cX5_isAtEnd, 1, (some .boolean))
theorem y0X5_isAtEnd : sx_Y0 qX5_isAtEnd 0 := ⟨(lw_in (tk_5 (List.mem_of_getElem? (i := 39) rfl)) rfl), (lw_in (tk_1 (List.mem_of_getElem? (i := 9) rfl)) rfl), plainFor_of_name pnX5, ⟨nhX5.1, nhX5.2, by decide +kernel⟩, by decide +kernel⟩
theorem yvX5_isAtEnd : Cond.instanceMethod yX5_isAtEnd ∈ lw_good ∧ Cond.selects yX5_isAtEnd.cls yX5_isAtEnd yX5_isAtEnd ∈ lw_good := ⟨(lw_in (tk_5 (List.mem_of_getElem? (i := 38) rfl)) rfl), (lw_sel (q := (yX5_isAtEnd, 17)) (List.mem_of_getElem? (i := 37) (by decide +kernel)) (by decide +kernel))⟩
abbrev qX5_beginStep : sx_Y := (yX5_beginStep, cX5_beginStep, 3, (some .int))
theorem y0X5_beginStep : sx_Y0 qX5_beginStep 0 := ⟨(lw_in (tk_5 (List.mem_of_getElem? (i := 43) rfl)) rfl), (lw_in (tk_1 (List.mem_of_getElem? (i := 9) rfl)) rfl), plainFor_of_name pnX5, ⟨nhX5.1, nhX5.2, by decide +kernel⟩, by decide +kernel⟩
theorem yvX5_beginStep : Cond.instanceMethod yX5_beginStep ∈ lw_good ∧ Cond.selects yX5_beginStep.cls yX5_beginStep yX5_beginStep ∈ lw_good := ⟨(lw_in (tk_5 (List.mem_of_getElem? (i := 42) rfl)) rfl), (lw_sel (q := (yX5_beginStep, 17)) (List.mem_of_getElem? (i := 38) (by decide +kernel)) (by decide +kernel))⟩
abbrev qX5_pop : sx_Y := (yX5_pop, cX5_pop, 1, (some .int))
theorem y0X5_pop : sx_Y0 qX5_pop 0 := ⟨(lw_in (tk_5 (List.mem_of_getElem? (i := 60) rfl)) rfl), (lw_in (tk_1 (List.mem_of_getElem? (i := 9) rfl)) rfl), plainFor_of_name pnX5, ⟨nhX5.1, nhX5.2, by decide +kernel⟩, by decide +kernel⟩
theorem yvX5_pop : Cond.instanceMethod yX5_pop ∈ lw_good ∧ Cond.selects yX5_pop.cls yX5_pop yX5_pop ∈ lw_good := ⟨(lw_in (tk_5 (List.mem_of_getElem? (i := 59) rfl)) rfl), (lw_sel (q := (yX5_pop, 17)) (List.mem_of_getElem? (i := 41) (by decide +kernel)) (by decide +kernel))⟩
abbrev qX5_push : sx_Y := (yX5_push, cX5_push, 3, none)
theorem y0X5_push : sx_Y0 qX5_push 1 := ⟨(lw_in (tk_5 (List.mem_of_getElem? (i := 98) rfl)) rfl), (lw_in (tk_1 (List.mem_of_getElem? (i := 9) rfl)) rfl), plainFor_of_name pnX5, ⟨nhX5.1, nhX5.2, by decide +kernel⟩, by decide +kernel⟩
theorem yvX5_push : Cond.instanceMethod yX5_push ∈ lw_good ∧ Cond.selects yX5_push.cls yX5_push yX5_push ∈ lw_good := ⟨(lw_in (tk_5 (List.mem_of_getElem? (i := 97) rfl)) rfl), (lw_sel (q := (yX5_push, 17)) (List.mem_of_getElem? (i := 45) (by decide +kernel)) (by decide +kernel))⟩
abbrev qX5_zone : sx_Y := (yX5_zone, cX5_zone, 2, (some (.object "HintHouse$Points")))
theorem y0X5_zone : sx_Y0 qX5_zone 1 := ⟨(lw_in (tk_5 (List.mem_of_getElem? (i := 64) rfl)) rfl), (lw_in (tk_1 (List.mem_of_getElem? (i := 9) rfl)) rfl), plainFor_of_name pnX5, ⟨nhX5.1, nhX5.2, by decide +kernel⟩, by decide +kernel⟩
theorem yvX5_zone : Cond.instanceMethod yX5_zone ∈ lw_good ∧ Cond.selects yX5_zone.cls yX5_zone yX5_zone ∈ lw_good := ⟨(lw_in (tk_5 (List.mem_of_getElem? (i := 63) rfl)) rfl), (lw_sel (q := (yX5_zone, 17)) (List.mem_of_getElem? (i := 42) (by decide +kernel)) (by decide +kernel))⟩
abbrev qX5_isThere : sx_Y := (yX5_isThere, cX5_isThere, 3, (some .boolean))
theorem y0X5_isThere : sx_Y0 qX5_isThere 2 := ⟨(lw_in (tk_5 (List.mem_of_getElem? (i := 68) rfl)) rfl), (lw_in (tk_1 (List.mem_of_getElem? (i := 9) rfl)) rfl), plainFor_of_name pnX5, ⟨nhX5.1, nhX5.2, by decide +kernel⟩, by decide +kernel⟩
theorem yvX5_isThere : Cond.instanceMethod yX5_isThere ∈ lw_good ∧ Cond.selects yX5_isThere.cls yX5_isThere yX5_isThere ∈ lw_good := ⟨(lw_in (tk_5 (List.mem_of_getElem? (i := 67) rfl)) rfl), (lw_sel (q := (yX5_isThere, 17)) (List.mem_of_getElem? (i := 43) (by decide +kernel)) (by decide +kernel))⟩
abbrev qX5_longByP : sx_Y := (yX5_longByP, cX5_longByP, 5, (some .long))
theorem y0X5_longByP : sx_Y0 qX5_longByP 2 := ⟨(lw_in (tk_6 (List.mem_of_getElem? (i := 63) rfl)) rfl), (lw_in (tk_1 (List.mem_of_getElem? (i := 9) rfl)) rfl), plainFor_of_name pnX5, ⟨nhX5.1, nhX5.2, by decide +kernel⟩, by decide +kernel⟩
theorem yvX5_longByP : Cond.instanceMethod yX5_longByP ∈ lw_good ∧ Cond.selects yX5_longByP.cls yX5_longByP yX5_longByP ∈ lw_good := ⟨(lw_in (tk_6 (List.mem_of_getElem? (i := 62) rfl)) rfl), (lw_sel (q := (yX5_longByP, 17)) (List.mem_of_getElem? (i := 84) (by decide +kernel)) (by decide +kernel))⟩
abbrev qX5_longByD : sx_Y := (yX5_longByD, cX5_longByD, 5, (some .long))
theorem y0X5_longByD : sx_Y0 qX5_longByD 2 := ⟨(lw_in (tk_6 (List.mem_of_getElem? (i := 87) rfl)) rfl), (lw_in (tk_1 (List.mem_of_getElem? (i := 9) rfl)) rfl), plainFor_of_name pnX5, ⟨nhX5.1, nhX5.2, by decide +kernel⟩, by decide +kernel⟩
theorem yvX5_longByD : Cond.instanceMethod yX5_longByD ∈ lw_good ∧ Cond.selects yX5_longByD.cls yX5_longByD yX5_longByD ∈ lw_good := ⟨(lw_in (tk_6 (List.mem_of_getElem? (i := 86) rfl)) rfl), (lw_sel (q := (yX5_longByD, 17)) (List.mem_of_getElem? (i := 89) (by decide +kernel)) (by decide +kernel))⟩
abbrev qX5_longBetween : sx_Y := (yX5_longBetween, cX5_longBetween, 9, (some .long))
theorem y0X5_longBetween : sx_Y0 qX5_longBetween 4 := ⟨(lw_in (tk_6 (List.mem_of_getElem? (i := 39) rfl)) rfl), (lw_in (tk_1 (List.mem_of_getElem? (i := 9) rfl)) rfl), plainFor_of_name pnX5, ⟨nhX5.1, nhX5.2, by decide +kernel⟩, by decide +kernel⟩
theorem yvX5_longBetween : Cond.instanceMethod yX5_longBetween ∈ lw_good ∧ Cond.selects yX5_longBetween.cls yX5_longBetween yX5_longBetween ∈ lw_good := ⟨(lw_in (tk_6 (List.mem_of_getElem? (i := 38) rfl)) rfl), (lw_sel (q := (yX5_longBetween, 17)) (List.mem_of_getElem? (i := 79) (by decide +kernel)) (by decide +kernel))⟩
abbrev qX5_originalBetween : sx_Y := (yX5_originalBetween, cX5_originalBetween, 9, (some .long))
theorem y0X5_originalBetween : sx_Y0 qX5_originalBetween 4 := ⟨(lw_in (tk_6 (List.mem_of_getElem? (i := 99) rfl)) rfl), (lw_in (tk_1 (List.mem_of_getElem? (i := 9) rfl)) rfl), plainFor_of_name pnX5, ⟨nhX5.1, nhX5.2, by decide +kernel⟩, by decide +kernel⟩
theorem yvX5_originalBetween : Cond.instanceMethod yX5_originalBetween ∈ lw_good ∧ Cond.selects yX5_originalBetween.cls yX5_originalBetween yX5_originalBetween ∈ lw_good := ⟨(lw_in (tk_6 (List.mem_of_getElem? (i := 98) rfl)) rfl), (lw_sel (q := (yX5_originalBetween, 17)) (List.mem_of_getElem? (i := 92) (by decide +kernel)) (by decide +kernel))⟩
abbrev qX5_move : sx_Y := (yX5_move, cX5_move, 7, none)
theorem y0X5_move : sx_Y0 qX5_move 3 := ⟨(lw_in (tk_6 (List.mem_of_getElem? (i := 45) rfl)) rfl), (lw_in (tk_1 (List.mem_of_getElem? (i := 9) rfl)) rfl), plainFor_of_name pnX5, ⟨nhX5.1, nhX5.2, by decide +kernel⟩, by decide +kernel⟩
theorem yvX5_move : Cond.instanceMethod yX5_move ∈ lw_good ∧ Cond.selects yX5_move.cls yX5_move yX5_move ∈ lw_good := ⟨(lw_in (tk_6 (List.mem_of_getElem? (i := 44) rfl)) rfl), (lw_sel (q := (yX5_move, 17)) (List.mem_of_getElem? (i := 80) (by decide +kernel)) (by decide +kernel))⟩
abbrev qX5_touchBits : sx_Y := (yX5_touchBits, cX5_touchBits, 1, (some .int))
theorem y0X5_touchBits : sx_Y0 qX5_touchBits 0 := ⟨(lw_in (tk_6 (List.mem_of_getElem? (i := 51) rfl)) rfl), (lw_in (tk_1 (List.mem_of_getElem? (i := 9) rfl)) rfl), plainFor_of_name pnX5, ⟨nhX5.1, nhX5.2, by decide +kernel⟩, by decide +kernel⟩
theorem yvX5_touchBits : Cond.instanceMethod yX5_touchBits ∈ lw_good ∧ Cond.selects yX5_touchBits.cls yX5_touchBits yX5_touchBits ∈ lw_good := ⟨(lw_in (tk_6 (List.mem_of_getElem? (i := 50) rfl)) rfl), (lw_sel (q := (yX5_touchBits, 17)) (List.mem_of_getElem? (i := 81) (by decide +kernel)) (by decide +kernel))⟩
abbrev qX5_vectorCodes : sx_Y := (yX5_vectorCodes, cX5_vectorCodes, 2, none)
theorem y0X5_vectorCodes : sx_Y0 qX5_vectorCodes 1 := ⟨(lw_in (tk_5 (List.mem_of_getElem? (i := 52) rfl)) rfl), (lw_in (tk_1 (List.mem_of_getElem? (i := 9) rfl)) rfl), plainFor_of_name pnX5, ⟨nhX5.1, nhX5.2, by decide +kernel⟩, by decide +kernel⟩
theorem yvX5_vectorCodes : Cond.instanceMethod yX5_vectorCodes ∈ lw_good ∧ Cond.selects yX5_vectorCodes.cls yX5_vectorCodes yX5_vectorCodes ∈ lw_good := ⟨(lw_in (tk_5 (List.mem_of_getElem? (i := 51) rfl)) rfl), (lw_sel (q := (yX5_vectorCodes, 17)) (List.mem_of_getElem? (i := 39) (by decide +kernel)) (by decide +kernel))⟩
abbrev qX5_goAlongNumbers : sx_Y := (yX5_goAlongNumbers, cX5_goAlongNumbers, 4, none)
theorem y0X5_goAlongNumbers : sx_Y0 qX5_goAlongNumbers 1 := ⟨(lw_in (tk_5 (List.mem_of_getElem? (i := 94) rfl)) rfl), (lw_in (tk_1 (List.mem_of_getElem? (i := 9) rfl)) rfl), plainFor_of_name pnX5, ⟨nhX5.1, nhX5.2, by decide +kernel⟩, by decide +kernel⟩
theorem yvX5_goAlongNumbers : Cond.instanceMethod yX5_goAlongNumbers ∈ lw_good ∧ Cond.selects yX5_goAlongNumbers.cls yX5_goAlongNumbers yX5_goAlongNumbers ∈ lw_good := ⟨(lw_in (tk_5 (List.mem_of_getElem? (i := 93) rfl)) rfl), (lw_sel (q := (yX5_goAlongNumbers, 17)) (List.mem_of_getElem? (i := 44) (by decide +kernel)) (by decide +kernel))⟩
abbrev qX5_goAlongLine : sx_Y := (yX5_goAlongLine, cX5_goAlongLine, 6, none)
theorem y0X5_goAlongLine : sx_Y0 qX5_goAlongLine 1 := ⟨(lw_in (tk_5 (List.mem_of_getElem? (i := 56) rfl)) rfl), (lw_in (tk_1 (List.mem_of_getElem? (i := 9) rfl)) rfl), plainFor_of_name pnX5, ⟨nhX5.1, nhX5.2, by decide +kernel⟩, by decide +kernel⟩
theorem yvX5_goAlongLine : Cond.instanceMethod yX5_goAlongLine ∈ lw_good ∧ Cond.selects yX5_goAlongLine.cls yX5_goAlongLine yX5_goAlongLine ∈ lw_good := ⟨(lw_in (tk_5 (List.mem_of_getElem? (i := 55) rfl)) rfl), (lw_sel (q := (yX5_goAlongLine, 17)) (List.mem_of_getElem? (i := 40) (by decide +kernel)) (by decide +kernel))⟩
abbrev qX5_goAlongBothLines : sx_Y := (yX5_goAlongBothLines, cX5_goAlongBothLines, 6, none)
theorem y0X5_goAlongBothLines : sx_Y0 qX5_goAlongBothLines 1 := ⟨(lw_in (tk_5 (List.mem_of_getElem? (i := 102) rfl)) rfl), (lw_in (tk_1 (List.mem_of_getElem? (i := 9) rfl)) rfl), plainFor_of_name pnX5, ⟨nhX5.1, nhX5.2, by decide +kernel⟩, by decide +kernel⟩
theorem yvX5_goAlongBothLines : Cond.instanceMethod yX5_goAlongBothLines ∈ lw_good ∧ Cond.selects yX5_goAlongBothLines.cls yX5_goAlongBothLines yX5_goAlongBothLines ∈ lw_good := ⟨(lw_in (tk_5 (List.mem_of_getElem? (i := 101) rfl)) rfl), (lw_sel (q := (yX5_goAlongBothLines, 17)) (List.mem_of_getElem? (i := 46) (by decide +kernel)) (by decide +kernel))⟩
abbrev qX5_settingCodes : sx_Y := (yX5_settingCodes, cX5_settingCodes, 4, none)
theorem y0X5_settingCodes : sx_Y0 qX5_settingCodes 1 := ⟨(lw_in (tk_5 (List.mem_of_getElem? (i := 107) rfl)) rfl), (lw_in (tk_1 (List.mem_of_getElem? (i := 9) rfl)) rfl), plainFor_of_name pnX5, ⟨nhX5.1, nhX5.2, by decide +kernel⟩, by decide +kernel⟩
theorem yvX5_settingCodes : Cond.instanceMethod yX5_settingCodes ∈ lw_good ∧ Cond.selects yX5_settingCodes.cls yX5_settingCodes yX5_settingCodes ∈ lw_good := ⟨(lw_in (tk_5 (List.mem_of_getElem? (i := 106) rfl)) rfl), (lw_sel (q := (yX5_settingCodes, 17)) (List.mem_of_getElem? (i := 47) (by decide +kernel)) (by decide +kernel))⟩
abbrev qX5_isZone : sx_Y := (yX5_isZone, cX5_isZone, 2, (some .boolean))
theorem y0X5_isZone : sx_Y0 qX5_isZone 1 := ⟨(lw_in (tk_5 (List.mem_of_getElem? (i := 115) rfl)) rfl), (lw_in (tk_1 (List.mem_of_getElem? (i := 9) rfl)) rfl), plainFor_of_name pnX5, ⟨nhX5.1, nhX5.2, by decide +kernel⟩, by decide +kernel⟩
theorem yvX5_isZone : Cond.instanceMethod yX5_isZone ∈ lw_good ∧ Cond.selects yX5_isZone.cls yX5_isZone yX5_isZone ∈ lw_good := ⟨(lw_in (tk_5 (List.mem_of_getElem? (i := 114) rfl)) rfl), (lw_sel (q := (yX5_isZone, 17)) (List.mem_of_getElem? (i := 49) (by decide +kernel)) (by decide +kernel))⟩
abbrev qX5_setZones : sx_Y := (yX5_setZones, cX5_setZones, 4, none)
theorem y0X5_setZones : sx_Y0 qX5_setZones 2 := ⟨(lw_in (tk_5 (List.mem_of_getElem? (i := 111) rfl)) rfl), (lw_in (tk_1 (List.mem_of_getElem? (i := 9) rfl)) rfl), plainFor_of_name pnX5, ⟨nhX5.1, nhX5.2, by decide +kernel⟩, by decide +kernel⟩
theorem yvX5_setZones : Cond.instanceMethod yX5_setZones ∈ lw_good ∧ Cond.selects yX5_setZones.cls yX5_setZones yX5_setZones ∈ lw_good := ⟨(lw_in (tk_5 (List.mem_of_getElem? (i := 110) rfl)) rfl), (lw_sel (q := (yX5_setZones, 17)) (List.mem_of_getElem? (i := 48) (by decide +kernel)) (by decide +kernel))⟩
abbrev qX5_setLoop : sx_Y := (yX5_setLoop, cX5_setLoop, 2, none)
theorem y0X5_setLoop : sx_Y0 qX5_setLoop 1 := ⟨(lw_in (tk_5 (List.mem_of_getElem? (i := 119) rfl)) rfl), (lw_in (tk_1 (List.mem_of_getElem? (i := 9) rfl)) rfl), plainFor_of_name pnX5, ⟨nhX5.1, nhX5.2, by decide +kernel⟩, by decide +kernel⟩
theorem yvX5_setLoop : Cond.instanceMethod yX5_setLoop ∈ lw_good ∧ Cond.selects yX5_setLoop.cls yX5_setLoop yX5_setLoop ∈ lw_good := ⟨(lw_in (tk_5 (List.mem_of_getElem? (i := 118) rfl)) rfl), (lw_sel (q := (yX5_setLoop, 17)) (List.mem_of_getElem? (i := 50) (by decide +kernel)) (by decide +kernel))⟩
abbrev qX5_setShift : sx_Y := (yX5_setShift, cX5_setShift, 2, none)
theorem y0X5_setShift : sx_Y0 qX5_setShift 1 := ⟨(lw_in (tk_5 (List.mem_of_getElem? (i := 130) rfl)) rfl), (lw_in (tk_1 (List.mem_of_getElem? (i := 9) rfl)) rfl), plainFor_of_name pnX5, ⟨nhX5.1, nhX5.2, by decide +kernel⟩, by decide +kernel⟩
theorem yvX5_setShift : Cond.instanceMethod yX5_setShift ∈ lw_good ∧ Cond.selects yX5_setShift.cls yX5_setShift yX5_setShift ∈ lw_good := ⟨(lw_in (tk_5 (List.mem_of_getElem? (i := 129) rfl)) rfl), (lw_sel (q := (yX5_setShift, 17)) (List.mem_of_getElem? (i := 51) (by decide +kernel)) (by decide +kernel))⟩
abbrev qX5_flowCodes : sx_Y := (yX5_flowCodes, cX5_flowCodes, 2, none)
theorem y0X5_flowCodes : sx_Y0 qX5_flowCodes 1 := ⟨(lw_in (tk_5 (List.mem_of_getElem? (i := 139) rfl)) rfl), (lw_in (tk_1 (List.mem_of_getElem? (i := 9) rfl)) rfl), plainFor_of_name pnX5, ⟨nhX5.1, nhX5.2, by decide +kernel⟩, by decide +kernel⟩
theorem yvX5_flowCodes : Cond.instanceMethod yX5_flowCodes ∈ lw_good ∧ Cond.selects yX5_flowCodes.cls yX5_flowCodes yX5_flowCodes ∈ lw_good := ⟨(lw_in (tk_5 (List.mem_of_getElem? (i := 138) rfl)) rfl), (lw_sel (q := (yX5_flowCodes, 17)) (List.mem_of_getElem? (i := 52) (by decide +kernel)) (by decide +kernel))⟩
abbrev qX5_jumpIf : sx_Y := (yX5_jumpIf, cX5_jumpIf, 4, none)
theorem y0X5_jumpIf : sx_Y0 qX5_jumpIf 1 := ⟨(lw_in (tk_5 (List.mem_of_getElem? (i := 191) rfl)) rfl), (lw_in (tk_1 (List.mem_of_getElem? (i := 9) rfl)) rfl), plainFor_of_name pnX5, ⟨nhX5.1, nhX5.2, by decide +kernel⟩, by decide +kernel⟩
theorem yvX5_jumpIf : Cond.instanceMethod yX5_jumpIf ∈ lw_good ∧ Cond.selects yX5_jumpIf.cls yX5_jumpIf yX5_jumpIf ∈ lw_good := ⟨(lw_in (tk_5 (List.mem_of_getElem? (i := 190) rfl)) rfl), (lw_sel (q := (yX5_jumpIf, 17)) (List.mem_of_getElem? (i := 64) (by decide +kernel)) (by decide +kernel))⟩
abbrev qX5_jump : sx_Y := (yX5_jump, cX5_jump, 4, none)
theorem y0X5_jump : sx_Y0 qX5_jump 1 := ⟨(lw_in (tk_5 (List.mem_of_getElem? (i := 151) rfl)) rfl), (lw_in (tk_1 (List.mem_of_getElem? (i := 9) rfl)) rfl), plainFor_of_name pnX5, ⟨nhX5.1, nhX5.2, by decide +kernel⟩, by decide +kernel⟩
theorem yvX5_jump : Cond.instanceMethod yX5_jump ∈ lw_good ∧ Cond.selects yX5_jump.cls yX5_jump yX5_jump ∈ lw_good := ⟨(lw_in (tk_5 (List.mem_of_getElem? (i := 150) rfl)) rfl), (lw_sel (q := (yX5_jump, 17)) (List.mem_of_getElem? (i := 55) (by decide +kernel)) (by decide +kernel))⟩
abbrev qX5_passCode : sx_Y := (yX5_passCode, cX5_passCode, 3, (some .boolean))
theorem y0X5_passCode : sx_Y0 qX5_passCode 0 := ⟨(lw_in (tk_5 (List.mem_of_getElem? (i := 147) rfl)) rfl), (lw_in (tk_1 (List.mem_of_getElem? (i := 9) rfl)) rfl), plainFor_of_name pnX5, ⟨nhX5.1, nhX5.2, by decide +kernel⟩, by decide +kernel⟩
theorem yvX5_passCode : Cond.instanceMethod yX5_passCode ∈ lw_good ∧ Cond.selects yX5_passCode.cls yX5_passCode yX5_passCode ∈ lw_good := ⟨(lw_in (tk_5 (List.mem_of_getElem? (i := 146) rfl)) rfl), (lw_sel (q := (yX5_passCode, 17)) (List.mem_of_getElem? (i := 54) (by decide +kernel)) (by decide +kernel))⟩
abbrev qX5_passBranch : sx_Y := (yX5_passBranch, cX5_passBranch, 5, none)
theorem y0X5_passBranch : sx_Y0 qX5_passBranch 1 := ⟨(lw_in (tk_5 (List.mem_of_getElem? (i := 143) rfl)) rfl), (lw_in (tk_1 (List.mem_of_getElem? (i := 9) rfl)) rfl), plainFor_of_name pnX5, ⟨nhX5.1, nhX5.2, by decide +kernel⟩, by decide +kernel⟩
theorem yvX5_passBranch : Cond.instanceMethod yX5_passBranch ∈ lw_good ∧ Cond.selects yX5_passBranch.cls yX5_passBranch yX5_passBranch ∈ lw_good := ⟨(lw_in (tk_5 (List.mem_of_getElem? (i := 142) rfl)) rfl), (lw_sel (q := (yX5_passBranch, 17)) (List.mem_of_getElem? (i := 53) (by decide +kernel)) (by decide +kernel))⟩
abbrev qX5_passDefinition : sx_Y := (yX5_passDefinition, cX5_passDefinition, 3, none)
theorem y0X5_passDefinition : sx_Y0 qX5_passDefinition 0 := ⟨(lw_in (tk_5 (List.mem_of_getElem? (i := 183) rfl)) rfl), (lw_in (tk_1 (List.mem_of_getElem? (i := 9) rfl)) rfl), plainFor_of_name pnX5, ⟨nhX5.1, nhX5.2, by decide +kernel⟩, by decide +kernel⟩
theorem yvX5_passDefinition : Cond.instanceMethod yX5_passDefinition ∈ lw_good ∧ Cond.selects yX5_passDefinition.cls yX5_passDefinition yX5_passDefinition ∈ lw_good := ⟨(lw_in (tk_5 (List.mem_of_getElem? (i := 182) rfl)) rfl), (lw_sel (q := (yX5_passDefinition, 17)) (List.mem_of_getElem? (i := 62) (by decide +kernel)) (by decide +kernel))⟩
abbrev qX5_isDefining : sx_Y := (yX5_isDefining, cX5_isDefining, 1, (some .boolean))
theorem y0X5_isDefining : sx_Y0 qX5_isDefining 0 := ⟨(lw_in (tk_5 (List.mem_of_getElem? (i := 175) rfl)) rfl), (lw_in (tk_1 (List.mem_of_getElem? (i := 9) rfl)) rfl), plainFor_of_name pnX5, ⟨nhX5.1, nhX5.2, by decide +kernel⟩, by decide +kernel⟩
theorem yvX5_isDefining : Cond.instanceMethod yX5_isDefining ∈ lw_good ∧ Cond.selects yX5_isDefining.cls yX5_isDefining yX5_isDefining ∈ lw_good := ⟨(lw_in (tk_5 (List.mem_of_getElem? (i := 174) rfl)) rfl), (lw_sel (q := (yX5_isDefining, 17)) (List.mem_of_getElem? (i := 60) (by decide +kernel)) (by decide +kernel))⟩
abbrev qX5_noteFunction : sx_Y := (yX5_noteFunction, cX5_noteFunction, 2, (some .boolean))
theorem y0X5_noteFunction : sx_Y0 qX5_noteFunction 0 := ⟨(lw_in (tk_5 (List.mem_of_getElem? (i := 171) rfl)) rfl), (lw_in (tk_1 (List.mem_of_getElem? (i := 9) rfl)) rfl), plainFor_of_name pnX5, ⟨nhX5.1, nhX5.2, by decide +kernel⟩, by decide +kernel⟩
theorem yvX5_noteFunction : Cond.instanceMethod yX5_noteFunction ∈ lw_good ∧ Cond.selects yX5_noteFunction.cls yX5_noteFunction yX5_noteFunction ∈ lw_good := ⟨(lw_in (tk_5 (List.mem_of_getElem? (i := 170) rfl)) rfl), (lw_sel (q := (yX5_noteFunction, 17)) (List.mem_of_getElem? (i := 59) (by decide +kernel)) (by decide +kernel))⟩
abbrev qX5_noteOwnCode : sx_Y := (yX5_noteOwnCode, cX5_noteOwnCode, 3, (some .boolean))
theorem y0X5_noteOwnCode : sx_Y0 qX5_noteOwnCode 0 := ⟨(lw_in (tk_5 (List.mem_of_getElem? (i := 195) rfl)) rfl), (lw_in (tk_1 (List.mem_of_getElem? (i := 9) rfl)) rfl), plainFor_of_name pnX5, ⟨nhX5.1, nhX5.2, by decide +kernel⟩, by decide +kernel⟩
theorem yvX5_noteOwnCode : Cond.instanceMethod yX5_noteOwnCode ∈ lw_good ∧ Cond.selects yX5_noteOwnCode.cls yX5_noteOwnCode yX5_noteOwnCode ∈ lw_good := ⟨(lw_in (tk_5 (List.mem_of_getElem? (i := 194) rfl)) rfl), (lw_sel (q := (yX5_noteOwnCode, 17)) (List.mem_of_getElem? (i := 65) (by decide +kernel)) (by decide +kernel))⟩
abbrev qX5_noteRoutine : sx_Y := (yX5_noteRoutine, cX5_noteRoutine, 2, none)
theorem y0X5_noteRoutine : sx_Y0 qX5_noteRoutine 1 := ⟨(lw_in (tk_5 (List.mem_of_getElem? (i := 179) rfl)) rfl), (lw_in (tk_1 (List.mem_of_getElem? (i := 9) rfl)) rfl), plainFor_of_name pnX5, ⟨nhX5.1, nhX5.2, by decide +kernel⟩, by decide +kernel⟩
theorem yvX5_noteRoutine : Cond.instanceMethod yX5_noteRoutine ∈ lw_good ∧ Cond.selects yX5_noteRoutine.cls yX5_noteRoutine yX5_noteRoutine ∈ lw_good := ⟨(lw_in (tk_5 (List.mem_of_getElem? (i := 178) rfl)) rfl), (lw_sel (q := (yX5_noteRoutine, 17)) (List.mem_of_getElem? (i := 61) (by decide +kernel)) (by decide +kernel))⟩
abbrev qX5_callOnce : sx_Y := (yX5_callOnce, cX5_callOnce, 2, none)
theorem y0X5_callOnce : sx_Y0 qX5_callOnce 0 := ⟨(lw_in (tk_5 (List.mem_of_getElem? (i := 167) rfl)) rfl), (lw_in (tk_1 (List.mem_of_getElem? (i := 9) rfl)) rfl), plainFor_of_name pnX5, ⟨nhX5.1, nhX5.2, by decide +kernel⟩, by decide +kernel⟩
theorem yvX5_callOnce : Cond.instanceMethod yX5_callOnce ∈ lw_good ∧ Cond.selects yX5_callOnce.cls yX5_callOnce yX5_callOnce ∈ lw_good := ⟨(lw_in (tk_5 (List.mem_of_getElem? (i := 166) rfl)) rfl), (lw_sel (q := (yX5_callOnce, 17)) (List.mem_of_getElem? (i := 58) (by decide +kernel)) (by decide +kernel))⟩
abbrev qX5_callTimes : sx_Y := (yX5_callTimes, cX5_callTimes, 3, none)
theorem y0X5_callTimes : sx_Y0 qX5_callTimes 0 := ⟨(lw_in (tk_5 (List.mem_of_getElem? (i := 155) rfl)) rfl), (lw_in (tk_1 (List.mem_of_getElem? (i := 9) rfl)) rfl), plainFor_of_name pnX5, ⟨nhX5.1, nhX5.2, by decide +kernel⟩, by decide +kernel⟩
theorem yvX5_callTimes : Cond.instanceMethod yX5_callTimes ∈ lw_good ∧ Cond.selects yX5_callTimes.cls yX5_callTimes yX5_callTimes ∈ lw_good := ⟨(lw_in (tk_5 (List.mem_of_getElem? (i := 154) rfl)) rfl), (lw_sel (q := (yX5_callTimes, 17)) (List.mem_of_getElem? (i := 56) (by decide +kernel)) (by decide +kernel))⟩
abbrev qX5_callOwnCode : sx_Y := (yX5_callOwnCode, cX5_callOwnCode, 3, none)
theorem y0X5_callOwnCode : sx_Y0 qX5_callOwnCode 1 := ⟨(lw_in (tk_6 (List.mem_of_getElem? (i := 192) rfl)) rfl), (lw_in (tk_1 (List.mem_of_getElem? (i := 9) rfl)) rfl), plainFor_of_name pnX5, ⟨nhX5.1, nhX5.2, by decide +kernel⟩, by decide +kernel⟩
theorem yvX5_callOwnCode : Cond.instanceMethod yX5_callOwnCode ∈ lw_good ∧ Cond.selects yX5_callOwnCode.cls yX5_callOwnCode yX5_callOwnCode ∈ lw_good := ⟨(lw_in (tk_6 (List.mem_of_getElem? (i := 191) rfl)) rfl), (lw_sel (q := (yX5_callOwnCode, 17)) (List.mem_of_getElem? (i := 114) (by decide +kernel)) (by decide +kernel))⟩
abbrev qX5_enter : sx_Y := (yX5_enter, cX5_enter, 4, none)
theorem y0X5_enter : sx_Y0 qX5_enter 2 := ⟨(lw_in (tk_5 (List.mem_of_getElem? (i := 163) rfl)) rfl), (lw_in (tk_1 (List.mem_of_getElem? (i := 9) rfl)) rfl), plainFor_of_name pnX5, ⟨nhX5.1, nhX5.2, by decide +kernel⟩, by decide +kernel⟩
theorem yvX5_enter : Cond.instanceMethod yX5_enter ∈ lw_good ∧ Cond.selects yX5_enter.cls yX5_enter yX5_enter ∈ lw_good := ⟨(lw_in (tk_5 (List.mem_of_getElem? (i := 162) rfl)) rfl), (lw_sel (q := (yX5_enter, 17)) (List.mem_of_getElem? (i := 57) (by decide +kernel)) (by decide +kernel))⟩
abbrev qX5_endRoutine : sx_Y := (yX5_endRoutine, cX5_endRoutine, 2, none)
theorem y0X5_endRoutine : sx_Y0 qX5_endRoutine 0 := ⟨(lw_in (tk_5 (List.mem_of_getElem? (i := 187) rfl)) rfl), (lw_in (tk_1 (List.mem_of_getElem? (i := 9) rfl)) rfl), plainFor_of_name pnX5, ⟨nhX5.1, nhX5.2, by decide +kernel⟩, by decide +kernel⟩
theorem yvX5_endRoutine : Cond.instanceMethod yX5_endRoutine ∈ lw_good ∧ Cond.selects yX5_endRoutine.cls yX5_endRoutine yX5_endRoutine ∈ lw_good := ⟨(lw_in (tk_5 (List.mem_of_getElem? (i := 186) rfl)) rfl), (lw_sel (q := (yX5_endRoutine, 17)) (List.mem_of_getElem? (i := 63) (by decide +kernel)) (by decide +kernel))⟩
abbrev qX5_stackCodes : sx_Y := (yX5_stackCodes, cX5_stackCodes, 2, none)
theorem y0X5_stackCodes : sx_Y0 qX5_stackCodes 1 := ⟨(lw_in (tk_5 (List.mem_of_getElem? (i := 206) rfl)) rfl), (lw_in (tk_1 (List.mem_of_getElem? (i := 9) rfl)) rfl), plainFor_of_name pnX5, ⟨nhX5.1, nhX5.2, by decide +kernel⟩, by decide +kernel⟩
theorem yvX5_stackCodes : Cond.instanceMethod yX5_stackCodes ∈ lw_good ∧ Cond.selects yX5_stackCodes.cls yX5_stackCodes yX5_stackCodes ∈ lw_good := ⟨(lw_in (tk_5 (List.mem_of_getElem? (i := 205) rfl)) rfl), (lw_sel (q := (yX5_stackCodes, 17)) (List.mem_of_getElem? (i := 66) (by decide +kernel)) (by decide +kernel))⟩
abbrev qX5_doubleTop : sx_Y := (yX5_doubleTop, cX5_doubleTop, 2, none)
theorem y0X5_doubleTop : sx_Y0 qX5_doubleTop 0 := ⟨(lw_in (tk_5 (List.mem_of_getElem? (i := 210) rfl)) rfl), (lw_in (tk_1 (List.mem_of_getElem? (i := 9) rfl)) rfl), plainFor_of_name pnX5, ⟨nhX5.1, nhX5.2, by decide +kernel⟩, by decide +kernel⟩
theorem yvX5_doubleTop : Cond.instanceMethod yX5_doubleTop ∈ lw_good ∧ Cond.selects yX5_doubleTop.cls yX5_doubleTop yX5_doubleTop ∈ lw_good := ⟨(lw_in (tk_5 (List.mem_of_getElem? (i := 209) rfl)) rfl), (lw_sel (q := (yX5_doubleTop, 17)) (List.mem_of_getElem? (i := 67) (by decide +kernel)) (by decide +kernel))⟩
abbrev qX5_rollTop : sx_Y := (yX5_rollTop, cX5_rollTop, 4, none)
theorem y0X5_rollTop : sx_Y0 qX5_rollTop 1 := ⟨(lw_in (tk_5 (List.mem_of_getElem? (i := 214) rfl)) rfl), (lw_in (tk_1 (List.mem_of_getElem? (i := 9) rfl)) rfl), plainFor_of_name pnX5, ⟨nhX5.1, nhX5.2, by decide +kernel⟩, by decide +kernel⟩
theorem yvX5_rollTop : Cond.instanceMethod yX5_rollTop ∈ lw_good ∧ Cond.selects yX5_rollTop.cls yX5_rollTop yX5_rollTop ∈ lw_good := ⟨(lw_in (tk_5 (List.mem_of_getElem? (i := 213) rfl)) rfl), (lw_sel (q := (yX5_rollTop, 17)) (List.mem_of_getElem? (i := 68) (by decide +kernel)) (by decide +kernel))⟩
abbrev qX5_reachBelow : sx_Y := (yX5_reachBelow, cX5_reachBelow, 3, none)
theorem y0X5_reachBelow : sx_Y0 qX5_reachBelow 1 := ⟨(lw_in (tk_5 (List.mem_of_getElem? (i := 218) rfl)) rfl), (lw_in (tk_1 (List.mem_of_getElem? (i := 9) rfl)) rfl), plainFor_of_name pnX5, ⟨nhX5.1, nhX5.2, by decide +kernel⟩, by decide +kernel⟩
theorem yvX5_reachBelow : Cond.instanceMethod yX5_reachBelow ∈ lw_good ∧ Cond.selects yX5_reachBelow.cls yX5_reachBelow yX5_reachBelow ∈ lw_good := ⟨(lw_in (tk_5 (List.mem_of_getElem? (i := 217) rfl)) rfl), (lw_sel (q := (yX5_reachBelow, 17)) (List.mem_of_getElem? (i := 69) (by decide +kernel)) (by decide +kernel))⟩
abbrev qX5_pushCounted : sx_Y := (yX5_pushCounted, cX5_pushCounted, 3, none)
theorem y0X5_pushCounted : sx_Y0 qX5_pushCounted 1 := ⟨(lw_in (tk_5 (List.mem_of_getElem? (i := 222) rfl)) rfl), (lw_in (tk_1 (List.mem_of_getElem? (i := 9) rfl)) rfl), plainFor_of_name pnX5, ⟨nhX5.1, nhX5.2, by decide +kernel⟩, by decide +kernel⟩
theorem yvX5_pushCounted : Cond.instanceMethod yX5_pushCounted ∈ lw_good ∧ Cond.selects yX5_pushCounted.cls yX5_pushCounted yX5_pushCounted ∈ lw_good := ⟨(lw_in (tk_5 (List.mem_of_getElem? (i := 221) rfl)) rfl), (lw_sel (q := (yX5_pushCounted, 17)) (List.mem_of_getElem? (i := 70) (by decide +kernel)) (by decide +kernel))⟩
abbrev qX5_pushBehind : sx_Y := (yX5_pushBehind, cX5_pushBehind, 4, none)
theorem y0X5_pushBehind : sx_Y0 qX5_pushBehind 2 := ⟨(lw_in (tk_5 (List.mem_of_getElem? (i := 226) rfl)) rfl), (lw_in (tk_1 (List.mem_of_getElem? (i := 9) rfl)) rfl), plainFor_of_name pnX5, ⟨nhX5.1, nhX5.2, by decide +kernel⟩, by decide +kernel⟩
theorem yvX5_pushBehind : Cond.instanceMethod yX5_pushBehind ∈ lw_good ∧ Cond.selects yX5_pushBehind.cls yX5_pushBehind yX5_pushBehind ∈ lw_good := ⟨(lw_in (tk_5 (List.mem_of_getElem? (i := 225) rfl)) rfl), (lw_sel (q := (yX5_pushBehind, 17)) (List.mem_of_getElem? (i := 71) (by decide +kernel)) (by decide +kernel))⟩
abbrev qX5_memoryCodes : sx_Y := (yX5_memoryCodes, cX5_memoryCodes, 2, none)
theorem y0X5_memoryCodes : sx_Y0 qX5_memoryCodes 1 := ⟨(lw_in (tk_5 (List.mem_of_getElem? (i := 231) rfl)) rfl), (lw_in (tk_1 (List.mem_of_getElem? (i := 9) rfl)) rfl), plainFor_of_name pnX5, ⟨nhX5.1, nhX5.2, by decide +kernel⟩, by decide +kernel⟩
theorem yvX5_memoryCodes : Cond.instanceMethod yX5_memoryCodes ∈ lw_good ∧ Cond.selects yX5_memoryCodes.cls yX5_memoryCodes yX5_memoryCodes ∈ lw_good := ⟨(lw_in (tk_5 (List.mem_of_getElem? (i := 230) rfl)) rfl), (lw_sel (q := (yX5_memoryCodes, 17)) (List.mem_of_getElem? (i := 72) (by decide +kernel)) (by decide +kernel))⟩
abbrev qX5_read : sx_Y := (yX5_read, cX5_read, 4, none)
theorem y0X5_read : sx_Y0 qX5_read 1 := ⟨(lw_in (tk_6 (List.mem_of_getElem? (i := 7) rfl)) rfl), (lw_in (tk_1 (List.mem_of_getElem? (i := 9) rfl)) rfl), plainFor_of_name pnX5, ⟨nhX5.1, nhX5.2, by decide +kernel⟩, by decide +kernel⟩
theorem yvX5_read : Cond.instanceMethod yX5_read ∈ lw_good ∧ Cond.selects yX5_read.cls yX5_read yX5_read ∈ lw_good := ⟨(lw_in (tk_6 (List.mem_of_getElem? (i := 6) rfl)) rfl), (lw_sel (q := (yX5_read, 17)) (List.mem_of_getElem? (i := 74) (by decide +kernel)) (by decide +kernel))⟩
abbrev qX5_write : sx_Y := (yX5_write, cX5_write, 5, none)
theorem y0X5_write : sx_Y0 qX5_write 1 := ⟨(lw_in (tk_5 (List.mem_of_getElem? (i := 235) rfl)) rfl), (lw_in (tk_1 (List.mem_of_getElem? (i := 9) rfl)) rfl), plainFor_of_name pnX5, ⟨nhX5.1, nhX5.2, by decide +kernel⟩, by decide +kernel⟩
theorem yvX5_write : Cond.instanceMethod yX5_write ∈ lw_good ∧ Cond.selects yX5_write.cls yX5_write yX5_write ∈ lw_good := ⟨(lw_in (tk_5 (List.mem_of_getElem? (i := 234) rfl)) rfl), (lw_sel (q := (yX5_write, 17)) (List.mem_of_getElem? (i := 73) (by decide +kernel)) (by decide +kernel))⟩
abbrev qX5_comparingCodes : sx_Y := (yX5_comparingCodes, cX5_comparingCodes, 5, none)
theorem y0X5_comparingCodes : sx_Y0 qX5_comparingCodes 1 := ⟨(lw_in (tk_6 (List.mem_of_getElem? (i := 12) rfl)) rfl), (lw_in (tk_1 (List.mem_of_getElem? (i := 9) rfl)) rfl), plainFor_of_name pnX5, ⟨nhX5.1, nhX5.2, by decide +kernel⟩, by decide +kernel⟩
theorem yvX5_comparingCodes : Cond.instanceMethod yX5_comparingCodes ∈ lw_good ∧ Cond.selects yX5_comparingCodes.cls yX5_comparingCodes yX5_comparingCodes ∈ lw_good := ⟨(lw_in (tk_6 (List.mem_of_getElem? (i := 11) rfl)) rfl), (lw_sel (q := (yX5_comparingCodes, 17)) (List.mem_of_getElem? (i := 75) (by decide +kernel)) (by decide +kernel))⟩
abbrev qX5_reckoningCodes : sx_Y := (yX5_reckoningCodes, cX5_reckoningCodes, 6, none)
theorem y0X5_reckoningCodes : sx_Y0 qX5_reckoningCodes 1 := ⟨(lw_in (tk_6 (List.mem_of_getElem? (i := 24) rfl)) rfl), (lw_in (tk_1 (List.mem_of_getElem? (i := 9) rfl)) rfl), plainFor_of_name pnX5, ⟨nhX5.1, nhX5.2, by decide +kernel⟩, by decide +kernel⟩
theorem yvX5_reckoningCodes : Cond.instanceMethod yX5_reckoningCodes ∈ lw_good ∧ Cond.selects yX5_reckoningCodes.cls yX5_reckoningCodes yX5_reckoningCodes ∈ lw_good := ⟨(lw_in (tk_6 (List.mem_of_getElem? (i := 23) rfl)) rfl), (lw_sel (q := (yX5_reckoningCodes, 17)) (List.mem_of_getElem? (i := 76) (by decide +kernel)) (by decide +kernel))⟩
abbrev qX5_singlePointCodes : sx_Y := (yX5_singlePointCodes, cX5_singlePointCodes, 2, none)
theorem y0X5_singlePointCodes : sx_Y0 qX5_singlePointCodes 1 := ⟨(lw_in (tk_6 (List.mem_of_getElem? (i := 31) rfl)) rfl), (lw_in (tk_1 (List.mem_of_getElem? (i := 9) rfl)) rfl), plainFor_of_name pnX5, ⟨nhX5.1, nhX5.2, by decide +kernel⟩, by decide +kernel⟩
theorem yvX5_singlePointCodes : Cond.instanceMethod yX5_singlePointCodes ∈ lw_good ∧ Cond.selects yX5_singlePointCodes.cls yX5_singlePointCodes yX5_singlePointCodes ∈ lw_good := ⟨(lw_in (tk_6 (List.mem_of_getElem? (i := 30) rfl)) rfl), (lw_sel (q := (yX5_singlePointCodes, 17)) (List.mem_of_getElem? (i := 77) (by decide +kernel)) (by decide +kernel))⟩
abbrev qX5_untouchPoint : sx_Y := (yX5_untouchPoint, cX5_untouchPoint, 3, none)
theorem y0X5_untouchPoint : sx_Y0 qX5_untouchPoint 0 := ⟨(lw_in (tk_6 (List.mem_of_getElem? (i := 55) rfl)) rfl), (lw_in (tk_1 (List.mem_of_getElem? (i := 9) rfl)) rfl), plainFor_of_name pnX5, ⟨nhX5.1, nhX5.2, by decide +kernel⟩, by decide +kernel⟩
theorem yvX5_untouchPoint : Cond.instanceMethod yX5_untouchPoint ∈ lw_good ∧ Cond.selects yX5_untouchPoint.cls yX5_untouchPoint yX5_untouchPoint ∈ lw_good := ⟨(lw_in (tk_6 (List.mem_of_getElem? (i := 54) rfl)) rfl), (lw_sel (q := (yX5_untouchPoint, 17)) (List.mem_of_getElem? (i := 82) (by decide +kernel)) (by decide +kernel))⟩
abbrev qX5_alignPoints : sx_Y := (yX5_alignPoints, cX5_alignPoints, 7, none)
theorem y0X5_alignPoints : sx_Y0 qX5_alignPoints 0 := ⟨(lw_in (tk_6 (List.mem_of_getElem? (i := 35) rfl)) rfl), (lw_in (tk_1 (List.mem_of_getElem? (i := 9) rfl)) rfl), plainFor_of_name pnX5, ⟨nhX5.1, nhX5.2, by decide +kernel⟩, by decide +kernel⟩
theorem yvX5_alignPoints : Cond.instanceMethod yX5_alignPoints ∈ lw_good ∧ Cond.selects yX5_alignPoints.cls yX5_alignPoints yX5_alignPoints ∈ lw_good := ⟨(lw_in (tk_6 (List.mem_of_getElem? (i := 34) rfl)) rfl), (lw_sel (q := (yX5_alignPoints, 17)) (List.mem_of_getElem? (i := 78) (by decide +kernel)) (by decide +kernel))⟩
abbrev qX5_touchPoint : sx_Y := (yX5_touchPoint, cX5_touchPoint, 6, none)
theorem y0X5_touchPoint : sx_Y0 qX5_touchPoint 1 := ⟨(lw_in (tk_6 (List.mem_of_getElem? (i := 59) rfl)) rfl), (lw_in (tk_1 (List.mem_of_getElem? (i := 9) rfl)) rfl), plainFor_of_name pnX5, ⟨nhX5.1, nhX5.2, by decide +kernel⟩, by decide +kernel⟩
theorem yvX5_touchPoint : Cond.instanceMethod yX5_touchPoint ∈ lw_good ∧ Cond.selects yX5_touchPoint.cls yX5_touchPoint yX5_touchPoint ∈ lw_good := ⟨(lw_in (tk_6 (List.mem_of_getElem? (i := 58) rfl)) rfl), (lw_sel (q := (yX5_touchPoint, 17)) (List.mem_of_getElem? (i := 83) (by decide +kernel)) (by decide +kernel))⟩
abbrev qX5_tellLong : sx_Y := (yX5_tellLong, cX5_tellLong, 4, none)
theorem y0X5_tellLong : sx_Y0 qX5_tellLong 1 := ⟨(lw_in (tk_6 (List.mem_of_getElem? (i := 83) rfl)) rfl), (lw_in (tk_1 (List.mem_of_getElem? (i := 9) rfl)) rfl), plainFor_of_name pnX5, ⟨nhX5.1, nhX5.2, by decide +kernel⟩, by decide +kernel⟩
theorem yvX5_tellLong : Cond.instanceMethod yX5_tellLong ∈ lw_good ∧ Cond.selects yX5_tellLong.cls yX5_tellLong yX5_tellLong ∈ lw_good := ⟨(lw_in (tk_6 (List.mem_of_getElem? (i := 82) rfl)) rfl), (lw_sel (q := (yX5_tellLong, 17)) (List.mem_of_getElem? (i := 88) (by decide +kernel)) (by decide +kernel))⟩
abbrev qX5_setLong : sx_Y := (yX5_setLong, cX5_setLong, 4, none)
theorem y0X5_setLong : sx_Y0 qX5_setLong 0 := ⟨(lw_in (tk_6 (List.mem_of_getElem? (i := 91) rfl)) rfl), (lw_in (tk_1 (List.mem_of_getElem? (i := 9) rfl)) rfl), plainFor_of_name pnX5, ⟨nhX5.1, nhX5.2, by decide +kernel⟩, by decide +kernel⟩
theorem yvX5_setLong : Cond.instanceMethod yX5_setLong ∈ lw_good ∧ Cond.selects yX5_setLong.cls yX5_setLong yX5_setLong ∈ lw_good := ⟨(lw_in (tk_6 (List.mem_of_getElem? (i := 90) rfl)) rfl), (lw_sel (q := (yX5_setLong, 17)) (List.mem_of_getElem? (i := 90) (by decide +kernel)) (by decide +kernel))⟩
abbrev qX5_tellDistance : sx_Y := (yX5_tellDistance, cX5_tellDistance, 6, none)
theorem y0X5_tellDistance : sx_Y0 qX5_tellDistance 1 := ⟨(lw_in (tk_6 (List.mem_of_getElem? (i := 95) rfl)) rfl), (lw_in (tk_1 (List.mem_of_getElem? (i := 9) rfl)) rfl), plainFor_of_name pnX5, ⟨nhX5.1, nhX5.2, by decide +kernel⟩, by decide +kernel⟩
theorem yvX5_tellDistance : Cond.instanceMethod yX5_tellDistance ∈ lw_good ∧ Cond.selects yX5_tellDistance.cls yX5_tellDistance yX5_tellDistance ∈ lw_good := ⟨(lw_in (tk_6 (List.mem_of_getElem? (i := 94) rfl)) rfl), (lw_sel (q := (yX5_tellDistance, 17)) (List.mem_of_getElem? (i := 91) (by decide +kernel)) (by decide +kernel))⟩
abbrev qX5_turnRange : sx_Y := (yX5_turnRange, cX5_turnRange, 5, none)
theorem y0X5_turnRange : sx_Y0 qX5_turnRange 1 := ⟨(lw_in (tk_6 (List.mem_of_getElem? (i := 103) rfl)) rfl), (lw_in (tk_1 (List.mem_of_getElem? (i := 9) rfl)) rfl), plainFor_of_name pnX5, ⟨nhX5.1, nhX5.2, by decide +kernel⟩, by decide +kernel⟩
theorem yvX5_turnRange : Cond.instanceMethod yX5_turnRange ∈ lw_good ∧ Cond.selects yX5_turnRange.cls yX5_turnRange yX5_turnRange ∈ lw_good := ⟨(lw_in (tk_6 (List.mem_of_getElem? (i := 102) rfl)) rfl), (lw_sel (q := (yX5_turnRange, 17)) (List.mem_of_getElem? (i := 93) (by decide +kernel)) (by decide +kernel))⟩
abbrev qX5_fillUntouched : sx_Y := (yX5_fillUntouched, cX5_fillUntouched, 11, none)
theorem y0X5_fillUntouched : sx_Y0 qX5_fillUntouched 3 := ⟨(lw_in (tk_6 (List.mem_of_getElem? (i := 67) rfl)) rfl), (lw_in (tk_1 (List.mem_of_getElem? (i := 9) rfl)) rfl), plainFor_of_name pnX5, ⟨nhX5.1, nhX5.2, by decide +kernel⟩, by decide +kernel⟩
theorem yvX5_fillUntouched : Cond.instanceMethod yX5_fillUntouched ∈ lw_good ∧ Cond.selects yX5_fillUntouched.cls yX5_fillUntouched yX5_fillUntouched ∈ lw_good := ⟨(lw_in (tk_6 (List.mem_of_getElem? (i := 66) rfl)) rfl), (lw_sel (q := (yX5_fillUntouched, 17)) (List.mem_of_getElem? (i := 85) (by decide +kernel)) (by decide +kernel))⟩
abbrev qX5_firstTouched : sx_Y := (yX5_firstTouched, cX5_firstTouched, 5, (some .int))
theorem y0X5_firstTouched : sx_Y0 qX5_firstTouched 3 := ⟨(lw_in (tk_6 (List.mem_of_getElem? (i := 75) rfl)) rfl), (lw_in (tk_1 (List.mem_of_getElem? (i := 9) rfl)) rfl), plainFor_of_name pnX5, ⟨nhX5.1, nhX5.2, by decide +kernel⟩, by decide +kernel⟩
theorem yvX5_firstTouched : Cond.instanceMethod yX5_firstTouched ∈ lw_good ∧ Cond.selects yX5_firstTouched.cls yX5_firstTouched yX5_firstTouched ∈ lw_good := ⟨(lw_in (tk_6 (List.mem_of_getElem? (i := 74) rfl)) rfl), (lw_sel (q := (yX5_firstTouched, 17)) (List.mem_of_getElem? (i := 86) (by decide +kernel)) (by decide +kernel))⟩
abbrev qX5_fillBetween : sx_Y := (yX5_fillBetween, cX5_fillBetween, 15, none)
theorem y0X5_fillBetween : sx_Y0 qX5_fillBetween 5 := ⟨(lw_in (tk_6 (List.mem_of_getElem? (i := 79) rfl)) rfl), (lw_in (tk_1 (List.mem_of_getElem? (i := 9) rfl)) rfl), plainFor_of_name pnX5, ⟨nhX5.1, nhX5.2, by decide +kernel⟩, by decide +kernel⟩
theorem yvX5_fillBetween : Cond.instanceMethod yX5_fillBetween ∈ lw_good ∧ Cond.selects yX5_fillBetween.cls yX5_fillBetween yX5_fillBetween ∈ lw_good := ⟨(lw_in (tk_6 (List.mem_of_getElem? (i := 78) rfl)) rfl), (lw_sel (q := (yX5_fillBetween, 17)) (List.mem_of_getElem? (i := 87) (by decide +kernel)) (by decide +kernel))⟩
abbrev qX5_manyPointCodes : sx_Y := (yX5_manyPointCodes, cX5_manyPointCodes, 2, none)
theorem y0X5_manyPointCodes : sx_Y0 qX5_manyPointCodes 1 := ⟨(lw_in (tk_6 (List.mem_of_getElem? (i := 107) rfl)) rfl), (lw_in (tk_1 (List.mem_of_getElem? (i := 9) rfl)) rfl), plainFor_of_name pnX5, ⟨nhX5.1, nhX5.2, by decide +kernel⟩, by decide +kernel⟩
theorem yvX5_manyPointCodes : Cond.instanceMethod yX5_manyPointCodes ∈ lw_good ∧ Cond.selects yX5_manyPointCodes.cls yX5_manyPointCodes yX5_manyPointCodes ∈ lw_good := ⟨(lw_in (tk_6 (List.mem_of_getElem? (i := 106) rfl)) rfl), (lw_sel (q := (yX5_manyPointCodes, 17)) (List.mem_of_getElem? (i := 94) (by decide +kernel)) (by decide +kernel))⟩
abbrev qX5_shiftByReference : sx_Y := (yX5_shiftByReference, cX5_shiftByReference, 7, none)
theorem y0X5_shiftByReference : sx_Y0 qX5_shiftByReference 1 := ⟨(lw_in (tk_6 (List.mem_of_getElem? (i := 176) rfl)) rfl), (lw_in (tk_1 (List.mem_of_getElem? (i := 9) rfl)) rfl), plainFor_of_name pnX5, ⟨nhX5.1, nhX5.2, by decide +kernel⟩, by decide +kernel⟩
theorem yvX5_shiftByReference : Cond.instanceMethod yX5_shiftByReference ∈ lw_good ∧ Cond.selects yX5_shiftByReference.cls yX5_shiftByReference yX5_shiftByReference ∈ lw_good := ⟨(lw_in (tk_6 (List.mem_of_getElem? (i := 175) rfl)) rfl), (lw_sel (q := (yX5_shiftByReference, 17)) (List.mem_of_getElem? (i := 110) (by decide +kernel)) (by decide +kernel))⟩
abbrev qX5_shiftPoints : sx_Y := (yX5_shiftPoints, cX5_shiftPoints, 6, none)
theorem y0X5_shiftPoints : sx_Y0 qX5_shiftPoints 1 := ⟨(lw_in (tk_6 (List.mem_of_getElem? (i := 180) rfl)) rfl), (lw_in (tk_1 (List.mem_of_getElem? (i := 9) rfl)) rfl), plainFor_of_name pnX5, ⟨nhX5.1, nhX5.2, by decide +kernel⟩, by decide +kernel⟩
theorem yvX5_shiftPoints : Cond.instanceMethod yX5_shiftPoints ∈ lw_good ∧ Cond.selects yX5_shiftPoints.cls yX5_shiftPoints yX5_shiftPoints ∈ lw_good := ⟨(lw_in (tk_6 (List.mem_of_getElem? (i := 179) rfl)) rfl), (lw_sel (q := (yX5_shiftPoints, 17)) (List.mem_of_getElem? (i := 111) (by decide +kernel)) (by decide +kernel))⟩
abbrev qX5_shiftContour : sx_Y := (yX5_shiftContour, cX5_shiftContour, 6, none)
theorem y0X5_shiftContour : sx_Y0 qX5_shiftContour 2 := ⟨(lw_in (tk_6 (List.mem_of_getElem? (i := 184) rfl)) rfl), (lw_in (tk_1 (List.mem_of_getElem? (i := 9) rfl)) rfl), plainFor_of_name pnX5, ⟨nhX5.1, nhX5.2, by decide +kernel⟩, by decide +kernel⟩
theorem yvX5_shiftContour : Cond.instanceMethod yX5_shiftContour ∈ lw_good ∧ Cond.selects yX5_shiftContour.cls yX5_shiftContour yX5_shiftContour ∈ lw_good := ⟨(lw_in (tk_6 (List.mem_of_getElem? (i := 183) rfl)) rfl), (lw_sel (q := (yX5_shiftContour, 17)) (List.mem_of_getElem? (i := 112) (by decide +kernel)) (by decide +kernel))⟩
abbrev qX5_shiftZone : sx_Y := (yX5_shiftZone, cX5_shiftZone, 9, none)
theorem y0X5_shiftZone : sx_Y0 qX5_shiftZone 3 := ⟨(lw_in (tk_6 (List.mem_of_getElem? (i := 188) rfl)) rfl), (lw_in (tk_1 (List.mem_of_getElem? (i := 9) rfl)) rfl), plainFor_of_name pnX5, ⟨nhX5.1, nhX5.2, by decide +kernel⟩, by decide +kernel⟩
theorem yvX5_shiftZone : Cond.instanceMethod yX5_shiftZone ∈ lw_good ∧ Cond.selects yX5_shiftZone.cls yX5_shiftZone yX5_shiftZone ∈ lw_good := ⟨(lw_in (tk_6 (List.mem_of_getElem? (i := 187) rfl)) rfl), (lw_sel (q := (yX5_shiftZone, 17)) (List.mem_of_getElem? (i := 113) (by decide +kernel)) (by decide +kernel))⟩
abbrev qX5_shiftByPixels : sx_Y := (yX5_shiftByPixels, cX5_shiftByPixels, 6, none)
theorem y0X5_shiftByPixels : sx_Y0 qX5_shiftByPixels 0 := ⟨(lw_in (tk_6 (List.mem_of_getElem? (i := 111) rfl)) rfl), (lw_in (tk_1 (List.mem_of_getElem? (i := 9) rfl)) rfl), plainFor_of_name pnX5, ⟨nhX5.1, nhX5.2, by decide +kernel⟩, by decide +kernel⟩
theorem yvX5_shiftByPixels : Cond.instanceMethod yX5_shiftByPixels ∈ lw_good ∧ Cond.selects yX5_shiftByPixels.cls yX5_shiftByPixels yX5_shiftByPixels ∈ lw_good := ⟨(lw_in (tk_6 (List.mem_of_getElem? (i := 110) rfl)) rfl), (lw_sel (q := (yX5_shiftByPixels, 17)) (List.mem_of_getElem? (i := 95) (by decide +kernel)) (by decide +kernel))⟩
abbrev qX5_interpolate : sx_Y := (yX5_interpolate, cX5_interpolate, 16, none)
theorem y0X5_interpolate : sx_Y0 qX5_interpolate 0 := ⟨(lw_in (tk_6 (List.mem_of_getElem? (i := 115) rfl)) rfl), (lw_in (tk_1 (List.mem_of_getElem? (i := 9) rfl)) rfl), plainFor_of_name pnX5, ⟨nhX5.1, nhX5.2, by decide +kernel⟩, by decide +kernel⟩
theorem yvX5_interpolate : Cond.instanceMethod yX5_interpolate ∈ lw_good ∧ Cond.selects yX5_interpolate.cls yX5_interpolate yX5_interpolate ∈ lw_good := ⟨(lw_in (tk_6 (List.mem_of_getElem? (i := 114) rfl)) rfl), (lw_sel (q := (yX5_interpolate, 17)) (List.mem_of_getElem? (i := 96) (by decide +kernel)) (by decide +kernel))⟩
abbrev qX5_alignToReference : sx_Y := (yX5_alignToReference, cX5_alignToReference, 6, none)
theorem y0X5_alignToReference : sx_Y0 qX5_alignToReference 0 := ⟨(lw_in (tk_6 (List.mem_of_getElem? (i := 119) rfl)) rfl), (lw_in (tk_1 (List.mem_of_getElem? (i := 9) rfl)) rfl), plainFor_of_name pnX5, ⟨nhX5.1, nhX5.2, by decide +kernel⟩, by decide +kernel⟩
theorem yvX5_alignToReference : Cond.instanceMethod yX5_alignToReference ∈ lw_good ∧ Cond.selects yX5_alignToReference.cls yX5_alignToReference yX5_alignToReference ∈ lw_good := ⟨(lw_in (tk_6 (List.mem_of_getElem? (i := 118) rfl)) rfl), (lw_sel (q := (yX5_alignToReference, 17)) (List.mem_of_getElem? (i := 97) (by decide +kernel)) (by decide +kernel))⟩
abbrev qX5_turnPoints : sx_Y := (yX5_turnPoints, cX5_turnPoints, 3, none)
theorem y0X5_turnPoints : sx_Y0 qX5_turnPoints 0 := ⟨(lw_in (tk_6 (List.mem_of_getElem? (i := 123) rfl)) rfl), (lw_in (tk_1 (List.mem_of_getElem? (i := 9) rfl)) rfl), plainFor_of_name pnX5, ⟨nhX5.1, nhX5.2, by decide +kernel⟩, by decide +kernel⟩
theorem yvX5_turnPoints : Cond.instanceMethod yX5_turnPoints ∈ lw_good ∧ Cond.selects yX5_turnPoints.cls yX5_turnPoints yX5_turnPoints ∈ lw_good := ⟨(lw_in (tk_6 (List.mem_of_getElem? (i := 122) rfl)) rfl), (lw_sel (q := (yX5_turnPoints, 17)) (List.mem_of_getElem? (i := 98) (by decide +kernel)) (by decide +kernel))⟩
abbrev qX5_measuredCodes : sx_Y := (yX5_measuredCodes, cX5_measuredCodes, 2, none)
theorem y0X5_measuredCodes : sx_Y0 qX5_measuredCodes 1 := ⟨(lw_in (tk_6 (List.mem_of_getElem? (i := 127) rfl)) rfl), (lw_in (tk_1 (List.mem_of_getElem? (i := 9) rfl)) rfl), plainFor_of_name pnX5, ⟨nhX5.1, nhX5.2, by decide +kernel⟩, by decide +kernel⟩
theorem yvX5_measuredCodes : Cond.instanceMethod yX5_measuredCodes ∈ lw_good ∧ Cond.selects yX5_measuredCodes.cls yX5_measuredCodes yX5_measuredCodes ∈ lw_good := ⟨(lw_in (tk_6 (List.mem_of_getElem? (i := 126) rfl)) rfl), (lw_sel (q := (yX5_measuredCodes, 17)) (List.mem_of_getElem? (i := 99) (by decide +kernel)) (by decide +kernel))⟩
abbrev qX5_plant : sx_Y := (yX5_plant, cX5_plant, 7, none)
theorem y0X5_plant : sx_Y0 qX5_plant 5 := ⟨(lw_in (tk_6 (List.mem_of_getElem? (i := 135) rfl)) rfl), (lw_in (tk_1 (List.mem_of_getElem? (i := 9) rfl)) rfl), plainFor_of_name pnX5, ⟨nhX5.1, nhX5.2, by decide +kernel⟩, by decide +kernel⟩
theorem yvX5_plant : Cond.instanceMethod yX5_plant ∈ lw_good ∧ Cond.selects yX5_plant.cls yX5_plant yX5_plant ∈ lw_good := ⟨(lw_in (tk_6 (List.mem_of_getElem? (i := 134) rfl)) rfl), (lw_sel (q := (yX5_plant, 17)) (List.mem_of_getElem? (i := 101) (by decide +kernel)) (by decide +kernel))⟩
abbrev qX5_moveFromReference : sx_Y := (yX5_moveFromReference, cX5_moveFromReference, 7, none)
theorem y0X5_moveFromReference : sx_Y0 qX5_moveFromReference 1 := ⟨(lw_in (tk_6 (List.mem_of_getElem? (i := 131) rfl)) rfl), (lw_in (tk_1 (List.mem_of_getElem? (i := 9) rfl)) rfl), plainFor_of_name pnX5, ⟨nhX5.1, nhX5.2, by decide +kernel⟩, by decide +kernel⟩
theorem yvX5_moveFromReference : Cond.instanceMethod yX5_moveFromReference ∈ lw_good ∧ Cond.selects yX5_moveFromReference.cls yX5_moveFromReference yX5_moveFromReference ∈ lw_good := ⟨(lw_in (tk_6 (List.mem_of_getElem? (i := 130) rfl)) rfl), (lw_sel (q := (yX5_moveFromReference, 17)) (List.mem_of_getElem? (i := 100) (by decide +kernel)) (by decide +kernel))⟩
abbrev qX5_noteReferences : sx_Y := (yX5_noteReferences, cX5_noteReferences, 3, none)
theorem y0X5_noteReferences : sx_Y0 qX5_noteReferences 2 := ⟨(lw_in (tk_6 (List.mem_of_getElem? (i := 139) rfl)) rfl), (lw_in (tk_1 (List.mem_of_getElem? (i := 9) rfl)) rfl), plainFor_of_name pnX5, ⟨nhX5.1, nhX5.2, by decide +kernel⟩, by decide +kernel⟩
theorem yvX5_noteReferences : Cond.instanceMethod yX5_noteReferences ∈ lw_good ∧ Cond.selects yX5_noteReferences.cls yX5_noteReferences yX5_noteReferences ∈ lw_good := ⟨(lw_in (tk_6 (List.mem_of_getElem? (i := 138) rfl)) rfl), (lw_sel (q := (yX5_noteReferences, 17)) (List.mem_of_getElem? (i := 102) (by decide +kernel)) (by decide +kernel))⟩
abbrev qX5_moveToCvt : sx_Y := (yX5_moveToCvt, cX5_moveToCvt, 9, none)
theorem y0X5_moveToCvt : sx_Y0 qX5_moveToCvt 1 := ⟨(lw_in (tk_6 (List.mem_of_getElem? (i := 143) rfl)) rfl), (lw_in (tk_1 (List.mem_of_getElem? (i := 9) rfl)) rfl), plainFor_of_name pnX5, ⟨nhX5.1, nhX5.2, by decide +kernel⟩, by decide +kernel⟩
theorem yvX5_moveToCvt : Cond.instanceMethod yX5_moveToCvt ∈ lw_good ∧ Cond.selects yX5_moveToCvt.cls yX5_moveToCvt yX5_moveToCvt ∈ lw_good := ⟨(lw_in (tk_6 (List.mem_of_getElem? (i := 142) rfl)) rfl), (lw_sel (q := (yX5_moveToCvt, 17)) (List.mem_of_getElem? (i := 103) (by decide +kernel)) (by decide +kernel))⟩
abbrev qX5_orSingle : sx_Y := (yX5_orSingle, cX5_orSingle, 5, (some .long))
theorem y0X5_orSingle : sx_Y0 qX5_orSingle 1 := ⟨(lw_in (tk_6 (List.mem_of_getElem? (i := 154) rfl)) rfl), (lw_in (tk_1 (List.mem_of_getElem? (i := 9) rfl)) rfl), plainFor_of_name pnX5, ⟨nhX5.1, nhX5.2, by decide +kernel⟩, by decide +kernel⟩
theorem yvX5_orSingle : Cond.instanceMethod yX5_orSingle ∈ lw_good ∧ Cond.selects yX5_orSingle.cls yX5_orSingle yX5_orSingle ∈ lw_good := ⟨(lw_in (tk_6 (List.mem_of_getElem? (i := 153) rfl)) rfl), (lw_sel (q := (yX5_orSingle, 17)) (List.mem_of_getElem? (i := 105) (by decide +kernel)) (by decide +kernel))⟩
abbrev qX5_atLeast : sx_Y := (yX5_atLeast, cX5_atLeast, 7, (some .long))
theorem y0X5_atLeast : sx_Y0 qX5_atLeast 2 := ⟨(lw_in (tk_6 (List.mem_of_getElem? (i := 158) rfl)) rfl), (lw_in (tk_1 (List.mem_of_getElem? (i := 9) rfl)) rfl), plainFor_of_name pnX5, ⟨nhX5.1, nhX5.2, by decide +kernel⟩, by decide +kernel⟩
theorem yvX5_atLeast : Cond.instanceMethod yX5_atLeast ∈ lw_good ∧ Cond.selects yX5_atLeast.cls yX5_atLeast yX5_atLeast ∈ lw_good := ⟨(lw_in (tk_6 (List.mem_of_getElem? (i := 157) rfl)) rfl), (lw_sel (q := (yX5_atLeast, 17)) (List.mem_of_getElem? (i := 106) (by decide +kernel)) (by decide +kernel))⟩
abbrev qX5_moveAsOriginal : sx_Y := (yX5_moveAsOriginal, cX5_moveAsOriginal, 10, none)
theorem y0X5_moveAsOriginal : sx_Y0 qX5_moveAsOriginal 1 := ⟨(lw_in (tk_6 (List.mem_of_getElem? (i := 150) rfl)) rfl), (lw_in (tk_1 (List.mem_of_getElem? (i := 9) rfl)) rfl), plainFor_of_name pnX5, ⟨nhX5.1, nhX5.2, by decide +kernel⟩, by decide +kernel⟩
theorem yvX5_moveAsOriginal : Cond.instanceMethod yX5_moveAsOriginal ∈ lw_good ∧ Cond.selects yX5_moveAsOriginal.cls yX5_moveAsOriginal yX5_moveAsOriginal ∈ lw_good := ⟨(lw_in (tk_6 (List.mem_of_getElem? (i := 149) rfl)) rfl), (lw_sel (q := (yX5_moveAsOriginal, 17)) (List.mem_of_getElem? (i := 104) (by decide +kernel)) (by decide +kernel))⟩
abbrev qX5_moveAsCvt : sx_Y := (yX5_moveAsCvt, cX5_moveAsCvt, 12, none)
theorem y0X5_moveAsCvt : sx_Y0 qX5_moveAsCvt 1 := ⟨(lw_in (tk_6 (List.mem_of_getElem? (i := 162) rfl)) rfl), (lw_in (tk_1 (List.mem_of_getElem? (i := 9) rfl)) rfl), plainFor_of_name pnX5, ⟨nhX5.1, nhX5.2, by decide +kernel⟩, by decide +kernel⟩
theorem yvX5_moveAsCvt : Cond.instanceMethod yX5_moveAsCvt ∈ lw_good ∧ Cond.selects yX5_moveAsCvt.cls yX5_moveAsCvt yX5_moveAsCvt ∈ lw_good := ⟨(lw_in (tk_6 (List.mem_of_getElem? (i := 161) rfl)) rfl), (lw_sel (q := (yX5_moveAsCvt, 17)) (List.mem_of_getElem? (i := 107) (by decide +kernel)) (by decide +kernel))⟩
abbrev qX5_deltaCodes : sx_Y := (yX5_deltaCodes, cX5_deltaCodes, 9, none)
theorem y0X5_deltaCodes : sx_Y0 qX5_deltaCodes 1 := ⟨(lw_in (tk_6 (List.mem_of_getElem? (i := 166) rfl)) rfl), (lw_in (tk_1 (List.mem_of_getElem? (i := 9) rfl)) rfl), plainFor_of_name pnX5, ⟨nhX5.1, nhX5.2, by decide +kernel⟩, by decide +kernel⟩
theorem yvX5_deltaCodes : Cond.instanceMethod yX5_deltaCodes ∈ lw_good ∧ Cond.selects yX5_deltaCodes.cls yX5_deltaCodes yX5_deltaCodes ∈ lw_good := ⟨(lw_in (tk_6 (List.mem_of_getElem? (i := 165) rfl)) rfl), (lw_sel (q := (yX5_deltaCodes, 17)) (List.mem_of_getElem? (i := 108) (by decide +kernel)) (by decide +kernel))⟩
abbrev qX5_applyDelta : sx_Y := (yX5_applyDelta, cX5_applyDelta, 4, none)
theorem y0X5_applyDelta : sx_Y0 qX5_applyDelta 3 := ⟨(lw_in (tk_6 (List.mem_of_getElem? (i := 172) rfl)) rfl), (lw_in (tk_1 (List.mem_of_getElem? (i := 9) rfl)) rfl), plainFor_of_name pnX5, ⟨nhX5.1, nhX5.2, by decide +kernel⟩, by decide +kernel⟩
theorem yvX5_applyDelta : Cond.instanceMethod yX5_applyDelta ∈ lw_good ∧ Cond.selects yX5_applyDelta.cls yX5_applyDelta yX5_applyDelta ∈ lw_good := ⟨(lw_in (tk_6 (List.mem_of_getElem? (i := 171) rfl)) rfl), (lw_sel (q := (yX5_applyDelta, 17)) (List.mem_of_getElem? (i := 109) (by decide +kernel)) (by decide +kernel))⟩
abbrev qX6_init : sx_Y := (yX6_init, cX6_init, 4, none)
theorem pnX6 : plainName RX6 = true := by decide +kernel
theorem nhX6 : RX6 ≠ "java/lang/invoke/MethodHandle" ∧ RX6 ≠ "java/lang/invoke/VarHandle" := by decide +kernel
theorem y0X6_init : sx_Y0 qX6_init 2 := ⟨(lw_in (tk_2 (List.mem_of_getElem? (i := 43) rfl)) rfl), (lw_in (tk_1 (List.mem_of_getElem? (i := 6) rfl)) rfl), plainFor_of_name pnX6, ⟨nhX6.1, nhX6.2, by decide +kernel⟩, by decide +kernel⟩
theorem yiX6_init : Cond.instanceMethod yX6_init ∈ lw_good := (lw_in (tk_2 (List.mem_of_getElem? (i := 42) rfl)) rfl)
abbrev qX6_forgetAll : sx_Y := (yX6_forgetAll, cX6_forgetAll, 1, none)
theorem y0X6_forgetAll : sx_Y0 qX6_forgetAll 0 := ⟨(lw_in (tk_3 (List.mem_of_getElem? (i := 175) rfl)) rfl), (lw_in (tk_1 (List.mem_of_getElem? (i := 6) rfl)) rfl), plainFor_of_name pnX6, ⟨nhX6.1, nhX6.2, by decide +kernel⟩, by decide +kernel⟩
theorem yvX6_forgetAll : Cond.instanceMethod yX6_forgetAll ∈ lw_good ∧ Cond.selects yX6_forgetAll.cls yX6_forgetAll yX6_forgetAll ∈ lw_good := ⟨(lw_in (tk_3 (List.mem_of_getElem? (i := 173) rfl)) rfl), (lw_in (tk_3 (List.mem_of_getElem? (i := 174) rfl)) rfl)⟩
abbrev qX6_keptOf : sx_Y := (yX6_keptOf, cX6_keptOf, 2, (some .int))
theorem y0X6_keptOf : sx_Y0 qX6_keptOf 1 := ⟨(lw_in (tk_7 (List.mem_of_getElem? (i := 79) rfl)) rfl), (lw_in (tk_1 (List.mem_of_getElem? (i := 6) rfl)) rfl), plainFor_of_name pnX6, ⟨nhX6.1, nhX6.2, by decide +kernel⟩, by decide +kernel⟩
theorem yvX6_keptOf : Cond.instanceMethod yX6_keptOf ∈ lw_good ∧ Cond.selects yX6_keptOf.cls yX6_keptOf yX6_keptOf ∈ lw_good := ⟨(lw_in (tk_7 (List.mem_of_getElem? (i := 77) rfl)) rfl), (lw_in (tk_7 (List.mem_of_getElem? (i := 78) rfl)) rfl)⟩
abbrev qX6_setSize : sx_Y := (yX6_setSize, cX6_setSize, 2, (some .int))
theorem y0X6_setSize : sx_Y0 qX6_setSize 1 := ⟨(lw_in (tk_4 (List.mem_of_getElem? (i := 216) rfl)) rfl), (lw_in (tk_1 (List.mem_of_getElem? (i := 6) rfl)) rfl), plainFor_of_name pnX6, ⟨nhX6.1, nhX6.2, by decide +kernel⟩, by decide +kernel⟩
theorem yvX6_setSize : Cond.instanceMethod yX6_setSize ∈ lw_good ∧ Cond.selects yX6_setSize.cls yX6_setSize yX6_setSize ∈ lw_good := ⟨(lw_in (tk_4 (List.mem_of_getElem? (i := 214) rfl)) rfl), (lw_in (tk_4 (List.mem_of_getElem? (i := 215) rfl)) rfl)⟩
abbrev qX6_makeGlyph : sx_Y := (yX6_makeGlyph, cX6_makeGlyph, 3, (some .int))
theorem y0X6_makeGlyph : sx_Y0 qX6_makeGlyph 1 := ⟨(lw_in (tk_6 (List.mem_of_getElem? (i := 200) rfl)) rfl), (lw_in (tk_1 (List.mem_of_getElem? (i := 6) rfl)) rfl), plainFor_of_name pnX6, ⟨nhX6.1, nhX6.2, by decide +kernel⟩, by decide +kernel⟩
theorem yvX6_makeGlyph : Cond.instanceMethod yX6_makeGlyph ∈ lw_good ∧ Cond.selects yX6_makeGlyph.cls yX6_makeGlyph yX6_makeGlyph ∈ lw_good := ⟨(lw_in (tk_6 (List.mem_of_getElem? (i := 198) rfl)) rfl), (lw_in (tk_6 (List.mem_of_getElem? (i := 199) rfl)) rfl)⟩
abbrev qX6_build : sx_Y := (yX6_build, cX6_build, 5, (some .boolean))
theorem y0X6_build : sx_Y0 qX6_build 2 := ⟨(lw_in (tk_6 (List.mem_of_getElem? (i := 205) rfl)) rfl), (lw_in (tk_1 (List.mem_of_getElem? (i := 6) rfl)) rfl), plainFor_of_name pnX6, ⟨nhX6.1, nhX6.2, by decide +kernel⟩, by decide +kernel⟩
theorem yvX6_build : Cond.instanceMethod yX6_build ∈ lw_good ∧ Cond.selects yX6_build.cls yX6_build yX6_build ∈ lw_good := ⟨(lw_in (tk_6 (List.mem_of_getElem? (i := 204) rfl)) rfl), (lw_sel (q := (yX6_build, 13)) (List.mem_of_getElem? (i := 115) (by decide +kernel)) (by decide +kernel))⟩
abbrev qX6_beginOutline : sx_Y := (yX6_beginOutline, cX6_beginOutline, 4, none)
theorem y0X6_beginOutline : sx_Y0 qX6_beginOutline 2 := ⟨(lw_in (tk_6 (List.mem_of_getElem? (i := 214) rfl)) rfl), (lw_in (tk_1 (List.mem_of_getElem? (i := 6) rfl)) rfl), plainFor_of_name pnX6, ⟨nhX6.1, nhX6.2, by decide +kernel⟩, by decide +kernel⟩
theorem yvX6_beginOutline : Cond.instanceMethod yX6_beginOutline ∈ lw_good ∧ Cond.selects yX6_beginOutline.cls yX6_beginOutline yX6_beginOutline ∈ lw_good := ⟨(lw_in (tk_6 (List.mem_of_getElem? (i := 213) rfl)) rfl), (lw_sel (q := (yX6_beginOutline, 13)) (List.mem_of_getElem? (i := 116) (by decide +kernel)) (by decide +kernel))⟩
abbrev qX6_takeOutline : sx_Y := (yX6_takeOutline, cX6_takeOutline, 4, none)
theorem y0X6_takeOutline : sx_Y0 qX6_takeOutline 2 := ⟨(lw_in (tk_7 (List.mem_of_getElem? (i := 18) rfl)) rfl), (lw_in (tk_1 (List.mem_of_getElem? (i := 6) rfl)) rfl), plainFor_of_name pnX6, ⟨nhX6.1, nhX6.2, by decide +kernel⟩, by decide +kernel⟩
theorem yvX6_takeOutline : Cond.instanceMethod yX6_takeOutline ∈ lw_good ∧ Cond.selects yX6_takeOutline.cls yX6_takeOutline yX6_takeOutline ∈ lw_good := ⟨(lw_in (tk_7 (List.mem_of_getElem? (i := 17) rfl)) rfl), (lw_sel (q := (yX6_takeOutline, 13)) (List.mem_of_getElem? (i := 122) (by decide +kernel)) (by decide +kernel))⟩
abbrev qX6_addParts : sx_Y := (yX6_addParts, cX6_addParts, 4, (some .boolean))
theorem y0X6_addParts : sx_Y0 qX6_addParts 2 := ⟨(lw_in (tk_6 (List.mem_of_getElem? (i := 221) rfl)) rfl), (lw_in (tk_1 (List.mem_of_getElem? (i := 6) rfl)) rfl), plainFor_of_name pnX6, ⟨nhX6.1, nhX6.2, by decide +kernel⟩, by decide +kernel⟩
theorem yvX6_addParts : Cond.instanceMethod yX6_addParts ∈ lw_good ∧ Cond.selects yX6_addParts.cls yX6_addParts yX6_addParts ∈ lw_good := ⟨(lw_in (tk_6 (List.mem_of_getElem? (i := 220) rfl)) rfl), (lw_sel (q := (yX6_addParts, 13)) (List.mem_of_getElem? (i := 117) (by decide +kernel)) (by decide +kernel))⟩
abbrev qX6_addPart : sx_Y := (yX6_addPart, cX6_addPart, 5, (some .boolean))
theorem y0X6_addPart : sx_Y0 qX6_addPart 1 := ⟨(lw_in (tk_6 (List.mem_of_getElem? (i := 229) rfl)) rfl), (lw_in (tk_1 (List.mem_of_getElem? (i := 6) rfl)) rfl), plainFor_of_name pnX6, ⟨nhX6.1, nhX6.2, by decide +kernel⟩, by decide +kernel⟩
theorem yvX6_addPart : Cond.instanceMethod yX6_addPart ∈ lw_good ∧ Cond.selects yX6_addPart.cls yX6_addPart yX6_addPart ∈ lw_good := ⟨(lw_in (tk_6 (List.mem_of_getElem? (i := 228) rfl)) rfl), (lw_sel (q := (yX6_addPart, 13)) (List.mem_of_getElem? (i := 118) (by decide +kernel)) (by decide +kernel))⟩
abbrev qX6_append : sx_Y := (yX6_append, cX6_append, 9, none)
theorem y0X6_append : sx_Y0 qX6_append 2 := ⟨(lw_in (tk_6 (List.mem_of_getElem? (i := 233) rfl)) rfl), (lw_in (tk_1 (List.mem_of_getElem? (i := 6) rfl)) rfl), plainFor_of_name pnX6, ⟨nhX6.1, nhX6.2, by decide +kernel⟩, by decide +kernel⟩
theorem yvX6_append : Cond.instanceMethod yX6_append ∈ lw_good ∧ Cond.selects yX6_append.cls yX6_append yX6_append ∈ lw_good := ⟨(lw_in (tk_6 (List.mem_of_getElem? (i := 232) rfl)) rfl), (lw_sel (q := (yX6_append, 13)) (List.mem_of_getElem? (i := 119) (by decide +kernel)) (by decide +kernel))⟩
abbrev qX6_offset : sx_Y := (yX6_offset, cX6_offset, 4, (some .int))
theorem y0X6_offset : sx_Y0 qX6_offset 1 := ⟨(lw_in (tk_6 (List.mem_of_getElem? (i := 239) rfl)) rfl), (lw_in (tk_1 (List.mem_of_getElem? (i := 6) rfl)) rfl), plainFor_of_name pnX6, ⟨nhX6.1, nhX6.2, by decide +kernel⟩, by decide +kernel⟩
theorem yvX6_offset : Cond.instanceMethod yX6_offset ∈ lw_good ∧ Cond.selects yX6_offset.cls yX6_offset yX6_offset ∈ lw_good := ⟨(lw_in (tk_6 (List.mem_of_getElem? (i := 238) rfl)) rfl), (lw_sel (q := (yX6_offset, 13)) (List.mem_of_getElem? (i := 120) (by decide +kernel)) (by decide +kernel))⟩
abbrev qX6_match : sx_Y := (yX6_match, cX6_match, 5, (some .boolean))
theorem y0X6_match : sx_Y0 qX6_match 2 := ⟨(lw_in (tk_7 (List.mem_of_getElem? (i := 13) rfl)) rfl), (lw_in (tk_1 (List.mem_of_getElem? (i := 6) rfl)) rfl), plainFor_of_name pnX6, ⟨nhX6.1, nhX6.2, by decide +kernel⟩, by decide +kernel⟩
theorem yvX6_match : Cond.instanceMethod yX6_match ∈ lw_good ∧ Cond.selects yX6_match.cls yX6_match yX6_match ∈ lw_good := ⟨(lw_in (tk_7 (List.mem_of_getElem? (i := 12) rfl)) rfl), (lw_sel (q := (yX6_match, 13)) (List.mem_of_getElem? (i := 121) (by decide +kernel)) (by decide +kernel))⟩
abbrev qX7_init : sx_Y := (yX7_init, cX7_init, 1, none)
theorem pnX7 : plainName RX7 = true := by decide +kernel
theorem nhX7 : RX7 ≠ "java/lang/invoke/MethodHandle" ∧ RX7 ≠ "java/lang/invoke/VarHandle" := by decide +kernel
theorem y0X7_init : sx_Y0 qX7_init 0 := ⟨(lw_in (tk_2 (List.mem_of_getElem? (i := 49) rfl)) rfl), (lw_in (tk_1 (List.mem_of_getElem? (i := 7) rfl)) rfl), plainFor_of_name pnX7, ⟨nhX7.1, nhX7.2, by decide +kernel⟩, by decide +kernel⟩
theorem yiX7_init : Cond.instanceMethod yX7_init ∈ lw_good := (lw_in (tk_2 (List.mem_of_getElem? (i := 48) rfl)) rfl)
abbrev qX7_renew : sx_Y := (yX7_renew, cX7_renew, 6, none)
theorem y0X7_renew : sx_Y0 qX7_renew 2 := ⟨(lw_in (tk_4 (List.mem_of_getElem? (i := 220) rfl)) rfl), (lw_in (tk_1 (List.mem_of_getElem? (i := 7) rfl)) rfl), plainFor_of_name pnX7, ⟨nhX7.1, nhX7.2, by decide +kernel⟩, by decide +kernel⟩
theorem yvX7_renew : Cond.instanceMethod yX7_renew ∈ lw_good ∧ Cond.selects yX7_renew.cls yX7_renew yX7_renew ∈ lw_good := ⟨(lw_in (tk_4 (List.mem_of_getElem? (i := 218) rfl)) rfl), (lw_in (tk_4 (List.mem_of_getElem? (i := 219) rfl)) rfl)⟩
abbrev qX7_copyFrom : sx_Y := (yX7_copyFrom, cX7_copyFrom, 2, none)
theorem y0X7_copyFrom : sx_Y0 qX7_copyFrom 1 := ⟨(lw_in (tk_7 (List.mem_of_getElem? (i := 29) rfl)) rfl), (lw_in (tk_1 (List.mem_of_getElem? (i := 7) rfl)) rfl), plainFor_of_name pnX7, ⟨nhX7.1, nhX7.2, by decide +kernel⟩, by decide +kernel⟩
theorem yvX7_copyFrom : Cond.instanceMethod yX7_copyFrom ∈ lw_good ∧ Cond.selects yX7_copyFrom.cls yX7_copyFrom yX7_copyFrom ∈ lw_good := ⟨(lw_in (tk_7 (List.mem_of_getElem? (i := 27) rfl)) rfl), (lw_in (tk_7 (List.mem_of_getElem? (i := 28) rfl)) rfl)⟩
abbrev qX7_hasCvt : sx_Y := (yX7_hasCvt, cX7_hasCvt, 2, (some .boolean))
theorem y0X7_hasCvt : sx_Y0 qX7_hasCvt 1 := ⟨(lw_in (tk_6 (List.mem_of_getElem? (i := 3) rfl)) rfl), (lw_in (tk_1 (List.mem_of_getElem? (i := 7) rfl)) rfl), plainFor_of_name pnX7, ⟨nhX7.1, nhX7.2, by decide +kernel⟩, by decide +kernel⟩
theorem yvX7_hasCvt : Cond.instanceMethod yX7_hasCvt ∈ lw_good ∧ Cond.selects yX7_hasCvt.cls yX7_hasCvt yX7_hasCvt ∈ lw_good := ⟨(lw_in (tk_6 (List.mem_of_getElem? (i := 1) rfl)) rfl), (lw_in (tk_6 (List.mem_of_getElem? (i := 2) rfl)) rfl)⟩
abbrev qX7_hasStorage : sx_Y := (yX7_hasStorage, cX7_hasStorage, 2, (some .boolean))
theorem y0X7_hasStorage : sx_Y0 qX7_hasStorage 1 := ⟨(lw_in (tk_5 (List.mem_of_getElem? (i := 239) rfl)) rfl), (lw_in (tk_1 (List.mem_of_getElem? (i := 7) rfl)) rfl), plainFor_of_name pnX7, ⟨nhX7.1, nhX7.2, by decide +kernel⟩, by decide +kernel⟩
theorem yvX7_hasStorage : Cond.instanceMethod yX7_hasStorage ∈ lw_good ∧ Cond.selects yX7_hasStorage.cls yX7_hasStorage yX7_hasStorage ∈ lw_good := ⟨(lw_in (tk_5 (List.mem_of_getElem? (i := 237) rfl)) rfl), (lw_in (tk_5 (List.mem_of_getElem? (i := 238) rfl)) rfl)⟩
abbrev qX8_init : sx_Y := (yX8_init, cX8_init, 3, none)
theorem pnX8 : plainName RX8 = true := by decide +kernel
theorem nhX8 : RX8 ≠ "java/lang/invoke/MethodHandle" ∧ RX8 ≠ "java/lang/invoke/VarHandle" := by decide +kernel
theorem y0X8_init : sx_Y0 qX8_init 2 := ⟨(lw_in (tk_1 (List.mem_of_getElem? (i := 137) rfl)) rfl), (lw_in (tk_1 (List.mem_of_getElem? (i := 4) rfl)) rfl), plainFor_of_name pnX8, ⟨nhX8.1, nhX8.2, by decide +kernel⟩, by decide +kernel⟩
theorem yiX8_init : Cond.instanceMethod yX8_init ∈ lw_good := (lw_in (tk_1 (List.mem_of_getElem? (i := 136) rfl)) rfl)
abbrev qX8_has : sx_Y := (yX8_has, cX8_has, 2, (some .boolean))
theorem y0X8_has : sx_Y0 qX8_has 1 := ⟨(lw_in (tk_5 (List.mem_of_getElem? (i := 72) rfl)) rfl), (lw_in (tk_1 (List.mem_of_getElem? (i := 4) rfl)) rfl), plainFor_of_name pnX8, ⟨nhX8.1, nhX8.2, by decide +kernel⟩, by decide +kernel⟩
theorem yvX8_has : Cond.instanceMethod yX8_has ∈ lw_good ∧ Cond.selects yX8_has.cls yX8_has yX8_has ∈ lw_good := ⟨(lw_in (tk_5 (List.mem_of_getElem? (i := 70) rfl)) rfl), (lw_in (tk_5 (List.mem_of_getElem? (i := 71) rfl)) rfl)⟩
abbrev qX8_firstOf : sx_Y := (yX8_firstOf, cX8_firstOf, 2, (some .int))
theorem y0X8_firstOf : sx_Y0 qX8_firstOf 1 := ⟨(lw_in (tk_6 (List.mem_of_getElem? (i := 71) rfl)) rfl), (lw_in (tk_1 (List.mem_of_getElem? (i := 4) rfl)) rfl), plainFor_of_name pnX8, ⟨nhX8.1, nhX8.2, by decide +kernel⟩, by decide +kernel⟩
theorem yvX8_firstOf : Cond.instanceMethod yX8_firstOf ∈ lw_good ∧ Cond.selects yX8_firstOf.cls yX8_firstOf yX8_firstOf ∈ lw_good := ⟨(lw_in (tk_6 (List.mem_of_getElem? (i := 69) rfl)) rfl), (lw_in (tk_6 (List.mem_of_getElem? (i := 70) rfl)) rfl)⟩
abbrev qX8_contourOf : sx_Y := (yX8_contourOf, cX8_contourOf, 3, (some .int))
theorem y0X8_contourOf : sx_Y0 qX8_contourOf 1 := ⟨(lw_in (tk_7 (List.mem_of_getElem? (i := 71) rfl)) rfl), (lw_in (tk_1 (List.mem_of_getElem? (i := 4) rfl)) rfl), plainFor_of_name pnX8, ⟨nhX8.1, nhX8.2, by decide +kernel⟩, by decide +kernel⟩
theorem yvX8_contourOf : Cond.instanceMethod yX8_contourOf ∈ lw_good ∧ Cond.selects yX8_contourOf.cls yX8_contourOf yX8_contourOf ∈ lw_good := ⟨(lw_in (tk_7 (List.mem_of_getElem? (i := 69) rfl)) rfl), (lw_in (tk_7 (List.mem_of_getElem? (i := 70) rfl)) rfl)⟩
abbrev qX8_clearTo : sx_Y := (yX8_clearTo, cX8_clearTo, 2, none)
theorem y0X8_clearTo : sx_Y0 qX8_clearTo 1 := ⟨(lw_in (tk_4 (List.mem_of_getElem? (i := 231) rfl)) rfl), (lw_in (tk_1 (List.mem_of_getElem? (i := 4) rfl)) rfl), plainFor_of_name pnX8, ⟨nhX8.1, nhX8.2, by decide +kernel⟩, by decide +kernel⟩
theorem yvX8_clearTo : Cond.instanceMethod yX8_clearTo ∈ lw_good ∧ Cond.selects yX8_clearTo.cls yX8_clearTo yX8_clearTo ∈ lw_good := ⟨(lw_in (tk_4 (List.mem_of_getElem? (i := 229) rfl)) rfl), (lw_in (tk_4 (List.mem_of_getElem? (i := 230) rfl)) rfl)⟩
abbrev qX8_copyFrom : sx_Y := (yX8_copyFrom, cX8_copyFrom, 2, none)
theorem y0X8_copyFrom : sx_Y0 qX8_copyFrom 1 := ⟨(lw_in (tk_7 (List.mem_of_getElem? (i := 33) rfl)) rfl), (lw_in (tk_1 (List.mem_of_getElem? (i := 4) rfl)) rfl), plainFor_of_name pnX8, ⟨nhX8.1, nhX8.2, by decide +kernel⟩, by decide +kernel⟩
theorem yvX8_copyFrom : Cond.instanceMethod yX8_copyFrom ∈ lw_good ∧ Cond.selects yX8_copyFrom.cls yX8_copyFrom yX8_copyFrom ∈ lw_good := ⟨(lw_in (tk_7 (List.mem_of_getElem? (i := 31) rfl)) rfl), (lw_in (tk_7 (List.mem_of_getElem? (i := 32) rfl)) rfl)⟩
abbrev qX8_beginProgram : sx_Y := (yX8_beginProgram, cX8_beginProgram, 3, none)
theorem y0X8_beginProgram : sx_Y0 qX8_beginProgram 0 := ⟨(lw_in (tk_7 (List.mem_of_getElem? (i := 38) rfl)) rfl), (lw_in (tk_1 (List.mem_of_getElem? (i := 4) rfl)) rfl), plainFor_of_name pnX8, ⟨nhX8.1, nhX8.2, by decide +kernel⟩, by decide +kernel⟩
theorem yvX8_beginProgram : Cond.instanceMethod yX8_beginProgram ∈ lw_good ∧ Cond.selects yX8_beginProgram.cls yX8_beginProgram yX8_beginProgram ∈ lw_good := ⟨(lw_in (tk_7 (List.mem_of_getElem? (i := 36) rfl)) rfl), (lw_in (tk_7 (List.mem_of_getElem? (i := 37) rfl)) rfl)⟩
abbrev qX8_endProgram : sx_Y := (yX8_endProgram, cX8_endProgram, 2, none)
theorem y0X8_endProgram : sx_Y0 qX8_endProgram 0 := ⟨(lw_in (tk_7 (List.mem_of_getElem? (i := 44) rfl)) rfl), (lw_in (tk_1 (List.mem_of_getElem? (i := 4) rfl)) rfl), plainFor_of_name pnX8, ⟨nhX8.1, nhX8.2, by decide +kernel⟩, by decide +kernel⟩
theorem yvX8_endProgram : Cond.instanceMethod yX8_endProgram ∈ lw_good ∧ Cond.selects yX8_endProgram.cls yX8_endProgram yX8_endProgram ∈ lw_good := ⟨(lw_in (tk_7 (List.mem_of_getElem? (i := 42) rfl)) rfl), (lw_in (tk_7 (List.mem_of_getElem? (i := 43) rfl)) rfl)⟩
abbrev qX8_liesWithin : sx_Y := (yX8_liesWithin, cX8_liesWithin, 3, (some .boolean))
theorem y0X8_liesWithin : sx_Y0 qX8_liesWithin 1 := ⟨(lw_in (tk_7 (List.mem_of_getElem? (i := 24) rfl)) rfl), (lw_in (tk_1 (List.mem_of_getElem? (i := 4) rfl)) rfl), plainFor_of_name pnX8, ⟨nhX8.1, nhX8.2, by decide +kernel⟩, by decide +kernel⟩
theorem yvX8_liesWithin : Cond.instanceMethod yX8_liesWithin ∈ lw_good ∧ Cond.selects yX8_liesWithin.cls yX8_liesWithin yX8_liesWithin ∈ lw_good := ⟨(lw_in (tk_7 (List.mem_of_getElem? (i := 22) rfl)) rfl), (lw_in (tk_7 (List.mem_of_getElem? (i := 23) rfl)) rfl)⟩
abbrev qX8_shift : sx_Y := (yX8_shift, cX8_shift, 5, none)
theorem y0X8_shift : sx_Y0 qX8_shift 3 := ⟨(lw_in (tk_7 (List.mem_of_getElem? (i := 9) rfl)) rfl), (lw_in (tk_1 (List.mem_of_getElem? (i := 4) rfl)) rfl), plainFor_of_name pnX8, ⟨nhX8.1, nhX8.2, by decide +kernel⟩, by decide +kernel⟩
theorem yvX8_shift : Cond.instanceMethod yX8_shift ∈ lw_good ∧ Cond.selects yX8_shift.cls yX8_shift yX8_shift ∈ lw_good := ⟨(lw_in (tk_7 (List.mem_of_getElem? (i := 7) rfl)) rfl), (lw_in (tk_7 (List.mem_of_getElem? (i := 8) rfl)) rfl)⟩
abbrev qX9_init : sx_Y := (yX9_init, cX9_init, 1, none)
theorem pnX9 : plainName RX9 = true := by decide +kernel
theorem nhX9 : RX9 ≠ "java/lang/invoke/MethodHandle" ∧ RX9 ≠ "java/lang/invoke/VarHandle" := by decide +kernel
theorem y0X9_init : sx_Y0 qX9_init 0 := ⟨(lw_in (tk_2 (List.mem_of_getElem? (i := 143) rfl)) rfl), (lw_in (tk_1 (List.mem_of_getElem? (i := 10) rfl)) rfl), plainFor_of_name pnX9, ⟨nhX9.1, nhX9.2, by decide +kernel⟩, by decide +kernel⟩
theorem yiX9_init : Cond.instanceMethod yX9_init ∈ lw_good := (lw_in (tk_2 (List.mem_of_getElem? (i := 142) rfl)) rfl)
abbrev qX9_renew : sx_Y := (yX9_renew, cX9_renew, 1, none)
theorem y0X9_renew : sx_Y0 qX9_renew 0 := ⟨(lw_in (tk_5 (List.mem_of_getElem? (i := 18) rfl)) rfl), (lw_in (tk_1 (List.mem_of_getElem? (i := 10) rfl)) rfl), plainFor_of_name pnX9, ⟨nhX9.1, nhX9.2, by decide +kernel⟩, by decide +kernel⟩
theorem yvX9_renew : Cond.instanceMethod yX9_renew ∈ lw_good ∧ Cond.selects yX9_renew.cls yX9_renew yX9_renew ∈ lw_good := ⟨(lw_in (tk_5 (List.mem_of_getElem? (i := 16) rfl)) rfl), (lw_in (tk_5 (List.mem_of_getElem? (i := 17) rfl)) rfl)⟩
abbrev qX9_goAlong : sx_Y := (yX9_goAlong, cX9_goAlong, 2, none)
theorem y0X9_goAlong : sx_Y0 qX9_goAlong 1 := ⟨(lw_in (tk_5 (List.mem_of_getElem? (i := 22) rfl)) rfl), (lw_in (tk_1 (List.mem_of_getElem? (i := 10) rfl)) rfl), plainFor_of_name pnX9, ⟨nhX9.1, nhX9.2, by decide +kernel⟩, by decide +kernel⟩
theorem yvX9_goAlong : Cond.instanceMethod yX9_goAlong ∈ lw_good ∧ Cond.selects yX9_goAlong.cls yX9_goAlong yX9_goAlong ∈ lw_good := ⟨(lw_in (tk_5 (List.mem_of_getElem? (i := 20) rfl)) rfl), (lw_in (tk_5 (List.mem_of_getElem? (i := 21) rfl)) rfl)⟩
abbrev qX9_useWayForP : sx_Y := (yX9_useWayForP, cX9_useWayForP, 1, none)
theorem y0X9_useWayForP : sx_Y0 qX9_useWayForP 0 := ⟨(lw_in (tk_5 (List.mem_of_getElem? (i := 26) rfl)) rfl), (lw_in (tk_1 (List.mem_of_getElem? (i := 10) rfl)) rfl), plainFor_of_name pnX9, ⟨nhX9.1, nhX9.2, by decide +kernel⟩, by decide +kernel⟩
theorem yvX9_useWayForP : Cond.instanceMethod yX9_useWayForP ∈ lw_good ∧ Cond.selects yX9_useWayForP.cls yX9_useWayForP yX9_useWayForP ∈ lw_good := ⟨(lw_in (tk_5 (List.mem_of_getElem? (i := 24) rfl)) rfl), (lw_in (tk_5 (List.mem_of_getElem? (i := 25) rfl)) rfl)⟩
abbrev qX9_useWayForF : sx_Y := (yX9_useWayForF, cX9_useWayForF, 1, none)
theorem y0X9_useWayForF : sx_Y0 qX9_useWayForF 0 := ⟨(lw_in (tk_5 (List.mem_of_getElem? (i := 30) rfl)) rfl), (lw_in (tk_1 (List.mem_of_getElem? (i := 10) rfl)) rfl), plainFor_of_name pnX9, ⟨nhX9.1, nhX9.2, by decide +kernel⟩, by decide +kernel⟩
theorem yvX9_useWayForF : Cond.instanceMethod yX9_useWayForF ∈ lw_good ∧ Cond.selects yX9_useWayForF.cls yX9_useWayForF yX9_useWayForF ∈ lw_good := ⟨(lw_in (tk_5 (List.mem_of_getElem? (i := 28) rfl)) rfl), (lw_in (tk_5 (List.mem_of_getElem? (i := 29) rfl)) rfl)⟩
abbrev qX9_turnWayLeft : sx_Y := (yX9_turnWayLeft, cX9_turnWayLeft, 2, none)
theorem y0X9_turnWayLeft : sx_Y0 qX9_turnWayLeft 0 := ⟨(lw_in (tk_5 (List.mem_of_getElem? (i := 88) rfl)) rfl), (lw_in (tk_1 (List.mem_of_getElem? (i := 10) rfl)) rfl), plainFor_of_name pnX9, ⟨nhX9.1, nhX9.2, by decide +kernel⟩, by decide +kernel⟩
theorem yvX9_turnWayLeft : Cond.instanceMethod yX9_turnWayLeft ∈ lw_good ∧ Cond.selects yX9_turnWayLeft.cls yX9_turnWayLeft yX9_turnWayLeft ∈ lw_good := ⟨(lw_in (tk_5 (List.mem_of_getElem? (i := 86) rfl)) rfl), (lw_in (tk_5 (List.mem_of_getElem? (i := 87) rfl)) rfl)⟩
abbrev qX9_findWay : sx_Y := (yX9_findWay, cX9_findWay, 6, none)
theorem y0X9_findWay : sx_Y0 qX9_findWay 2 := ⟨(lw_in (tk_5 (List.mem_of_getElem? (i := 76) rfl)) rfl), (lw_in (tk_1 (List.mem_of_getElem? (i := 10) rfl)) rfl), plainFor_of_name pnX9, ⟨nhX9.1, nhX9.2, by decide +kernel⟩, by decide +kernel⟩
theorem yvX9_findWay : Cond.instanceMethod yX9_findWay ∈ lw_good ∧ Cond.selects yX9_findWay.cls yX9_findWay yX9_findWay ∈ lw_good := ⟨(lw_in (tk_5 (List.mem_of_getElem? (i := 74) rfl)) rfl), (lw_in (tk_5 (List.mem_of_getElem? (i := 75) rfl)) rfl)⟩
abbrev qX9_shareOf : sx_Y := (yX9_shareOf, cX9_shareOf, 12, (some .int))
theorem y0X9_shareOf : sx_Y0 qX9_shareOf 2 := ⟨(lw_in (tk_5 (List.mem_of_getElem? (i := 83) rfl)) rfl), (lw_in (tk_1 (List.mem_of_getElem? (i := 10) rfl)) rfl), plainFor_of_name pnX9, ⟨nhX9.1, nhX9.2, by decide +kernel⟩, by decide +kernel⟩
theorem ysX9_shareOf : Cond.static yX9_shareOf ∈ lw_good := (lw_in (tk_5 (List.mem_of_getElem? (i := 82) rfl)) rfl)
abbrev qX9_roundBy : sx_Y := (yX9_roundBy, cX9_roundBy, 2, none)
theorem y0X9_roundBy : sx_Y0 qX9_roundBy 1 := ⟨(lw_in (tk_5 (List.mem_of_getElem? (i := 35) rfl)) rfl), (lw_in (tk_1 (List.mem_of_getElem? (i := 10) rfl)) rfl), plainFor_of_name pnX9, ⟨nhX9.1, nhX9.2, by decide +kernel⟩, by decide +kernel⟩
theorem yvX9_roundBy : Cond.instanceMethod yX9_roundBy ∈ lw_good ∧ Cond.selects yX9_roundBy.cls yX9_roundBy yX9_roundBy ∈ lw_good := ⟨(lw_in (tk_5 (List.mem_of_getElem? (i := 33) rfl)) rfl), (lw_in (tk_5 (List.mem_of_getElem? (i := 34) rfl)) rfl)⟩
abbrev qX9_roundFinely : sx_Y := (yX9_roundFinely, cX9_roundFinely, 5, (some .boolean))
theorem y0X9_roundFinely : sx_Y0 qX9_roundFinely 2 := ⟨(lw_in (tk_5 (List.mem_of_getElem? (i := 134) rfl)) rfl), (lw_in (tk_1 (List.mem_of_getElem? (i := 10) rfl)) rfl), plainFor_of_name pnX9, ⟨nhX9.1, nhX9.2, by decide +kernel⟩, by decide +kernel⟩
theorem yvX9_roundFinely : Cond.instanceMethod yX9_roundFinely ∈ lw_good ∧ Cond.selects yX9_roundFinely.cls yX9_roundFinely yX9_roundFinely ∈ lw_good := ⟨(lw_in (tk_5 (List.mem_of_getElem? (i := 132) rfl)) rfl), (lw_in (tk_5 (List.mem_of_getElem? (i := 133) rfl)) rfl)⟩
abbrev qX9_rounded : sx_Y := (yX9_rounded, cX9_rounded, 7, (some .long))
theorem y0X9_rounded : sx_Y0 qX9_rounded 1 := ⟨(lw_in (tk_6 (List.mem_of_getElem? (i := 16) rfl)) rfl), (lw_in (tk_1 (List.mem_of_getElem? (i := 10) rfl)) rfl), plainFor_of_name pnX9, ⟨nhX9.1, nhX9.2, by decide +kernel⟩, by decide +kernel⟩
theorem yvX9_rounded : Cond.instanceMethod yX9_rounded ∈ lw_good ∧ Cond.selects yX9_rounded.cls yX9_rounded yX9_rounded ∈ lw_good := ⟨(lw_in (tk_6 (List.mem_of_getElem? (i := 14) rfl)) rfl), (lw_in (tk_6 (List.mem_of_getElem? (i := 15) rfl)) rfl)⟩
abbrev qX10_init : sx_Y := (yX10_init, cX10_init, 1, none)
theorem pnX10 : plainName RX10 = true := by decide +kernel
theorem nhX10 : RX10 ≠ "java/lang/invoke/MethodHandle" ∧ RX10 ≠ "java/lang/invoke/VarHandle" := by decide +kernel
theorem y0X10_init : sx_Y0 qX10_init 0 := ⟨(lw_in (tk_2 (List.mem_of_getElem? (i := 90) rfl)) rfl), (lw_in (tk_1 (List.mem_of_getElem? (i := 8) rfl)) rfl), plainFor_of_name pnX10, ⟨nhX10.1, nhX10.2, by decide +kernel⟩, by decide +kernel⟩
theorem yiX10_init : Cond.instanceMethod yX10_init ∈ lw_good := (lw_in (tk_2 (List.mem_of_getElem? (i := 89) rfl)) rfl)
abbrev qX10_trace : sx_Y := (yX10_trace, cX10_trace, 3, none)
theorem y0X10_trace : sx_Y0 qX10_trace 1 := ⟨(lw_in (tk_7 (List.mem_of_getElem? (i := 48) rfl)) rfl), (lw_in (tk_1 (List.mem_of_getElem? (i := 8) rfl)) rfl), plainFor_of_name pnX10, ⟨nhX10.1, nhX10.2, by decide +kernel⟩, by decide +kernel⟩
theorem yvX10_trace : Cond.instanceMethod yX10_trace ∈ lw_good ∧ Cond.selects yX10_trace.cls yX10_trace yX10_trace ∈ lw_good := ⟨(lw_in (tk_7 (List.mem_of_getElem? (i := 46) rfl)) rfl), (lw_in (tk_7 (List.mem_of_getElem? (i := 47) rfl)) rfl)⟩
abbrev qX10_traceContour : sx_Y := (yX10_traceContour, cX10_traceContour, 7, none)
theorem y0X10_traceContour : sx_Y0 qX10_traceContour 3 := ⟨(lw_in (tk_7 (List.mem_of_getElem? (i := 53) rfl)) rfl), (lw_in (tk_1 (List.mem_of_getElem? (i := 8) rfl)) rfl), plainFor_of_name pnX10, ⟨nhX10.1, nhX10.2, by decide +kernel⟩, by decide +kernel⟩
theorem yvX10_traceContour : Cond.instanceMethod yX10_traceContour ∈ lw_good ∧ Cond.selects yX10_traceContour.cls yX10_traceContour yX10_traceContour ∈ lw_good := ⟨(lw_in (tk_7 (List.mem_of_getElem? (i := 52) rfl)) rfl), (lw_sel (q := (yX10_traceContour, 13)) (List.mem_of_getElem? (i := 123) (by decide +kernel)) (by decide +kernel))⟩
abbrev qX10_addLine : sx_Y := (yX10_addLine, cX10_addLine, 4, none)
theorem y0X10_addLine : sx_Y0 qX10_addLine 3 := ⟨(lw_in (tk_7 (List.mem_of_getElem? (i := 57) rfl)) rfl), (lw_in (tk_1 (List.mem_of_getElem? (i := 8) rfl)) rfl), plainFor_of_name pnX10, ⟨nhX10.1, nhX10.2, by decide +kernel⟩, by decide +kernel⟩
theorem yvX10_addLine : Cond.instanceMethod yX10_addLine ∈ lw_good ∧ Cond.selects yX10_addLine.cls yX10_addLine yX10_addLine ∈ lw_good := ⟨(lw_in (tk_7 (List.mem_of_getElem? (i := 56) rfl)) rfl), (lw_sel (q := (yX10_addLine, 13)) (List.mem_of_getElem? (i := 124) (by decide +kernel)) (by decide +kernel))⟩
abbrev qX10_addCurve : sx_Y := (yX10_addCurve, cX10_addCurve, 7, none)
theorem y0X10_addCurve : sx_Y0 qX10_addCurve 4 := ⟨(lw_in (tk_7 (List.mem_of_getElem? (i := 61) rfl)) rfl), (lw_in (tk_1 (List.mem_of_getElem? (i := 8) rfl)) rfl), plainFor_of_name pnX10, ⟨nhX10.1, nhX10.2, by decide +kernel⟩, by decide +kernel⟩
theorem yvX10_addCurve : Cond.instanceMethod yX10_addCurve ∈ lw_good ∧ Cond.selects yX10_addCurve.cls yX10_addCurve yX10_addCurve ∈ lw_good := ⟨(lw_in (tk_7 (List.mem_of_getElem? (i := 60) rfl)) rfl), (lw_sel (q := (yX10_addCurve, 13)) (List.mem_of_getElem? (i := 125) (by decide +kernel)) (by decide +kernel))⟩
abbrev qX10_spans : sx_Y := (yX10_spans, cX10_spans, 2, (some .boolean))
theorem y0X10_spans : sx_Y0 qX10_spans 1 := ⟨(lw_in (tk_7 (List.mem_of_getElem? (i := 138) rfl)) rfl), (lw_in (tk_1 (List.mem_of_getElem? (i := 8) rfl)) rfl), plainFor_of_name pnX10, ⟨nhX10.1, nhX10.2, by decide +kernel⟩, by decide +kernel⟩
theorem yvX10_spans : Cond.instanceMethod yX10_spans ∈ lw_good ∧ Cond.selects yX10_spans.cls yX10_spans yX10_spans ∈ lw_good := ⟨(lw_in (tk_7 (List.mem_of_getElem? (i := 136) rfl)) rfl), (lw_in (tk_7 (List.mem_of_getElem? (i := 137) rfl)) rfl)⟩
abbrev qX10_chooseRow : sx_Y := (yX10_chooseRow, cX10_chooseRow, 5, none)
theorem y0X10_chooseRow : sx_Y0 qX10_chooseRow 1 := ⟨(lw_in (tk_7 (List.mem_of_getElem? (i := 92) rfl)) rfl), (lw_in (tk_1 (List.mem_of_getElem? (i := 8) rfl)) rfl), plainFor_of_name pnX10, ⟨nhX10.1, nhX10.2, by decide +kernel⟩, by decide +kernel⟩
theorem yvX10_chooseRow : Cond.instanceMethod yX10_chooseRow ∈ lw_good ∧ Cond.selects yX10_chooseRow.cls yX10_chooseRow yX10_chooseRow ∈ lw_good := ⟨(lw_in (tk_7 (List.mem_of_getElem? (i := 90) rfl)) rfl), (lw_in (tk_7 (List.mem_of_getElem? (i := 91) rfl)) rfl)⟩
abbrev qX10_hasRow : sx_Y := (yX10_hasRow, cX10_hasRow, 1, (some .boolean))
theorem y0X10_hasRow : sx_Y0 qX10_hasRow 0 := ⟨(lw_in (tk_7 (List.mem_of_getElem? (i := 134) rfl)) rfl), (lw_in (tk_1 (List.mem_of_getElem? (i := 8) rfl)) rfl), plainFor_of_name pnX10, ⟨nhX10.1, nhX10.2, by decide +kernel⟩, by decide +kernel⟩
theorem yvX10_hasRow : Cond.instanceMethod yX10_hasRow ∈ lw_good ∧ Cond.selects yX10_hasRow.cls yX10_hasRow yX10_hasRow ∈ lw_good := ⟨(lw_in (tk_7 (List.mem_of_getElem? (i := 132) rfl)) rfl), (lw_in (tk_7 (List.mem_of_getElem? (i := 133) rfl)) rfl)⟩
abbrev qX10_holds : sx_Y := (yX10_holds, cX10_holds, 6, (some .boolean))
theorem y0X10_holds : sx_Y0 qX10_holds 2 := ⟨(lw_in (tk_7 (List.mem_of_getElem? (i := 96) rfl)) rfl), (lw_in (tk_1 (List.mem_of_getElem? (i := 8) rfl)) rfl), plainFor_of_name pnX10, ⟨nhX10.1, nhX10.2, by decide +kernel⟩, by decide +kernel⟩
theorem yvX10_holds : Cond.instanceMethod yX10_holds ∈ lw_good ∧ Cond.selects yX10_holds.cls yX10_holds yX10_holds ∈ lw_good := ⟨(lw_in (tk_7 (List.mem_of_getElem? (i := 94) rfl)) rfl), (lw_in (tk_7 (List.mem_of_getElem? (i := 95) rfl)) rfl)⟩
abbrev qX10_meets : sx_Y := (yX10_meets, cX10_meets, 27, (some .boolean))
theorem y0X10_meets : sx_Y0 qX10_meets 3 := ⟨(lw_in (tk_7 (List.mem_of_getElem? (i := 100) rfl)) rfl), (lw_in (tk_1 (List.mem_of_getElem? (i := 8) rfl)) rfl), plainFor_of_name pnX10, ⟨nhX10.1, nhX10.2, by decide +kernel⟩, by decide +kernel⟩
theorem yvX10_meets : Cond.instanceMethod yX10_meets ∈ lw_good ∧ Cond.selects yX10_meets.cls yX10_meets yX10_meets ∈ lw_good := ⟨(lw_in (tk_7 (List.mem_of_getElem? (i := 99) rfl)) rfl), (lw_sel (q := (yX10_meets, 13)) (List.mem_of_getElem? (i := 126) (by decide +kernel)) (by decide +kernel))⟩
abbrev qX10_reaches : sx_Y := (yX10_reaches, cX10_reaches, 6, (some .boolean))
theorem y0X10_reaches : sx_Y0 qX10_reaches 3 := ⟨(lw_in (tk_7 (List.mem_of_getElem? (i := 109) rfl)) rfl), (lw_in (tk_1 (List.mem_of_getElem? (i := 8) rfl)) rfl), plainFor_of_name pnX10, ⟨nhX10.1, nhX10.2, by decide +kernel⟩, by decide +kernel⟩
theorem ysX10_reaches : Cond.static yX10_reaches ∈ lw_good := (lw_in (tk_7 (List.mem_of_getElem? (i := 108) rfl)) rfl)
abbrev qX10_sideOf : sx_Y := (yX10_sideOf, cX10_sideOf, 10, (some .int))
theorem y0X10_sideOf : sx_Y0 qX10_sideOf 4 := ⟨(lw_in (tk_7 (List.mem_of_getElem? (i := 106) rfl)) rfl), (lw_in (tk_1 (List.mem_of_getElem? (i := 8) rfl)) rfl), plainFor_of_name pnX10, ⟨nhX10.1, nhX10.2, by decide +kernel⟩, by decide +kernel⟩
theorem ysX10_sideOf : Cond.static yX10_sideOf ∈ lw_good := (lw_in (tk_7 (List.mem_of_getElem? (i := 105) rfl)) rfl)
abbrev qX10_crossing : sx_Y := (yX10_crossing, cX10_crossing, 8, (some .int))
theorem y0X10_crossing : sx_Y0 qX10_crossing 4 := ⟨(lw_in (tk_7 (List.mem_of_getElem? (i := 103) rfl)) rfl), (lw_in (tk_1 (List.mem_of_getElem? (i := 8) rfl)) rfl), plainFor_of_name pnX10, ⟨nhX10.1, nhX10.2, by decide +kernel⟩, by decide +kernel⟩
theorem ysX10_crossing : Cond.static yX10_crossing ∈ lw_good := (lw_in (tk_7 (List.mem_of_getElem? (i := 102) rfl)) rfl)
abbrev qX11_init : sx_Y := (yX11_init, cX11_init, 2, none)
theorem pnX11 : plainName RX11 = true := by decide +kernel
theorem nhX11 : RX11 ≠ "java/lang/invoke/MethodHandle" ∧ RX11 ≠ "java/lang/invoke/VarHandle" := by decide +kernel
theorem y0X11_init : sx_Y0 qX11_init 0 := ⟨(lw_in (tk_1 (List.mem_of_getElem? (i := 21) rfl)) rfl), (lw_in (tk_1 (List.mem_of_getElem? (i := 1) rfl)) rfl), plainFor_of_name pnX11, ⟨nhX11.1, nhX11.2, by decide +kernel⟩, by decide +kernel⟩
theorem yiX11_init : Cond.instanceMethod yX11_init ∈ lw_good := (lw_in (tk_1 (List.mem_of_getElem? (i := 20) rfl)) rfl)
abbrev qX11_feed : sx_Y := (yX11_feed, cX11_feed, 5, (some .int))
theorem y0X11_feed : sx_Y0 qX11_feed 2 := ⟨(lw_in (tk_3 (List.mem_of_getElem? (i := 163) rfl)) rfl), (lw_in (tk_1 (List.mem_of_getElem? (i := 1) rfl)) rfl), plainFor_of_name pnX11, ⟨nhX11.1, nhX11.2, by decide +kernel⟩, by decide +kernel⟩
theorem yvX11_feed : Cond.instanceMethod yX11_feed ∈ lw_good ∧ Cond.selects yX11_feed.cls yX11_feed yX11_feed ∈ lw_good := ⟨(lw_in (tk_3 (List.mem_of_getElem? (i := 161) rfl)) rfl), (lw_in (tk_3 (List.mem_of_getElem? (i := 162) rfl)) rfl)⟩
abbrev qX11_wipe : sx_Y := (yX11_wipe, cX11_wipe, 2, (some .int))
theorem y0X11_wipe : sx_Y0 qX11_wipe 0 := ⟨(lw_in (tk_3 (List.mem_of_getElem? (i := 167) rfl)) rfl), (lw_in (tk_1 (List.mem_of_getElem? (i := 1) rfl)) rfl), plainFor_of_name pnX11, ⟨nhX11.1, nhX11.2, by decide +kernel⟩, by decide +kernel⟩
theorem yvX11_wipe : Cond.instanceMethod yX11_wipe ∈ lw_good ∧ Cond.selects yX11_wipe.cls yX11_wipe yX11_wipe ∈ lw_good := ⟨(lw_in (tk_3 (List.mem_of_getElem? (i := 165) rfl)) rfl), (lw_in (tk_3 (List.mem_of_getElem? (i := 166) rfl)) rfl)⟩
abbrev qX11_load : sx_Y := (yX11_load, cX11_load, 2, (some .int))
theorem y0X11_load : sx_Y0 qX11_load 0 := ⟨(lw_in (tk_3 (List.mem_of_getElem? (i := 171) rfl)) rfl), (lw_in (tk_1 (List.mem_of_getElem? (i := 1) rfl)) rfl), plainFor_of_name pnX11, ⟨nhX11.1, nhX11.2, by decide +kernel⟩, by decide +kernel⟩
theorem yvX11_load : Cond.instanceMethod yX11_load ∈ lw_good ∧ Cond.selects yX11_load.cls yX11_load yX11_load ∈ lw_good := ⟨(lw_in (tk_3 (List.mem_of_getElem? (i := 169) rfl)) rfl), (lw_in (tk_3 (List.mem_of_getElem? (i := 170) rfl)) rfl)⟩
abbrev qX11_font : sx_Y := (yX11_font, cX11_font, 2, (some .int))
theorem y0X11_font : sx_Y0 qX11_font 1 := ⟨(lw_in (tk_4 (List.mem_of_getElem? (i := 150) rfl)) rfl), (lw_in (tk_1 (List.mem_of_getElem? (i := 1) rfl)) rfl), plainFor_of_name pnX11, ⟨nhX11.1, nhX11.2, by decide +kernel⟩, by decide +kernel⟩
theorem yvX11_font : Cond.instanceMethod yX11_font ∈ lw_good ∧ Cond.selects yX11_font.cls yX11_font yX11_font ∈ lw_good := ⟨(lw_in (tk_4 (List.mem_of_getElem? (i := 148) rfl)) rfl), (lw_in (tk_4 (List.mem_of_getElem? (i := 149) rfl)) rfl)⟩
abbrev qX11_table : sx_Y := (yX11_table, cX11_table, 3, (some .long))
theorem y0X11_table : sx_Y0 qX11_table 2 := ⟨(lw_in (tk_4 (List.mem_of_getElem? (i := 154) rfl)) rfl), (lw_in (tk_1 (List.mem_of_getElem? (i := 1) rfl)) rfl), plainFor_of_name pnX11, ⟨nhX11.1, nhX11.2, by decide +kernel⟩, by decide +kernel⟩
theorem yvX11_table : Cond.instanceMethod yX11_table ∈ lw_good ∧ Cond.selects yX11_table.cls yX11_table yX11_table ∈ lw_good := ⟨(lw_in (tk_4 (List.mem_of_getElem? (i := 152) rfl)) rfl), (lw_in (tk_4 (List.mem_of_getElem? (i := 153) rfl)) rfl)⟩
abbrev qX11_glyphOf : sx_Y := (yX11_glyphOf, cX11_glyphOf, 2, (some .int))
theorem y0X11_glyphOf : sx_Y0 qX11_glyphOf 1 := ⟨(lw_in (tk_4 (List.mem_of_getElem? (i := 162) rfl)) rfl), (lw_in (tk_1 (List.mem_of_getElem? (i := 1) rfl)) rfl), plainFor_of_name pnX11, ⟨nhX11.1, nhX11.2, by decide +kernel⟩, by decide +kernel⟩
theorem yvX11_glyphOf : Cond.instanceMethod yX11_glyphOf ∈ lw_good ∧ Cond.selects yX11_glyphOf.cls yX11_glyphOf yX11_glyphOf ∈ lw_good := ⟨(lw_in (tk_4 (List.mem_of_getElem? (i := 160) rfl)) rfl), (lw_in (tk_4 (List.mem_of_getElem? (i := 161) rfl)) rfl)⟩
abbrev qX11_glyph : sx_Y := (yX11_glyph, cX11_glyph, 3, (some .int))
theorem y0X11_glyph : sx_Y0 qX11_glyph 2 := ⟨(lw_in (tk_4 (List.mem_of_getElem? (i := 186) rfl)) rfl), (lw_in (tk_1 (List.mem_of_getElem? (i := 1) rfl)) rfl), plainFor_of_name pnX11, ⟨nhX11.1, nhX11.2, by decide +kernel⟩, by decide +kernel⟩
theorem yvX11_glyph : Cond.instanceMethod yX11_glyph ∈ lw_good ∧ Cond.selects yX11_glyph.cls yX11_glyph yX11_glyph ∈ lw_good := ⟨(lw_in (tk_4 (List.mem_of_getElem? (i := 184) rfl)) rfl), (lw_in (tk_4 (List.mem_of_getElem? (i := 185) rfl)) rfl)⟩
abbrev qX11_kern : sx_Y := (yX11_kern, cX11_kern, 3, (some .int))
theorem y0X11_kern : sx_Y0 qX11_kern 2 := ⟨(lw_in (tk_4 (List.mem_of_getElem? (i := 204) rfl)) rfl), (lw_in (tk_1 (List.mem_of_getElem? (i := 1) rfl)) rfl), plainFor_of_name pnX11, ⟨nhX11.1, nhX11.2, by decide +kernel⟩, by decide +kernel⟩
theorem yvX11_kern : Cond.instanceMethod yX11_kern ∈ lw_good ∧ Cond.selects yX11_kern.cls yX11_kern yX11_kern ∈ lw_good := ⟨(lw_in (tk_4 (List.mem_of_getElem? (i := 202) rfl)) rfl), (lw_in (tk_4 (List.mem_of_getElem? (i := 203) rfl)) rfl)⟩
abbrev qX11_size : sx_Y := (yX11_size, cX11_size, 2, (some .int))
theorem y0X11_size : sx_Y0 qX11_size 1 := ⟨(lw_in (tk_4 (List.mem_of_getElem? (i := 212) rfl)) rfl), (lw_in (tk_1 (List.mem_of_getElem? (i := 1) rfl)) rfl), plainFor_of_name pnX11, ⟨nhX11.1, nhX11.2, by decide +kernel⟩, by decide +kernel⟩
theorem yvX11_size : Cond.instanceMethod yX11_size ∈ lw_good ∧ Cond.selects yX11_size.cls yX11_size yX11_size ∈ lw_good := ⟨(lw_in (tk_4 (List.mem_of_getElem? (i := 210) rfl)) rfl), (lw_in (tk_4 (List.mem_of_getElem? (i := 211) rfl)) rfl)⟩
abbrev qX11_make : sx_Y := (yX11_make, cX11_make, 2, (some .int))
theorem y0X11_make : sx_Y0 qX11_make 1 := ⟨(lw_in (tk_6 (List.mem_of_getElem? (i := 196) rfl)) rfl), (lw_in (tk_1 (List.mem_of_getElem? (i := 1) rfl)) rfl), plainFor_of_name pnX11, ⟨nhX11.1, nhX11.2, by decide +kernel⟩, by decide +kernel⟩
theorem yvX11_make : Cond.instanceMethod yX11_make ∈ lw_good ∧ Cond.selects yX11_make.cls yX11_make yX11_make ∈ lw_good := ⟨(lw_in (tk_6 (List.mem_of_getElem? (i := 194) rfl)) rfl), (lw_in (tk_6 (List.mem_of_getElem? (i := 195) rfl)) rfl)⟩
abbrev qX11_point : sx_Y := (yX11_point, cX11_point, 4, (some .int))
theorem y0X11_point : sx_Y0 qX11_point 2 := ⟨(lw_in (tk_7 (List.mem_of_getElem? (i := 67) rfl)) rfl), (lw_in (tk_1 (List.mem_of_getElem? (i := 1) rfl)) rfl), plainFor_of_name pnX11, ⟨nhX11.1, nhX11.2, by decide +kernel⟩, by decide +kernel⟩
theorem yvX11_point : Cond.instanceMethod yX11_point ∈ lw_good ∧ Cond.selects yX11_point.cls yX11_point yX11_point ∈ lw_good := ⟨(lw_in (tk_7 (List.mem_of_getElem? (i := 65) rfl)) rfl), (lw_in (tk_7 (List.mem_of_getElem? (i := 66) rfl)) rfl)⟩
abbrev qX11_told : sx_Y := (yX11_told, cX11_told, 3, (some .int))
theorem y0X11_told : sx_Y0 qX11_told 1 := ⟨(lw_in (tk_7 (List.mem_of_getElem? (i := 75) rfl)) rfl), (lw_in (tk_1 (List.mem_of_getElem? (i := 1) rfl)) rfl), plainFor_of_name pnX11, ⟨nhX11.1, nhX11.2, by decide +kernel⟩, by decide +kernel⟩
theorem yvX11_told : Cond.instanceMethod yX11_told ∈ lw_good ∧ Cond.selects yX11_told.cls yX11_told yX11_told ∈ lw_good := ⟨(lw_in (tk_7 (List.mem_of_getElem? (i := 73) rfl)) rfl), (lw_in (tk_7 (List.mem_of_getElem? (i := 74) rfl)) rfl)⟩
abbrev qX11_held : sx_Y := (yX11_held, cX11_held, 5, (some .int))
theorem y0X11_held : sx_Y0 qX11_held 2 := ⟨(lw_in (tk_7 (List.mem_of_getElem? (i := 83) rfl)) rfl), (lw_in (tk_1 (List.mem_of_getElem? (i := 1) rfl)) rfl), plainFor_of_name pnX11, ⟨nhX11.1, nhX11.2, by decide +kernel⟩, by decide +kernel⟩
theorem yvX11_held : Cond.instanceMethod yX11_held ∈ lw_good ∧ Cond.selects yX11_held.cls yX11_held yX11_held ∈ lw_good := ⟨(lw_in (tk_7 (List.mem_of_getElem? (i := 81) rfl)) rfl), (lw_in (tk_7 (List.mem_of_getElem? (i := 82) rfl)) rfl)⟩
abbrev qX11_isIn : sx_Y := (yX11_isIn, cX11_isIn, 3, (some .int))
theorem y0X11_isIn : sx_Y0 qX11_isIn 2 := ⟨(lw_in (tk_7 (List.mem_of_getElem? (i := 87) rfl)) rfl), (lw_in (tk_1 (List.mem_of_getElem? (i := 1) rfl)) rfl), plainFor_of_name pnX11, ⟨nhX11.1, nhX11.2, by decide +kernel⟩, by decide +kernel⟩
theorem yvX11_isIn : Cond.instanceMethod yX11_isIn ∈ lw_good ∧ Cond.selects yX11_isIn.cls yX11_isIn yX11_isIn ∈ lw_good := ⟨(lw_in (tk_7 (List.mem_of_getElem? (i := 85) rfl)) rfl), (lw_in (tk_7 (List.mem_of_getElem? (i := 86) rfl)) rfl)⟩
abbrev qX11_canvas : sx_Y := (yX11_canvas, cX11_canvas, 3, (some .int))
theorem y0X11_canvas : sx_Y0 qX11_canvas 2 := ⟨(lw_in (tk_7 (List.mem_of_getElem? (i := 114) rfl)) rfl), (lw_in (tk_1 (List.mem_of_getElem? (i := 1) rfl)) rfl), plainFor_of_name pnX11, ⟨nhX11.1, nhX11.2, by decide +kernel⟩, by decide +kernel⟩
theorem yvX11_canvas : Cond.instanceMethod yX11_canvas ∈ lw_good ∧ Cond.selects yX11_canvas.cls yX11_canvas yX11_canvas ∈ lw_good := ⟨(lw_in (tk_7 (List.mem_of_getElem? (i := 112) rfl)) rfl), (lw_in (tk_7 (List.mem_of_getElem? (i := 113) rfl)) rfl)⟩
abbrev qX11_draw : sx_Y := (yX11_draw, cX11_draw, 3, (some .int))
theorem y0X11_draw : sx_Y0 qX11_draw 2 := ⟨(lw_in (tk_7 (List.mem_of_getElem? (i := 125) rfl)) rfl), (lw_in (tk_1 (List.mem_of_getElem? (i := 1) rfl)) rfl), plainFor_of_name pnX11, ⟨nhX11.1, nhX11.2, by decide +kernel⟩, by decide +kernel⟩
theorem yvX11_draw : Cond.instanceMethod yX11_draw ∈ lw_good ∧ Cond.selects yX11_draw.cls yX11_draw yX11_draw ∈ lw_good := ⟨(lw_in (tk_7 (List.mem_of_getElem? (i := 123) rfl)) rfl), (lw_in (tk_7 (List.mem_of_getElem? (i := 124) rfl)) rfl)⟩
abbrev qX11_pixel : sx_Y := (yX11_pixel, cX11_pixel, 3, (some .int))
theorem y0X11_pixel : sx_Y0 qX11_pixel 2 := ⟨(lw_in (tk_7 (List.mem_of_getElem? (i := 143) rfl)) rfl), (lw_in (tk_1 (List.mem_of_getElem? (i := 1) rfl)) rfl), plainFor_of_name pnX11, ⟨nhX11.1, nhX11.2, by decide +kernel⟩, by decide +kernel⟩
theorem yvX11_pixel : Cond.instanceMethod yX11_pixel ∈ lw_good ∧ Cond.selects yX11_pixel.cls yX11_pixel yX11_pixel ∈ lw_good := ⟨(lw_in (tk_7 (List.mem_of_getElem? (i := 141) rfl)) rfl), (lw_in (tk_7 (List.mem_of_getElem? (i := 142) rfl)) rfl)⟩
abbrev qX11_type : sx_Y := (yX11_type, cX11_type, 2, (some .int))
theorem y0X11_type : sx_Y0 qX11_type 1 := ⟨(lw_in (tk_7 (List.mem_of_getElem? (i := 147) rfl)) rfl), (lw_in (tk_1 (List.mem_of_getElem? (i := 1) rfl)) rfl), plainFor_of_name pnX11, ⟨nhX11.1, nhX11.2, by decide +kernel⟩, by decide +kernel⟩
theorem yvX11_type : Cond.instanceMethod yX11_type ∈ lw_good ∧ Cond.selects yX11_type.cls yX11_type yX11_type ∈ lw_good := ⟨(lw_in (tk_7 (List.mem_of_getElem? (i := 145) rfl)) rfl), (lw_in (tk_7 (List.mem_of_getElem? (i := 146) rfl)) rfl)⟩
abbrev qX11_line : sx_Y := (yX11_line, cX11_line, 10, (some .int))
theorem y0X11_line : sx_Y0 qX11_line 2 := ⟨(lw_in (tk_7 (List.mem_of_getElem? (i := 151) rfl)) rfl), (lw_in (tk_1 (List.mem_of_getElem? (i := 1) rfl)) rfl), plainFor_of_name pnX11, ⟨nhX11.1, nhX11.2, by decide +kernel⟩, by decide +kernel⟩
theorem yvX11_line : Cond.instanceMethod yX11_line ∈ lw_good ∧ Cond.selects yX11_line.cls yX11_line yX11_line ∈ lw_good := ⟨(lw_in (tk_7 (List.mem_of_getElem? (i := 149) rfl)) rfl), (lw_in (tk_7 (List.mem_of_getElem? (i := 150) rfl)) rfl)⟩
abbrev qX11_isBeyond : sx_Y := (yX11_isBeyond, cX11_isBeyond, 3, (some .boolean))
theorem y0X11_isBeyond : sx_Y0 qX11_isBeyond 2 := ⟨(lw_in (tk_5 (List.mem_of_getElem? (i := 79) rfl)) rfl), (lw_in (tk_1 (List.mem_of_getElem? (i := 1) rfl)) rfl), plainFor_of_name pnX11, ⟨nhX11.1, nhX11.2, by decide +kernel⟩, by decide +kernel⟩
theorem ysX11_isBeyond : Cond.static yX11_isBeyond ∈ lw_good := (lw_in (tk_5 (List.mem_of_getElem? (i := 78) rfl)) rfl)
abbrev qX11_nearest : sx_Y := (yX11_nearest, cX11_nearest, 12, (some .long))
theorem y0X11_nearest : sx_Y0 qX11_nearest 2 := ⟨(lw_in (tk_4 (List.mem_of_getElem? (i := 226) rfl)) rfl), (lw_in (tk_1 (List.mem_of_getElem? (i := 1) rfl)) rfl), plainFor_of_name pnX11, ⟨nhX11.1, nhX11.2, by decide +kernel⟩, by decide +kernel⟩
theorem ysX11_nearest : Cond.static yX11_nearest ∈ lw_good := (lw_in (tk_4 (List.mem_of_getElem? (i := 225) rfl)) rfl)
abbrev qX11_toWholePixel : sx_Y := (yX11_toWholePixel, cX11_toWholePixel, 2, (some .long))
theorem y0X11_toWholePixel : sx_Y0 qX11_toWholePixel 1 := ⟨(lw_in (tk_7 (List.mem_of_getElem? (i := 2) rfl)) rfl), (lw_in (tk_1 (List.mem_of_getElem? (i := 1) rfl)) rfl), plainFor_of_name pnX11, ⟨nhX11.1, nhX11.2, by decide +kernel⟩, by decide +kernel⟩
theorem ysX11_toWholePixel : Cond.static yX11_toWholePixel ∈ lw_good := (lw_in (tk_7 (List.mem_of_getElem? (i := 1) rfl)) rfl)
abbrev qX12_init : sx_Y := (yX12_init, cX12_init, 1, none)
theorem pnX12 : plainName RX12 = true := by decide +kernel
theorem nhX12 : RX12 ≠ "java/lang/invoke/MethodHandle" ∧ RX12 ≠ "java/lang/invoke/VarHandle" := by decide +kernel
theorem y0X12_init : sx_Y0 qX12_init 0 := ⟨(lw_in (tk_7 (List.mem_of_getElem? (i := 159) rfl)) rfl), (lw_in (tk_1 (List.mem_of_getElem? (i := 13) rfl)) rfl), plainFor_of_name pnX12, ⟨nhX12.1, nhX12.2, by decide +kernel⟩, by decide +kernel⟩
theorem yiX12_init : Cond.instanceMethod yX12_init ∈ lw_good := (lw_in (tk_7 (List.mem_of_getElem? (i := 158) rfl)) rfl)
abbrev qX12_in : sx_Y := (yX12_in, cX12_in, 6, (some .boolean))
theorem y0X12_in : sx_Y0 qX12_in 3 := ⟨(lw_in (tk_9 (List.mem_of_getElem? (i := 129) rfl)) rfl), (lw_in (tk_1 (List.mem_of_getElem? (i := 13) rfl)) rfl), plainFor_of_name pnX12, ⟨nhX12.1, nhX12.2, by decide +kernel⟩, by decide +kernel⟩
theorem ysX12_in : Cond.static yX12_in ∈ lw_good := (lw_in (tk_9 (List.mem_of_getElem? (i := 128) rfl)) rfl)
abbrev qX12_over : sx_Y := (yX12_over, cX12_over, 4, (some .long))
theorem y0X12_over : sx_Y0 qX12_over 2 := ⟨(lw_in (tk_9 (List.mem_of_getElem? (i := 162) rfl)) rfl), (lw_in (tk_1 (List.mem_of_getElem? (i := 13) rfl)) rfl), plainFor_of_name pnX12, ⟨nhX12.1, nhX12.2, by decide +kernel⟩, by decide +kernel⟩
theorem ysX12_over : Cond.static yX12_over ∈ lw_good := (lw_in (tk_9 (List.mem_of_getElem? (i := 161) rfl)) rfl)
abbrev qX12_nearest : sx_Y := (yX12_nearest, cX12_nearest, 10, (some .long))
theorem y0X12_nearest : sx_Y0 qX12_nearest 2 := ⟨(lw_in (tk_9 (List.mem_of_getElem? (i := 165) rfl)) rfl), (lw_in (tk_1 (List.mem_of_getElem? (i := 13) rfl)) rfl), plainFor_of_name pnX12, ⟨nhX12.1, nhX12.2, by decide +kernel⟩, by decide +kernel⟩
theorem ysX12_nearest : Cond.static yX12_nearest ∈ lw_good := (lw_in (tk_9 (List.mem_of_getElem? (i := 164) rfl)) rfl)
abbrev qX12_sizeOf : sx_Y := (yX12_sizeOf, cX12_sizeOf, 2, (some .long))
theorem y0X12_sizeOf : sx_Y0 qX12_sizeOf 1 := ⟨(lw_in (tk_9 (List.mem_of_getElem? (i := 168) rfl)) rfl), (lw_in (tk_1 (List.mem_of_getElem? (i := 13) rfl)) rfl), plainFor_of_name pnX12, ⟨nhX12.1, nhX12.2, by decide +kernel⟩, by decide +kernel⟩
theorem ysX12_sizeOf : Cond.static yX12_sizeOf ∈ lw_good := (lw_in (tk_9 (List.mem_of_getElem? (i := 167) rfl)) rfl)
abbrev qX12_toPixel : sx_Y := (yX12_toPixel, cX12_toPixel, 2, (some .int))
theorem y0X12_toPixel : sx_Y0 qX12_toPixel 1 := ⟨(lw_in (tk_11 (List.mem_of_getElem? (i := 5) rfl)) rfl), (lw_in (tk_1 (List.mem_of_getElem? (i := 13) rfl)) rfl), plainFor_of_name pnX12, ⟨nhX12.1, nhX12.2, by decide +kernel⟩, by decide +kernel⟩
theorem ysX12_toPixel : Cond.static yX12_toPixel ∈ lw_good := (lw_in (tk_11 (List.mem_of_getElem? (i := 4) rfl)) rfl)
abbrev qX12_u1 : sx_Y := (yX12_u1, cX12_u1, 2, (some .int))
theorem y0X12_u1 : sx_Y0 qX12_u1 1 := ⟨(lw_in (tk_9 (List.mem_of_getElem? (i := 154) rfl)) rfl), (lw_in (tk_1 (List.mem_of_getElem? (i := 13) rfl)) rfl), plainFor_of_name pnX12, ⟨nhX12.1, nhX12.2, by decide +kernel⟩, by decide +kernel⟩
theorem yvX12_u1 : Cond.instanceMethod yX12_u1 ∈ lw_good ∧ Cond.selects yX12_u1.cls yX12_u1 yX12_u1 ∈ lw_good := ⟨(lw_in (tk_9 (List.mem_of_getElem? (i := 153) rfl)) rfl), (lw_sel (q := (yX12_u1, 146)) (List.mem_of_getElem? (i := 132) (by decide +kernel)) (by decide +kernel))⟩
abbrev qX12_u2 : sx_Y := (yX12_u2, cX12_u2, 2, (some .int))
theorem y0X12_u2 : sx_Y0 qX12_u2 1 := ⟨(lw_in (tk_9 (List.mem_of_getElem? (i := 150) rfl)) rfl), (lw_in (tk_1 (List.mem_of_getElem? (i := 13) rfl)) rfl), plainFor_of_name pnX12, ⟨nhX12.1, nhX12.2, by decide +kernel⟩, by decide +kernel⟩
theorem yvX12_u2 : Cond.instanceMethod yX12_u2 ∈ lw_good ∧ Cond.selects yX12_u2.cls yX12_u2 yX12_u2 ∈ lw_good := ⟨(lw_in (tk_9 (List.mem_of_getElem? (i := 149) rfl)) rfl), (lw_sel (q := (yX12_u2, 146)) (List.mem_of_getElem? (i := 131) (by decide +kernel)) (by decide +kernel))⟩
abbrev qX12_s2 : sx_Y := (yX12_s2, cX12_s2, 2, (some .int))
theorem y0X12_s2 : sx_Y0 qX12_s2 1 := ⟨(lw_in (tk_9 (List.mem_of_getElem? (i := 146) rfl)) rfl), (lw_in (tk_1 (List.mem_of_getElem? (i := 13) rfl)) rfl), plainFor_of_name pnX12, ⟨nhX12.1, nhX12.2, by decide +kernel⟩, by decide +kernel⟩
theorem yvX12_s2 : Cond.instanceMethod yX12_s2 ∈ lw_good ∧ Cond.selects yX12_s2.cls yX12_s2 yX12_s2 ∈ lw_good := ⟨(lw_in (tk_9 (List.mem_of_getElem? (i := 145) rfl)) rfl), (lw_sel (q := (yX12_s2, 146)) (List.mem_of_getElem? (i := 130) (by decide +kernel)) (by decide +kernel))⟩
abbrev qX12_s1 : sx_Y := (yX12_s1, cX12_s1, 2, (some .int))
theorem y0X12_s1 : sx_Y0 qX12_s1 1 := ⟨(lw_in (tk_10 (List.mem_of_getElem? (i := 234) rfl)) rfl), (lw_in (tk_1 (List.mem_of_getElem? (i := 13) rfl)) rfl), plainFor_of_name pnX12, ⟨nhX12.1, nhX12.2, by decide +kernel⟩, by decide +kernel⟩
theorem yvX12_s1 : Cond.instanceMethod yX12_s1 ∈ lw_good ∧ Cond.selects yX12_s1.cls yX12_s1 yX12_s1 ∈ lw_good := ⟨(lw_in (tk_10 (List.mem_of_getElem? (i := 233) rfl)) rfl), (lw_sel (q := (yX12_s1, 146)) (List.mem_of_getElem? (i := 201) (by decide +kernel)) (by decide +kernel))⟩
abbrev qX12_u4 : sx_Y := (yX12_u4, cX12_u4, 2, (some .long))
theorem y0X12_u4 : sx_Y0 qX12_u4 1 := ⟨(lw_in (tk_10 (List.mem_of_getElem? (i := 204) rfl)) rfl), (lw_in (tk_1 (List.mem_of_getElem? (i := 13) rfl)) rfl), plainFor_of_name pnX12, ⟨nhX12.1, nhX12.2, by decide +kernel⟩, by decide +kernel⟩
theorem yvX12_u4 : Cond.instanceMethod yX12_u4 ∈ lw_good ∧ Cond.selects yX12_u4.cls yX12_u4 yX12_u4 ∈ lw_good := ⟨(lw_in (tk_10 (List.mem_of_getElem? (i := 203) rfl)) rfl), (lw_sel (q := (yX12_u4, 146)) (List.mem_of_getElem? (i := 194) (by decide +kernel)) (by decide +kernel))⟩
abbrev qX12_tableOf : sx_Y := (yX12_tableOf, cX12_tableOf, 3, (some .int))
theorem y0X12_tableOf : sx_Y0 qX12_tableOf 1 := ⟨(lw_in (tk_9 (List.mem_of_getElem? (i := 142) rfl)) rfl), (lw_in (tk_1 (List.mem_of_getElem? (i := 13) rfl)) rfl), plainFor_of_name pnX12, ⟨nhX12.1, nhX12.2, by decide +kernel⟩, by decide +kernel⟩
theorem yvX12_tableOf : Cond.instanceMethod yX12_tableOf ∈ lw_good ∧ Cond.selects yX12_tableOf.cls yX12_tableOf yX12_tableOf ∈ lw_good := ⟨(lw_in (tk_9 (List.mem_of_getElem? (i := 141) rfl)) rfl), (lw_sel (q := (yX12_tableOf, 146)) (List.mem_of_getElem? (i := 129) (by decide +kernel)) (by decide +kernel))⟩
abbrev qX12_beginOf : sx_Y := (yX12_beginOf, cX12_beginOf, 3, (some .int))
theorem y0X12_beginOf : sx_Y0 qX12_beginOf 1 := ⟨(lw_in (tk_9 (List.mem_of_getElem? (i := 138) rfl)) rfl), (lw_in (tk_1 (List.mem_of_getElem? (i := 13) rfl)) rfl), plainFor_of_name pnX12, ⟨nhX12.1, nhX12.2, by decide +kernel⟩, by decide +kernel⟩
theorem yvX12_beginOf : Cond.instanceMethod yX12_beginOf ∈ lw_good ∧ Cond.selects yX12_beginOf.cls yX12_beginOf yX12_beginOf ∈ lw_good := ⟨(lw_in (tk_9 (List.mem_of_getElem? (i := 137) rfl)) rfl), (lw_sel (q := (yX12_beginOf, 146)) (List.mem_of_getElem? (i := 128) (by decide +kernel)) (by decide +kernel))⟩
abbrev qX12_lengthOf : sx_Y := (yX12_lengthOf, cX12_lengthOf, 3, (some .int))
theorem y0X12_lengthOf : sx_Y0 qX12_lengthOf 1 := ⟨(lw_in (tk_9 (List.mem_of_getElem? (i := 174) rfl)) rfl), (lw_in (tk_1 (List.mem_of_getElem? (i := 13) rfl)) rfl), plainFor_of_name pnX12, ⟨nhX12.1, nhX12.2, by decide +kernel⟩, by decide +kernel⟩
theorem yvX12_lengthOf : Cond.instanceMethod yX12_lengthOf ∈ lw_good ∧ Cond.selects yX12_lengthOf.cls yX12_lengthOf yX12_lengthOf ∈ lw_good := ⟨(lw_in (tk_9 (List.mem_of_getElem? (i := 173) rfl)) rfl), (lw_sel (q := (yX12_lengthOf, 146)) (List.mem_of_getElem? (i := 134) (by decide +kernel)) (by decide +kernel))⟩
abbrev qX12_sumOf : sx_Y := (yX12_sumOf, cX12_sumOf, 9, (some .int))
theorem y0X12_sumOf : sx_Y0 qX12_sumOf 3 := ⟨(lw_in (tk_11 (List.mem_of_getElem? (i := 126) rfl)) rfl), (lw_in (tk_1 (List.mem_of_getElem? (i := 13) rfl)) rfl), plainFor_of_name pnX12, ⟨nhX12.1, nhX12.2, by decide +kernel⟩, by decide +kernel⟩
theorem yvX12_sumOf : Cond.instanceMethod yX12_sumOf ∈ lw_good ∧ Cond.selects yX12_sumOf.cls yX12_sumOf yX12_sumOf ∈ lw_good := ⟨(lw_in (tk_11 (List.mem_of_getElem? (i := 125) rfl)) rfl), (lw_sel (q := (yX12_sumOf, 146)) (List.mem_of_getElem? (i := 217) (by decide +kernel)) (by decide +kernel))⟩
abbrev qX12_check : sx_Y := (yX12_check, cX12_check, 7, (some .int))
theorem y0X12_check : sx_Y0 qX12_check 0 := ⟨(lw_in (tk_11 (List.mem_of_getElem? (i := 114) rfl)) rfl), (lw_in (tk_1 (List.mem_of_getElem? (i := 13) rfl)) rfl), plainFor_of_name pnX12, ⟨nhX12.1, nhX12.2, by decide +kernel⟩, by decide +kernel⟩
theorem yvX12_check : Cond.instanceMethod yX12_check ∈ lw_good ∧ Cond.selects yX12_check.cls yX12_check yX12_check ∈ lw_good := ⟨(lw_in (tk_11 (List.mem_of_getElem? (i := 113) rfl)) rfl), (lw_sel (q := (yX12_check, 146)) (List.mem_of_getElem? (i := 215) (by decide +kernel)) (by decide +kernel))⟩
abbrev qX12_checkGlyphs : sx_Y := (yX12_checkGlyphs, cX12_checkGlyphs, 2, (some .int))
theorem y0X12_checkGlyphs : sx_Y0 qX12_checkGlyphs 0 := ⟨(lw_in (tk_11 (List.mem_of_getElem? (i := 145) rfl)) rfl), (lw_in (tk_1 (List.mem_of_getElem? (i := 13) rfl)) rfl), plainFor_of_name pnX12, ⟨nhX12.1, nhX12.2, by decide +kernel⟩, by decide +kernel⟩
theorem yvX12_checkGlyphs : Cond.instanceMethod yX12_checkGlyphs ∈ lw_good ∧ Cond.selects yX12_checkGlyphs.cls yX12_checkGlyphs yX12_checkGlyphs ∈ lw_good := ⟨(lw_in (tk_11 (List.mem_of_getElem? (i := 144) rfl)) rfl), (lw_sel (q := (yX12_checkGlyphs, 146)) (List.mem_of_getElem? (i := 220) (by decide +kernel)) (by decide +kernel))⟩
abbrev qX12_directory : sx_Y := (yX12_directory, cX12_directory, 5, (some .boolean))
theorem y0X12_directory : sx_Y0 qX12_directory 0 := ⟨(lw_in (tk_11 (List.mem_of_getElem? (i := 118) rfl)) rfl), (lw_in (tk_1 (List.mem_of_getElem? (i := 13) rfl)) rfl), plainFor_of_name pnX12, ⟨nhX12.1, nhX12.2, by decide +kernel⟩, by decide +kernel⟩
theorem yvX12_directory : Cond.instanceMethod yX12_directory ∈ lw_good ∧ Cond.selects yX12_directory.cls yX12_directory yX12_directory ∈ lw_good := ⟨(lw_in (tk_11 (List.mem_of_getElem? (i := 117) rfl)) rfl), (lw_sel (q := (yX12_directory, 146)) (List.mem_of_getElem? (i := 216) (by decide +kernel)) (by decide +kernel))⟩
abbrev qX12_head : sx_Y := (yX12_head, cX12_head, 3, (some .boolean))
theorem y0X12_head : sx_Y0 qX12_head 0 := ⟨(lw_in (tk_11 (List.mem_of_getElem? (i := 133) rfl)) rfl), (lw_in (tk_1 (List.mem_of_getElem? (i := 13) rfl)) rfl), plainFor_of_name pnX12, ⟨nhX12.1, nhX12.2, by decide +kernel⟩, by decide +kernel⟩
theorem yvX12_head : Cond.instanceMethod yX12_head ∈ lw_good ∧ Cond.selects yX12_head.cls yX12_head yX12_head ∈ lw_good := ⟨(lw_in (tk_11 (List.mem_of_getElem? (i := 132) rfl)) rfl), (lw_sel (q := (yX12_head, 146)) (List.mem_of_getElem? (i := 218) (by decide +kernel)) (by decide +kernel))⟩
abbrev qX12_maxp : sx_Y := (yX12_maxp, cX12_maxp, 3, (some .boolean))
theorem y0X12_maxp : sx_Y0 qX12_maxp 0 := ⟨(lw_in (tk_11 (List.mem_of_getElem? (i := 139) rfl)) rfl), (lw_in (tk_1 (List.mem_of_getElem? (i := 13) rfl)) rfl), plainFor_of_name pnX12, ⟨nhX12.1, nhX12.2, by decide +kernel⟩, by decide +kernel⟩
theorem yvX12_maxp : Cond.instanceMethod yX12_maxp ∈ lw_good ∧ Cond.selects yX12_maxp.cls yX12_maxp yX12_maxp ∈ lw_good := ⟨(lw_in (tk_11 (List.mem_of_getElem? (i := 138) rfl)) rfl), (lw_sel (q := (yX12_maxp, 146)) (List.mem_of_getElem? (i := 219) (by decide +kernel)) (by decide +kernel))⟩
abbrev qX12_loca : sx_Y := (yX12_loca, cX12_loca, 3, (some .long))
theorem y0X12_loca : sx_Y0 qX12_loca 1 := ⟨(lw_in (tk_10 (List.mem_of_getElem? (i := 199) rfl)) rfl), (lw_in (tk_1 (List.mem_of_getElem? (i := 13) rfl)) rfl), plainFor_of_name pnX12, ⟨nhX12.1, nhX12.2, by decide +kernel⟩, by decide +kernel⟩
theorem yvX12_loca : Cond.instanceMethod yX12_loca ∈ lw_good ∧ Cond.selects yX12_loca.cls yX12_loca yX12_loca ∈ lw_good := ⟨(lw_in (tk_10 (List.mem_of_getElem? (i := 198) rfl)) rfl), (lw_sel (q := (yX12_loca, 146)) (List.mem_of_getElem? (i := 193) (by decide +kernel)) (by decide +kernel))⟩
abbrev qX12_bytesOf : sx_Y := (yX12_bytesOf, cX12_bytesOf, 2, none)
theorem y0X12_bytesOf : sx_Y0 qX12_bytesOf 1 := ⟨(lw_in (tk_10 (List.mem_of_getElem? (i := 194) rfl)) rfl), (lw_in (tk_1 (List.mem_of_getElem? (i := 13) rfl)) rfl), plainFor_of_name pnX12, ⟨nhX12.1, nhX12.2, by decide +kernel⟩, by decide +kernel⟩
theorem yvX12_bytesOf : Cond.instanceMethod yX12_bytesOf ∈ lw_good ∧ Cond.selects yX12_bytesOf.cls yX12_bytesOf yX12_bytesOf ∈ lw_good := ⟨(lw_in (tk_10 (List.mem_of_getElem? (i := 193) rfl)) rfl), (lw_sel (q := (yX12_bytesOf, 146)) (List.mem_of_getElem? (i := 192) (by decide +kernel)) (by decide +kernel))⟩
abbrev qX12_isGlyph : sx_Y := (yX12_isGlyph, cX12_isGlyph, 2, (some .boolean))
theorem y0X12_isGlyph : sx_Y0 qX12_isGlyph 1 := ⟨(lw_in (tk_10 (List.mem_of_getElem? (i := 217) rfl)) rfl), (lw_in (tk_1 (List.mem_of_getElem? (i := 13) rfl)) rfl), plainFor_of_name pnX12, ⟨nhX12.1, nhX12.2, by decide +kernel⟩, by decide +kernel⟩
theorem yvX12_isGlyph : Cond.instanceMethod yX12_isGlyph ∈ lw_good ∧ Cond.selects yX12_isGlyph.cls yX12_isGlyph yX12_isGlyph ∈ lw_good := ⟨(lw_in (tk_10 (List.mem_of_getElem? (i := 216) rfl)) rfl), (lw_sel (q := (yX12_isGlyph, 146)) (List.mem_of_getElem? (i := 197) (by decide +kernel)) (by decide +kernel))⟩
abbrev qX12_simple : sx_Y := (yX12_simple, cX12_simple, 7, (some .boolean))
theorem y0X12_simple : sx_Y0 qX12_simple 0 := ⟨(lw_in (tk_10 (List.mem_of_getElem? (i := 222) rfl)) rfl), (lw_in (tk_1 (List.mem_of_getElem? (i := 13) rfl)) rfl), plainFor_of_name pnX12, ⟨nhX12.1, nhX12.2, by decide +kernel⟩, by decide +kernel⟩
theorem yvX12_simple : Cond.instanceMethod yX12_simple ∈ lw_good ∧ Cond.selects yX12_simple.cls yX12_simple yX12_simple ∈ lw_good := ⟨(lw_in (tk_10 (List.mem_of_getElem? (i := 221) rfl)) rfl), (lw_sel (q := (yX12_simple, 146)) (List.mem_of_getElem? (i := 198) (by decide +kernel)) (by decide +kernel))⟩
abbrev qX12_coordinates : sx_Y := (yX12_coordinates, cX12_coordinates, 10, (some .int))
theorem y0X12_coordinates : sx_Y0 qX12_coordinates 4 := ⟨(lw_in (tk_10 (List.mem_of_getElem? (i := 226) rfl)) rfl), (lw_in (tk_1 (List.mem_of_getElem? (i := 13) rfl)) rfl), plainFor_of_name pnX12, ⟨nhX12.1, nhX12.2, by decide +kernel⟩, by decide +kernel⟩
theorem yvX12_coordinates : Cond.instanceMethod yX12_coordinates ∈ lw_good ∧ Cond.selects yX12_coordinates.cls yX12_coordinates yX12_coordinates ∈ lw_good := ⟨(lw_in (tk_10 (List.mem_of_getElem? (i := 225) rfl)) rfl), (lw_sel (q := (yX12_coordinates, 146)) (List.mem_of_getElem? (i := 199) (by decide +kernel)) (by decide +kernel))⟩
abbrev qX12_composed : sx_Y := (yX12_composed, cX12_composed, 9, (some .boolean))
theorem y0X12_composed : sx_Y0 qX12_composed 0 := ⟨(lw_in (tk_10 (List.mem_of_getElem? (i := 230) rfl)) rfl), (lw_in (tk_1 (List.mem_of_getElem? (i := 13) rfl)) rfl), plainFor_of_name pnX12, ⟨nhX12.1, nhX12.2, by decide +kernel⟩, by decide +kernel⟩
theorem yvX12_composed : Cond.instanceMethod yX12_composed ∈ lw_good ∧ Cond.selects yX12_composed.cls yX12_composed yX12_composed ∈ lw_good := ⟨(lw_in (tk_10 (List.mem_of_getElem? (i := 229) rfl)) rfl), (lw_sel (q := (yX12_composed, 146)) (List.mem_of_getElem? (i := 200) (by decide +kernel)) (by decide +kernel))⟩
abbrev qX12_areWithin : sx_Y := (yX12_areWithin, cX12_areWithin, 5, (some .boolean))
theorem y0X12_areWithin : sx_Y0 qX12_areWithin 0 := ⟨(lw_in (tk_11 (List.mem_of_getElem? (i := 149) rfl)) rfl), (lw_in (tk_1 (List.mem_of_getElem? (i := 13) rfl)) rfl), plainFor_of_name pnX12, ⟨nhX12.1, nhX12.2, by decide +kernel⟩, by decide +kernel⟩
theorem yvX12_areWithin : Cond.instanceMethod yX12_areWithin ∈ lw_good ∧ Cond.selects yX12_areWithin.cls yX12_areWithin yX12_areWithin ∈ lw_good := ⟨(lw_in (tk_11 (List.mem_of_getElem? (i := 148) rfl)) rfl), (lw_sel (q := (yX12_areWithin, 146)) (List.mem_of_getElem? (i := 221) (by decide +kernel)) (by decide +kernel))⟩
abbrev qX12_map : sx_Y := (yX12_map, cX12_map, 12, (some .boolean))
theorem y0X12_map : sx_Y0 qX12_map 0 := ⟨(lw_in (tk_11 (List.mem_of_getElem? (i := 153) rfl)) rfl), (lw_in (tk_1 (List.mem_of_getElem? (i := 13) rfl)) rfl), plainFor_of_name pnX12, ⟨nhX12.1, nhX12.2, by decide +kernel⟩, by decide +kernel⟩
theorem yvX12_map : Cond.instanceMethod yX12_map ∈ lw_good ∧ Cond.selects yX12_map.cls yX12_map yX12_map ∈ lw_good := ⟨(lw_in (tk_11 (List.mem_of_getElem? (i := 152) rfl)) rfl), (lw_sel (q := (yX12_map, 146)) (List.mem_of_getElem? (i := 222) (by decide +kernel)) (by decide +kernel))⟩
abbrev qX12_setMany : sx_Y := (yX12_setMany, cX12_setMany, 2, (some .boolean))
theorem y0X12_setMany : sx_Y0 qX12_setMany 1 := ⟨(lw_in (tk_11 (List.mem_of_getElem? (i := 157) rfl)) rfl), (lw_in (tk_1 (List.mem_of_getElem? (i := 13) rfl)) rfl), plainFor_of_name pnX12, ⟨nhX12.1, nhX12.2, by decide +kernel⟩, by decide +kernel⟩
theorem yvX12_setMany : Cond.instanceMethod yX12_setMany ∈ lw_good ∧ Cond.selects yX12_setMany.cls yX12_setMany yX12_setMany ∈ lw_good := ⟨(lw_in (tk_11 (List.mem_of_getElem? (i := 156) rfl)) rfl), (lw_sel (q := (yX12_setMany, 146)) (List.mem_of_getElem? (i := 223) (by decide +kernel)) (by decide +kernel))⟩
abbrev qX12_segments : sx_Y := (yX12_segments, cX12_segments, 8, (some .boolean))
theorem y0X12_segments : sx_Y0 qX12_segments 1 := ⟨(lw_in (tk_11 (List.mem_of_getElem? (i := 161) rfl)) rfl), (lw_in (tk_1 (List.mem_of_getElem? (i := 13) rfl)) rfl), plainFor_of_name pnX12, ⟨nhX12.1, nhX12.2, by decide +kernel⟩, by decide +kernel⟩
theorem yvX12_segments : Cond.instanceMethod yX12_segments ∈ lw_good ∧ Cond.selects yX12_segments.cls yX12_segments yX12_segments ∈ lw_good := ⟨(lw_in (tk_11 (List.mem_of_getElem? (i := 160) rfl)) rfl), (lw_sel (q := (yX12_segments, 146)) (List.mem_of_getElem? (i := 224) (by decide +kernel)) (by decide +kernel))⟩
abbrev qX12_groups : sx_Y := (yX12_groups, cX12_groups, 8, (some .boolean))
theorem y0X12_groups : sx_Y0 qX12_groups 1 := ⟨(lw_in (tk_11 (List.mem_of_getElem? (i := 166) rfl)) rfl), (lw_in (tk_1 (List.mem_of_getElem? (i := 13) rfl)) rfl), plainFor_of_name pnX12, ⟨nhX12.1, nhX12.2, by decide +kernel⟩, by decide +kernel⟩
theorem yvX12_groups : Cond.instanceMethod yX12_groups ∈ lw_good ∧ Cond.selects yX12_groups.cls yX12_groups yX12_groups ∈ lw_good := ⟨(lw_in (tk_11 (List.mem_of_getElem? (i := 165) rfl)) rfl), (lw_sel (q := (yX12_groups, 146)) (List.mem_of_getElem? (i := 225) (by decide +kernel)) (by decide +kernel))⟩
abbrev qX12_mapped : sx_Y := (yX12_mapped, cX12_mapped, 10, (some .long))
theorem y0X12_mapped : sx_Y0 qX12_mapped 1 := ⟨(lw_in (tk_11 (List.mem_of_getElem? (i := 89) rfl)) rfl), (lw_in (tk_1 (List.mem_of_getElem? (i := 13) rfl)) rfl), plainFor_of_name pnX12, ⟨nhX12.1, nhX12.2, by decide +kernel⟩, by decide +kernel⟩
theorem yvX12_mapped : Cond.instanceMethod yX12_mapped ∈ lw_good ∧ Cond.selects yX12_mapped.cls yX12_mapped yX12_mapped ∈ lw_good := ⟨(lw_in (tk_11 (List.mem_of_getElem? (i := 88) rfl)) rfl), (lw_sel (q := (yX12_mapped, 146)) (List.mem_of_getElem? (i := 213) (by decide +kernel)) (by decide +kernel))⟩
abbrev qX12_kerns : sx_Y := (yX12_kerns, cX12_kerns, 5, (some .boolean))
theorem y0X12_kerns : sx_Y0 qX12_kerns 0 := ⟨(lw_in (tk_11 (List.mem_of_getElem? (i := 170) rfl)) rfl), (lw_in (tk_1 (List.mem_of_getElem? (i := 13) rfl)) rfl), plainFor_of_name pnX12, ⟨nhX12.1, nhX12.2, by decide +kernel⟩, by decide +kernel⟩
theorem yvX12_kerns : Cond.instanceMethod yX12_kerns ∈ lw_good ∧ Cond.selects yX12_kerns.cls yX12_kerns yX12_kerns ∈ lw_good := ⟨(lw_in (tk_11 (List.mem_of_getElem? (i := 169) rfl)) rfl), (lw_sel (q := (yX12_kerns, 146)) (List.mem_of_getElem? (i := 226) (by decide +kernel)) (by decide +kernel))⟩
abbrev qX12_kernOf : sx_Y := (yX12_kernOf, cX12_kernOf, 6, (some .int))
theorem y0X12_kernOf : sx_Y0 qX12_kernOf 2 := ⟨(lw_in (tk_11 (List.mem_of_getElem? (i := 94) rfl)) rfl), (lw_in (tk_1 (List.mem_of_getElem? (i := 13) rfl)) rfl), plainFor_of_name pnX12, ⟨nhX12.1, nhX12.2, by decide +kernel⟩, by decide +kernel⟩
theorem yvX12_kernOf : Cond.instanceMethod yX12_kernOf ∈ lw_good ∧ Cond.selects yX12_kernOf.cls yX12_kernOf yX12_kernOf ∈ lw_good := ⟨(lw_in (tk_11 (List.mem_of_getElem? (i := 93) rfl)) rfl), (lw_sel (q := (yX12_kernOf, 146)) (List.mem_of_getElem? (i := 214) (by decide +kernel)) (by decide +kernel))⟩
abbrev qX12_advanceOf : sx_Y := (yX12_advanceOf, cX12_advanceOf, 3, (some .int))
theorem y0X12_advanceOf : sx_Y0 qX12_advanceOf 1 := ⟨(lw_in (tk_10 (List.mem_of_getElem? (i := 213) rfl)) rfl), (lw_in (tk_1 (List.mem_of_getElem? (i := 13) rfl)) rfl), plainFor_of_name pnX12, ⟨nhX12.1, nhX12.2, by decide +kernel⟩, by decide +kernel⟩
theorem yvX12_advanceOf : Cond.instanceMethod yX12_advanceOf ∈ lw_good ∧ Cond.selects yX12_advanceOf.cls yX12_advanceOf yX12_advanceOf ∈ lw_good := ⟨(lw_in (tk_10 (List.mem_of_getElem? (i := 212) rfl)) rfl), (lw_sel (q := (yX12_advanceOf, 146)) (List.mem_of_getElem? (i := 196) (by decide +kernel)) (by decide +kernel))⟩
abbrev qX12_bearingOf : sx_Y := (yX12_bearingOf, cX12_bearingOf, 3, (some .int))
theorem y0X12_bearingOf : sx_Y0 qX12_bearingOf 1 := ⟨(lw_in (tk_10 (List.mem_of_getElem? (i := 208) rfl)) rfl), (lw_in (tk_1 (List.mem_of_getElem? (i := 13) rfl)) rfl), plainFor_of_name pnX12, ⟨nhX12.1, nhX12.2, by decide +kernel⟩, by decide +kernel⟩
theorem yvX12_bearingOf : Cond.instanceMethod yX12_bearingOf ∈ lw_good ∧ Cond.selects yX12_bearingOf.cls yX12_bearingOf yX12_bearingOf ∈ lw_good := ⟨(lw_in (tk_10 (List.mem_of_getElem? (i := 207) rfl)) rfl), (lw_sel (q := (yX12_bearingOf, 146)) (List.mem_of_getElem? (i := 195) (by decide +kernel)) (by decide +kernel))⟩
abbrev qX12_leftOf : sx_Y := (yX12_leftOf, cX12_leftOf, 2, (some .int))
theorem y0X12_leftOf : sx_Y0 qX12_leftOf 1 := ⟨(lw_in (tk_10 (List.mem_of_getElem? (i := 190) rfl)) rfl), (lw_in (tk_1 (List.mem_of_getElem? (i := 13) rfl)) rfl), plainFor_of_name pnX12, ⟨nhX12.1, nhX12.2, by decide +kernel⟩, by decide +kernel⟩
theorem yvX12_leftOf : Cond.instanceMethod yX12_leftOf ∈ lw_good ∧ Cond.selects yX12_leftOf.cls yX12_leftOf yX12_leftOf ∈ lw_good := ⟨(lw_in (tk_10 (List.mem_of_getElem? (i := 189) rfl)) rfl), (lw_sel (q := (yX12_leftOf, 146)) (List.mem_of_getElem? (i := 191) (by decide +kernel)) (by decide +kernel))⟩
abbrev qX12_fail : sx_Y := (yX12_fail, cX12_fail, 2, none)
theorem y0X12_fail : sx_Y0 qX12_fail 1 := ⟨(lw_in (tk_9 (List.mem_of_getElem? (i := 190) rfl)) rfl), (lw_in (tk_1 (List.mem_of_getElem? (i := 13) rfl)) rfl), plainFor_of_name pnX12, ⟨nhX12.1, nhX12.2, by decide +kernel⟩, by decide +kernel⟩
theorem yvX12_fail : Cond.instanceMethod yX12_fail ∈ lw_good ∧ Cond.selects yX12_fail.cls yX12_fail yX12_fail ∈ lw_good := ⟨(lw_in (tk_9 (List.mem_of_getElem? (i := 189) rfl)) rfl), (lw_sel (q := (yX12_fail, 146)) (List.mem_of_getElem? (i := 138) (by decide +kernel)) (by decide +kernel))⟩
abbrev qX12_has : sx_Y := (yX12_has, cX12_has, 2, (some .boolean))
theorem y0X12_has : sx_Y0 qX12_has 1 := ⟨(lw_in (tk_9 (List.mem_of_getElem? (i := 206) rfl)) rfl), (lw_in (tk_1 (List.mem_of_getElem? (i := 13) rfl)) rfl), plainFor_of_name pnX12, ⟨nhX12.1, nhX12.2, by decide +kernel⟩, by decide +kernel⟩
theorem yvX12_has : Cond.instanceMethod yX12_has ∈ lw_good ∧ Cond.selects yX12_has.cls yX12_has yX12_has ∈ lw_good := ⟨(lw_in (tk_9 (List.mem_of_getElem? (i := 205) rfl)) rfl), (lw_sel (q := (yX12_has, 146)) (List.mem_of_getElem? (i := 142) (by decide +kernel)) (by decide +kernel))⟩
abbrev qX12_pop : sx_Y := (yX12_pop, cX12_pop, 1, (some .int))
theorem y0X12_pop : sx_Y0 qX12_pop 0 := ⟨(lw_in (tk_9 (List.mem_of_getElem? (i := 210) rfl)) rfl), (lw_in (tk_1 (List.mem_of_getElem? (i := 13) rfl)) rfl), plainFor_of_name pnX12, ⟨nhX12.1, nhX12.2, by decide +kernel⟩, by decide +kernel⟩
theorem yvX12_pop : Cond.instanceMethod yX12_pop ∈ lw_good ∧ Cond.selects yX12_pop.cls yX12_pop yX12_pop ∈ lw_good := ⟨(lw_in (tk_9 (List.mem_of_getElem? (i := 209) rfl)) rfl), (lw_sel (q := (yX12_pop, 146)) (List.mem_of_getElem? (i := 143) (by decide +kernel)) (by decide +kernel))⟩
abbrev qX12_push : sx_Y := (yX12_push, cX12_push, 3, none)
theorem y0X12_push : sx_Y0 qX12_push 1 := ⟨(lw_in (tk_10 (List.mem_of_getElem? (i := 32) rfl)) rfl), (lw_in (tk_1 (List.mem_of_getElem? (i := 13) rfl)) rfl), plainFor_of_name pnX12, ⟨nhX12.1, nhX12.2, by decide +kernel⟩, by decide +kernel⟩
theorem yvX12_push : Cond.instanceMethod yX12_push ∈ lw_good ∧ Cond.selects yX12_push.cls yX12_push yX12_push ∈ lw_good := ⟨(lw_in (tk_10 (List.mem_of_getElem? (i := 31) rfl)) rfl), (lw_sel (q := (yX12_push, 146)) (List.mem_of_getElem? (i := 157) (by decide +kernel)) (by decide +kernel))⟩
abbrev qX12_codeByte : sx_Y := (yX12_codeByte, cX12_codeByte, 2, (some .int))
theorem y0X12_codeByte : sx_Y0 qX12_codeByte 1 := ⟨(lw_in (tk_9 (List.mem_of_getElem? (i := 194) rfl)) rfl), (lw_in (tk_1 (List.mem_of_getElem? (i := 13) rfl)) rfl), plainFor_of_name pnX12, ⟨nhX12.1, nhX12.2, by decide +kernel⟩, by decide +kernel⟩
theorem yvX12_codeByte : Cond.instanceMethod yX12_codeByte ∈ lw_good ∧ Cond.selects yX12_codeByte.cls yX12_codeByte yX12_codeByte ∈ lw_good := ⟨(lw_in (tk_9 (List.mem_of_getElem? (i := 193) rfl)) rfl), (lw_sel (q := (yX12_codeByte, 146)) (List.mem_of_getElem? (i := 139) (by decide +kernel)) (by decide +kernel))⟩
abbrev qX12_codeLength : sx_Y := (yX12_codeLength, cX12_codeLength, 4, (some .int))
theorem y0X12_codeLength : sx_Y0 qX12_codeLength 1 := ⟨(lw_in (tk_10 (List.mem_of_getElem? (i := 66) rfl)) rfl), (lw_in (tk_1 (List.mem_of_getElem? (i := 13) rfl)) rfl), plainFor_of_name pnX12, ⟨nhX12.1, nhX12.2, by decide +kernel⟩, by decide +kernel⟩
theorem yvX12_codeLength : Cond.instanceMethod yX12_codeLength ∈ lw_good ∧ Cond.selects yX12_codeLength.cls yX12_codeLength yX12_codeLength ∈ lw_good := ⟨(lw_in (tk_10 (List.mem_of_getElem? (i := 65) rfl)) rfl), (lw_sel (q := (yX12_codeLength, 146)) (List.mem_of_getElem? (i := 164) (by decide +kernel)) (by decide +kernel))⟩
abbrev qX12_settings : sx_Y := (yX12_settings, cX12_settings, 1, none)
theorem y0X12_settings : sx_Y0 qX12_settings 0 := ⟨(lw_in (tk_9 (List.mem_of_getElem? (i := 182) rfl)) rfl), (lw_in (tk_1 (List.mem_of_getElem? (i := 13) rfl)) rfl), plainFor_of_name pnX12, ⟨nhX12.1, nhX12.2, by decide +kernel⟩, by decide +kernel⟩
theorem yvX12_settings : Cond.instanceMethod yX12_settings ∈ lw_good ∧ Cond.selects yX12_settings.cls yX12_settings yX12_settings ∈ lw_good := ⟨(lw_in (tk_9 (List.mem_of_getElem? (i := 181) rfl)) rfl), (lw_sel (q := (yX12_settings, 146)) (List.mem_of_getElem? (i := 136) (by decide +kernel)) (by decide +kernel))⟩
abbrev qX12_setRounding : sx_Y := (yX12_setRounding, cX12_setRounding, 5, none)
theorem y0X12_setRounding : sx_Y0 qX12_setRounding 4 := ⟨(lw_in (tk_9 (List.mem_of_getElem? (i := 186) rfl)) rfl), (lw_in (tk_1 (List.mem_of_getElem? (i := 13) rfl)) rfl), plainFor_of_name pnX12, ⟨nhX12.1, nhX12.2, by decide +kernel⟩, by decide +kernel⟩
theorem yvX12_setRounding : Cond.instanceMethod yX12_setRounding ∈ lw_good ∧ Cond.selects yX12_setRounding.cls yX12_setRounding yX12_setRounding ∈ lw_good := ⟨(lw_in (tk_9 (List.mem_of_getElem? (i := 185) rfl)) rfl), (lw_sel (q := (yX12_setRounding, 146)) (List.mem_of_getElem? (i := 137) (by decide +kernel)) (by decide +kernel))⟩
abbrev qX12_rounded : sx_Y := (yX12_rounded, cX12_rounded, 7, (some .long))
theorem y0X12_rounded : sx_Y0 qX12_rounded 1 := ⟨(lw_in (tk_9 (List.mem_of_getElem? (i := 230) rfl)) rfl), (lw_in (tk_1 (List.mem_of_getElem? (i := 13) rfl)) rfl), plainFor_of_name pnX12, ⟨nhX12.1, nhX12.2, by decide +kernel⟩, by decide +kernel⟩
theorem yvX12_rounded : Cond.instanceMethod yX12_rounded ∈ lw_good ∧ Cond.selects yX12_rounded.cls yX12_rounded yX12_rounded ∈ lw_good := ⟨(lw_in (tk_9 (List.mem_of_getElem? (i := 229) rfl)) rfl), (lw_sel (q := (yX12_rounded, 146)) (List.mem_of_getElem? (i := 147) (by decide +kernel)) (by decide +kernel))⟩
abbrev qX12_runProgram : sx_Y := (yX12_runProgram, cX12_runProgram, 3, none)
theorem y0X12_runProgram : sx_Y0 qX12_runProgram 1 := ⟨(lw_in (tk_9 (List.mem_of_getElem? (i := 178) rfl)) rfl), (lw_in (tk_1 (List.mem_of_getElem? (i := 13) rfl)) rfl), plainFor_of_name pnX12, ⟨nhX12.1, nhX12.2, by decide +kernel⟩, by decide +kernel⟩
theorem yvX12_runProgram : Cond.instanceMethod yX12_runProgram ∈ lw_good ∧ Cond.selects yX12_runProgram.cls yX12_runProgram yX12_runProgram ∈ lw_good := ⟨(lw_in (tk_9 (List.mem_of_getElem? (i := 177) rfl)) rfl), (lw_sel (q := (yX12_runProgram, 146)) (List.mem_of_getElem? (i := 135) (by decide +kernel)) (by decide +kernel))⟩
abbrev qX12_pass : sx_Y := (yX12_pass, cX12_pass, 9, (some .int))
theorem y0X12_pass : sx_Y0 qX12_pass 4 := ⟨(lw_in (tk_10 (List.mem_of_getElem? (i := 62) rfl)) rfl), (lw_in (tk_1 (List.mem_of_getElem? (i := 13) rfl)) rfl), plainFor_of_name pnX12, ⟨nhX12.1, nhX12.2, by decide +kernel⟩, by decide +kernel⟩
theorem yvX12_pass : Cond.instanceMethod yX12_pass ∈ lw_good ∧ Cond.selects yX12_pass.cls yX12_pass yX12_pass ∈ lw_good := ⟨(lw_in (tk_10 (List.mem_of_getElem? (i := 61) rfl)) rfl), (lw_sel (q := (yX12_pass, 146)) (List.mem_of_getElem? (i := 163) (by decide +kernel)) (by decide +kernel))⟩
abbrev qX12_call : sx_Y := (yX12_call, cX12_call, 4, none)
theorem y0X12_call : sx_Y0 qX12_call 3 := ⟨(lw_in (tk_10 (List.mem_of_getElem? (i := 82) rfl)) rfl), (lw_in (tk_1 (List.mem_of_getElem? (i := 13) rfl)) rfl), plainFor_of_name pnX12, ⟨nhX12.1, nhX12.2, by decide +kernel⟩, by decide +kernel⟩
theorem yvX12_call : Cond.instanceMethod yX12_call ∈ lw_good ∧ Cond.selects yX12_call.cls yX12_call yX12_call ∈ lw_good := ⟨(lw_in (tk_10 (List.mem_of_getElem? (i := 81) rfl)) rfl), (lw_sel (q := (yX12_call, 146)) (List.mem_of_getElem? (i := 168) (by decide +kernel)) (by decide +kernel))⟩
abbrev qX12_endFunction : sx_Y := (yX12_endFunction, cX12_endFunction, 2, none)
theorem y0X12_endFunction : sx_Y0 qX12_endFunction 0 := ⟨(lw_in (tk_10 (List.mem_of_getElem? (i := 90) rfl)) rfl), (lw_in (tk_1 (List.mem_of_getElem? (i := 13) rfl)) rfl), plainFor_of_name pnX12, ⟨nhX12.1, nhX12.2, by decide +kernel⟩, by decide +kernel⟩
theorem yvX12_endFunction : Cond.instanceMethod yX12_endFunction ∈ lw_good ∧ Cond.selects yX12_endFunction.cls yX12_endFunction yX12_endFunction ∈ lw_good := ⟨(lw_in (tk_10 (List.mem_of_getElem? (i := 89) rfl)) rfl), (lw_sel (q := (yX12_endFunction, 146)) (List.mem_of_getElem? (i := 170) (by decide +kernel)) (by decide +kernel))⟩
abbrev qX12_jump : sx_Y := (yX12_jump, cX12_jump, 5, none)
theorem y0X12_jump : sx_Y0 qX12_jump 1 := ⟨(lw_in (tk_10 (List.mem_of_getElem? (i := 70) rfl)) rfl), (lw_in (tk_1 (List.mem_of_getElem? (i := 13) rfl)) rfl), plainFor_of_name pnX12, ⟨nhX12.1, nhX12.2, by decide +kernel⟩, by decide +kernel⟩
theorem yvX12_jump : Cond.instanceMethod yX12_jump ∈ lw_good ∧ Cond.selects yX12_jump.cls yX12_jump yX12_jump ∈ lw_good := ⟨(lw_in (tk_10 (List.mem_of_getElem? (i := 69) rfl)) rfl), (lw_sel (q := (yX12_jump, 146)) (List.mem_of_getElem? (i := 165) (by decide +kernel)) (by decide +kernel))⟩
abbrev qX12_pointOf : sx_Y := (yX12_pointOf, cX12_pointOf, 4, (some .int))
theorem y0X12_pointOf : sx_Y0 qX12_pointOf 2 := ⟨(lw_in (tk_9 (List.mem_of_getElem? (i := 214) rfl)) rfl), (lw_in (tk_1 (List.mem_of_getElem? (i := 13) rfl)) rfl), plainFor_of_name pnX12, ⟨nhX12.1, nhX12.2, by decide +kernel⟩, by decide +kernel⟩
theorem yvX12_pointOf : Cond.instanceMethod yX12_pointOf ∈ lw_good ∧ Cond.selects yX12_pointOf.cls yX12_pointOf yX12_pointOf ∈ lw_good := ⟨(lw_in (tk_9 (List.mem_of_getElem? (i := 213) rfl)) rfl), (lw_sel (q := (yX12_pointOf, 146)) (List.mem_of_getElem? (i := 144) (by decide +kernel)) (by decide +kernel))⟩
abbrev qX12_by : sx_Y := (yX12_by, cX12_by, 4, (some .int))
theorem y0X12_by : sx_Y0 qX12_by 4 := ⟨(lw_in (tk_9 (List.mem_of_getElem? (i := 221) rfl)) rfl), (lw_in (tk_1 (List.mem_of_getElem? (i := 13) rfl)) rfl), plainFor_of_name pnX12, ⟨nhX12.1, nhX12.2, by decide +kernel⟩, by decide +kernel⟩
theorem ysX12_by : Cond.static yX12_by ∈ lw_good := (lw_in (tk_9 (List.mem_of_getElem? (i := 220) rfl)) rfl)
abbrev qX12_longOf : sx_Y := (yX12_longOf, cX12_longOf, 2, (some .int))
theorem y0X12_longOf : sx_Y0 qX12_longOf 1 := ⟨(lw_in (tk_10 (List.mem_of_getElem? (i := 94) rfl)) rfl), (lw_in (tk_1 (List.mem_of_getElem? (i := 13) rfl)) rfl), plainFor_of_name pnX12, ⟨nhX12.1, nhX12.2, by decide +kernel⟩, by decide +kernel⟩
theorem yvX12_longOf : Cond.instanceMethod yX12_longOf ∈ lw_good ∧ Cond.selects yX12_longOf.cls yX12_longOf yX12_longOf ∈ lw_good := ⟨(lw_in (tk_10 (List.mem_of_getElem? (i := 93) rfl)) rfl), (lw_sel (q := (yX12_longOf, 146)) (List.mem_of_getElem? (i := 171) (by decide +kernel)) (by decide +kernel))⟩
abbrev qX12_between : sx_Y := (yX12_between, cX12_between, 3, (some .int))
theorem y0X12_between : sx_Y0 qX12_between 2 := ⟨(lw_in (tk_10 (List.mem_of_getElem? (i := 3) rfl)) rfl), (lw_in (tk_1 (List.mem_of_getElem? (i := 13) rfl)) rfl), plainFor_of_name pnX12, ⟨nhX12.1, nhX12.2, by decide +kernel⟩, by decide +kernel⟩
theorem yvX12_between : Cond.instanceMethod yX12_between ∈ lw_good ∧ Cond.selects yX12_between.cls yX12_between yX12_between ∈ lw_good := ⟨(lw_in (tk_10 (List.mem_of_getElem? (i := 2) rfl)) rfl), (lw_sel (q := (yX12_between, 146)) (List.mem_of_getElem? (i := 150) (by decide +kernel)) (by decide +kernel))⟩
abbrev qX12_originally : sx_Y := (yX12_originally, cX12_originally, 3, (some .int))
theorem y0X12_originally : sx_Y0 qX12_originally 2 := ⟨(lw_in (tk_9 (List.mem_of_getElem? (i := 218) rfl)) rfl), (lw_in (tk_1 (List.mem_of_getElem? (i := 13) rfl)) rfl), plainFor_of_name pnX12, ⟨nhX12.1, nhX12.2, by decide +kernel⟩, by decide +kernel⟩
theorem yvX12_originally : Cond.instanceMethod yX12_originally ∈ lw_good ∧ Cond.selects yX12_originally.cls yX12_originally yX12_originally ∈ lw_good := ⟨(lw_in (tk_9 (List.mem_of_getElem? (i := 217) rfl)) rfl), (lw_sel (q := (yX12_originally, 146)) (List.mem_of_getElem? (i := 145) (by decide +kernel)) (by decide +kernel))⟩
abbrev qX12_touch : sx_Y := (yX12_touch, cX12_touch, 2, none)
theorem y0X12_touch : sx_Y0 qX12_touch 1 := ⟨(lw_in (tk_10 (List.mem_of_getElem? (i := 16) rfl)) rfl), (lw_in (tk_1 (List.mem_of_getElem? (i := 13) rfl)) rfl), plainFor_of_name pnX12, ⟨nhX12.1, nhX12.2, by decide +kernel⟩, by decide +kernel⟩
theorem yvX12_touch : Cond.instanceMethod yX12_touch ∈ lw_good ∧ Cond.selects yX12_touch.cls yX12_touch yX12_touch ∈ lw_good := ⟨(lw_in (tk_10 (List.mem_of_getElem? (i := 15) rfl)) rfl), (lw_sel (q := (yX12_touch, 146)) (List.mem_of_getElem? (i := 153) (by decide +kernel)) (by decide +kernel))⟩
abbrev qX12_shiftBy : sx_Y := (yX12_shiftBy, cX12_shiftBy, 7, none)
theorem y0X12_shiftBy : sx_Y0 qX12_shiftBy 3 := ⟨(lw_in (tk_10 (List.mem_of_getElem? (i := 11) rfl)) rfl), (lw_in (tk_1 (List.mem_of_getElem? (i := 13) rfl)) rfl), plainFor_of_name pnX12, ⟨nhX12.1, nhX12.2, by decide +kernel⟩, by decide +kernel⟩
theorem yvX12_shiftBy : Cond.instanceMethod yX12_shiftBy ∈ lw_good ∧ Cond.selects yX12_shiftBy.cls yX12_shiftBy yX12_shiftBy ∈ lw_good := ⟨(lw_in (tk_10 (List.mem_of_getElem? (i := 10) rfl)) rfl), (lw_sel (q := (yX12_shiftBy, 146)) (List.mem_of_getElem? (i := 152) (by decide +kernel)) (by decide +kernel))⟩
abbrev qX12_move : sx_Y := (yX12_move, cX12_move, 4, none)
theorem y0X12_move : sx_Y0 qX12_move 2 := ⟨(lw_in (tk_10 (List.mem_of_getElem? (i := 7) rfl)) rfl), (lw_in (tk_1 (List.mem_of_getElem? (i := 13) rfl)) rfl), plainFor_of_name pnX12, ⟨nhX12.1, nhX12.2, by decide +kernel⟩, by decide +kernel⟩
theorem yvX12_move : Cond.instanceMethod yX12_move ∈ lw_good ∧ Cond.selects yX12_move.cls yX12_move yX12_move ∈ lw_good := ⟨(lw_in (tk_10 (List.mem_of_getElem? (i := 6) rfl)) rfl), (lw_sel (q := (yX12_move, 146)) (List.mem_of_getElem? (i := 151) (by decide +kernel)) (by decide +kernel))⟩
abbrev qX12_direction : sx_Y := (yX12_direction, cX12_direction, 7, none)
theorem y0X12_direction : sx_Y0 qX12_direction 2 := ⟨(lw_in (tk_10 (List.mem_of_getElem? (i := 44) rfl)) rfl), (lw_in (tk_1 (List.mem_of_getElem? (i := 13) rfl)) rfl), plainFor_of_name pnX12, ⟨nhX12.1, nhX12.2, by decide +kernel⟩, by decide +kernel⟩
theorem yvX12_direction : Cond.instanceMethod yX12_direction ∈ lw_good ∧ Cond.selects yX12_direction.cls yX12_direction yX12_direction ∈ lw_good := ⟨(lw_in (tk_10 (List.mem_of_getElem? (i := 43) rfl)) rfl), (lw_sel (q := (yX12_direction, 146)) (List.mem_of_getElem? (i := 160) (by decide +kernel)) (by decide +kernel))⟩
abbrev qX12_part : sx_Y := (yX12_part, cX12_part, 10, (some .int))
theorem y0X12_part : sx_Y0 qX12_part 2 := ⟨(lw_in (tk_10 (List.mem_of_getElem? (i := 48) rfl)) rfl), (lw_in (tk_1 (List.mem_of_getElem? (i := 13) rfl)) rfl), plainFor_of_name pnX12, ⟨nhX12.1, nhX12.2, by decide +kernel⟩, by decide +kernel⟩
theorem ysX12_part : Cond.static yX12_part ∈ lw_good := (lw_in (tk_10 (List.mem_of_getElem? (i := 47) rfl)) rfl)
abbrev qX12_put : sx_Y := (yX12_put, cX12_put, 6, none)
theorem y0X12_put : sx_Y0 qX12_put 3 := ⟨(lw_in (tk_9 (List.mem_of_getElem? (i := 133) rfl)) rfl), (lw_in (tk_1 (List.mem_of_getElem? (i := 13) rfl)) rfl), plainFor_of_name pnX12, ⟨nhX12.1, nhX12.2, by decide +kernel⟩, by decide +kernel⟩
theorem yvX12_put : Cond.instanceMethod yX12_put ∈ lw_good ∧ Cond.selects yX12_put.cls yX12_put yX12_put ∈ lw_good := ⟨(lw_in (tk_9 (List.mem_of_getElem? (i := 132) rfl)) rfl), (lw_sel (q := (yX12_put, 146)) (List.mem_of_getElem? (i := 127) (by decide +kernel)) (by decide +kernel))⟩
abbrev qX12_cvtOf : sx_Y := (yX12_cvtOf, cX12_cvtOf, 2, (some .int))
theorem y0X12_cvtOf : sx_Y0 qX12_cvtOf 1 := ⟨(lw_in (tk_10 (List.mem_of_getElem? (i := 24) rfl)) rfl), (lw_in (tk_1 (List.mem_of_getElem? (i := 13) rfl)) rfl), plainFor_of_name pnX12, ⟨nhX12.1, nhX12.2, by decide +kernel⟩, by decide +kernel⟩
theorem yvX12_cvtOf : Cond.instanceMethod yX12_cvtOf ∈ lw_good ∧ Cond.selects yX12_cvtOf.cls yX12_cvtOf yX12_cvtOf ∈ lw_good := ⟨(lw_in (tk_10 (List.mem_of_getElem? (i := 23) rfl)) rfl), (lw_sel (q := (yX12_cvtOf, 146)) (List.mem_of_getElem? (i := 155) (by decide +kernel)) (by decide +kernel))⟩
abbrev qX12_perform : sx_Y := (yX12_perform, cX12_perform, 2, none)
theorem y0X12_perform : sx_Y0 qX12_perform 1 := ⟨(lw_in (tk_9 (List.mem_of_getElem? (i := 198) rfl)) rfl), (lw_in (tk_1 (List.mem_of_getElem? (i := 13) rfl)) rfl), plainFor_of_name pnX12, ⟨nhX12.1, nhX12.2, by decide +kernel⟩, by decide +kernel⟩
theorem yvX12_perform : Cond.instanceMethod yX12_perform ∈ lw_good ∧ Cond.selects yX12_perform.cls yX12_perform yX12_perform ∈ lw_good := ⟨(lw_in (tk_9 (List.mem_of_getElem? (i := 197) rfl)) rfl), (lw_sel (q := (yX12_perform, 146)) (List.mem_of_getElem? (i := 140) (by decide +kernel)) (by decide +kernel))⟩
abbrev qX12_pushBytes : sx_Y := (yX12_pushBytes, cX12_pushBytes, 7, none)
theorem y0X12_pushBytes : sx_Y0 qX12_pushBytes 3 := ⟨(lw_in (tk_10 (List.mem_of_getElem? (i := 28) rfl)) rfl), (lw_in (tk_1 (List.mem_of_getElem? (i := 13) rfl)) rfl), plainFor_of_name pnX12, ⟨nhX12.1, nhX12.2, by decide +kernel⟩, by decide +kernel⟩
theorem yvX12_pushBytes : Cond.instanceMethod yX12_pushBytes ∈ lw_good ∧ Cond.selects yX12_pushBytes.cls yX12_pushBytes yX12_pushBytes ∈ lw_good := ⟨(lw_in (tk_10 (List.mem_of_getElem? (i := 27) rfl)) rfl), (lw_sel (q := (yX12_pushBytes, 146)) (List.mem_of_getElem? (i := 156) (by decide +kernel)) (by decide +kernel))⟩
abbrev qX12_setVectors : sx_Y := (yX12_setVectors, cX12_setVectors, 5, none)
theorem y0X12_setVectors : sx_Y0 qX12_setVectors 4 := ⟨(lw_in (tk_10 (List.mem_of_getElem? (i := 40) rfl)) rfl), (lw_in (tk_1 (List.mem_of_getElem? (i := 13) rfl)) rfl), plainFor_of_name pnX12, ⟨nhX12.1, nhX12.2, by decide +kernel⟩, by decide +kernel⟩
theorem yvX12_setVectors : Cond.instanceMethod yX12_setVectors ∈ lw_good ∧ Cond.selects yX12_setVectors.cls yX12_setVectors yX12_setVectors ∈ lw_good := ⟨(lw_in (tk_10 (List.mem_of_getElem? (i := 39) rfl)) rfl), (lw_sel (q := (yX12_setVectors, 146)) (List.mem_of_getElem? (i := 159) (by decide +kernel)) (by decide +kernel))⟩
abbrev qX12_unknown : sx_Y := (yX12_unknown, cX12_unknown, 2, none)
theorem y0X12_unknown : sx_Y0 qX12_unknown 1 := ⟨(lw_in (tk_10 (List.mem_of_getElem? (i := 98) rfl)) rfl), (lw_in (tk_1 (List.mem_of_getElem? (i := 13) rfl)) rfl), plainFor_of_name pnX12, ⟨nhX12.1, nhX12.2, by decide +kernel⟩, by decide +kernel⟩
theorem yvX12_unknown : Cond.instanceMethod yX12_unknown ∈ lw_good ∧ Cond.selects yX12_unknown.cls yX12_unknown yX12_unknown ∈ lw_good := ⟨(lw_in (tk_10 (List.mem_of_getElem? (i := 97) rfl)) rfl), (lw_sel (q := (yX12_unknown, 146)) (List.mem_of_getElem? (i := 172) (by decide +kernel)) (by decide +kernel))⟩
abbrev qX12_low : sx_Y := (yX12_low, cX12_low, 5, none)
theorem y0X12_low : sx_Y0 qX12_low 1 := ⟨(lw_in (tk_10 (List.mem_of_getElem? (i := 36) rfl)) rfl), (lw_in (tk_1 (List.mem_of_getElem? (i := 13) rfl)) rfl), plainFor_of_name pnX12, ⟨nhX12.1, nhX12.2, by decide +kernel⟩, by decide +kernel⟩
theorem yvX12_low : Cond.instanceMethod yX12_low ∈ lw_good ∧ Cond.selects yX12_low.cls yX12_low yX12_low ∈ lw_good := ⟨(lw_in (tk_10 (List.mem_of_getElem? (i := 35) rfl)) rfl), (lw_sel (q := (yX12_low, 146)) (List.mem_of_getElem? (i := 158) (by decide +kernel)) (by decide +kernel))⟩
abbrev qX12_scaled : sx_Y := (yX12_scaled, cX12_scaled, 3, (some .int))
theorem y0X12_scaled : sx_Y0 qX12_scaled 1 := ⟨(lw_in (tk_9 (List.mem_of_getElem? (i := 158) rfl)) rfl), (lw_in (tk_1 (List.mem_of_getElem? (i := 13) rfl)) rfl), plainFor_of_name pnX12, ⟨nhX12.1, nhX12.2, by decide +kernel⟩, by decide +kernel⟩
theorem yvX12_scaled : Cond.instanceMethod yX12_scaled ∈ lw_good ∧ Cond.selects yX12_scaled.cls yX12_scaled yX12_scaled ∈ lw_good := ⟨(lw_in (tk_9 (List.mem_of_getElem? (i := 157) rfl)) rfl), (lw_sel (q := (yX12_scaled, 146)) (List.mem_of_getElem? (i := 133) (by decide +kernel)) (by decide +kernel))⟩
abbrev qX12_isZone : sx_Y := (yX12_isZone, cX12_isZone, 2, (some .boolean))
theorem y0X12_isZone : sx_Y0 qX12_isZone 1 := ⟨(lw_in (tk_10 (List.mem_of_getElem? (i := 57) rfl)) rfl), (lw_in (tk_1 (List.mem_of_getElem? (i := 13) rfl)) rfl), plainFor_of_name pnX12, ⟨nhX12.1, nhX12.2, by decide +kernel⟩, by decide +kernel⟩
theorem yvX12_isZone : Cond.instanceMethod yX12_isZone ∈ lw_good ∧ Cond.selects yX12_isZone.cls yX12_isZone yX12_isZone ∈ lw_good := ⟨(lw_in (tk_10 (List.mem_of_getElem? (i := 56) rfl)) rfl), (lw_sel (q := (yX12_isZone, 146)) (List.mem_of_getElem? (i := 162) (by decide +kernel)) (by decide +kernel))⟩
abbrev qX12_setZone : sx_Y := (yX12_setZone, cX12_setZone, 3, none)
theorem y0X12_setZone : sx_Y0 qX12_setZone 1 := ⟨(lw_in (tk_10 (List.mem_of_getElem? (i := 53) rfl)) rfl), (lw_in (tk_1 (List.mem_of_getElem? (i := 13) rfl)) rfl), plainFor_of_name pnX12, ⟨nhX12.1, nhX12.2, by decide +kernel⟩, by decide +kernel⟩
theorem yvX12_setZone : Cond.instanceMethod yX12_setZone ∈ lw_good ∧ Cond.selects yX12_setZone.cls yX12_setZone yX12_setZone ∈ lw_good := ⟨(lw_in (tk_10 (List.mem_of_getElem? (i := 52) rfl)) rfl), (lw_sel (q := (yX12_setZone, 146)) (List.mem_of_getElem? (i := 161) (by decide +kernel)) (by decide +kernel))⟩
abbrev qX12_stacks : sx_Y := (yX12_stacks, cX12_stacks, 5, none)
theorem y0X12_stacks : sx_Y0 qX12_stacks 1 := ⟨(lw_in (tk_10 (List.mem_of_getElem? (i := 74) rfl)) rfl), (lw_in (tk_1 (List.mem_of_getElem? (i := 13) rfl)) rfl), plainFor_of_name pnX12, ⟨nhX12.1, nhX12.2, by decide +kernel⟩, by decide +kernel⟩
theorem yvX12_stacks : Cond.instanceMethod yX12_stacks ∈ lw_good ∧ Cond.selects yX12_stacks.cls yX12_stacks yX12_stacks ∈ lw_good := ⟨(lw_in (tk_10 (List.mem_of_getElem? (i := 73) rfl)) rfl), (lw_sel (q := (yX12_stacks, 146)) (List.mem_of_getElem? (i := 166) (by decide +kernel)) (by decide +kernel))⟩
abbrev qX12_callFunction : sx_Y := (yX12_callFunction, cX12_callFunction, 4, none)
theorem y0X12_callFunction : sx_Y0 qX12_callFunction 1 := ⟨(lw_in (tk_10 (List.mem_of_getElem? (i := 78) rfl)) rfl), (lw_in (tk_1 (List.mem_of_getElem? (i := 13) rfl)) rfl), plainFor_of_name pnX12, ⟨nhX12.1, nhX12.2, by decide +kernel⟩, by decide +kernel⟩
theorem yvX12_callFunction : Cond.instanceMethod yX12_callFunction ∈ lw_good ∧ Cond.selects yX12_callFunction.cls yX12_callFunction yX12_callFunction ∈ lw_good := ⟨(lw_in (tk_10 (List.mem_of_getElem? (i := 77) rfl)) rfl), (lw_sel (q := (yX12_callFunction, 146)) (List.mem_of_getElem? (i := 167) (by decide +kernel)) (by decide +kernel))⟩
abbrev qX12_defineFunction : sx_Y := (yX12_defineFunction, cX12_defineFunction, 4, none)
theorem y0X12_defineFunction : sx_Y0 qX12_defineFunction 0 := ⟨(lw_in (tk_10 (List.mem_of_getElem? (i := 86) rfl)) rfl), (lw_in (tk_1 (List.mem_of_getElem? (i := 13) rfl)) rfl), plainFor_of_name pnX12, ⟨nhX12.1, nhX12.2, by decide +kernel⟩, by decide +kernel⟩
theorem yvX12_defineFunction : Cond.instanceMethod yX12_defineFunction ∈ lw_good ∧ Cond.selects yX12_defineFunction.cls yX12_defineFunction yX12_defineFunction ∈ lw_good := ⟨(lw_in (tk_10 (List.mem_of_getElem? (i := 85) rfl)) rfl), (lw_sel (q := (yX12_defineFunction, 146)) (List.mem_of_getElem? (i := 169) (by decide +kernel)) (by decide +kernel))⟩
abbrev qX12_defineOwn : sx_Y := (yX12_defineOwn, cX12_defineOwn, 4, none)
theorem y0X12_defineOwn : sx_Y0 qX12_defineOwn 0 := ⟨(lw_in (tk_10 (List.mem_of_getElem? (i := 165) rfl)) rfl), (lw_in (tk_1 (List.mem_of_getElem? (i := 13) rfl)) rfl), plainFor_of_name pnX12, ⟨nhX12.1, nhX12.2, by decide +kernel⟩, by decide +kernel⟩
theorem yvX12_defineOwn : Cond.instanceMethod yX12_defineOwn ∈ lw_good ∧ Cond.selects yX12_defineOwn.cls yX12_defineOwn yX12_defineOwn ∈ lw_good := ⟨(lw_in (tk_10 (List.mem_of_getElem? (i := 164) rfl)) rfl), (lw_sel (q := (yX12_defineOwn, 146)) (List.mem_of_getElem? (i := 186) (by decide +kernel)) (by decide +kernel))⟩
abbrev qX12_middle : sx_Y := (yX12_middle, cX12_middle, 4, none)
theorem y0X12_middle : sx_Y0 qX12_middle 1 := ⟨(lw_in (tk_10 (List.mem_of_getElem? (i := 102) rfl)) rfl), (lw_in (tk_1 (List.mem_of_getElem? (i := 13) rfl)) rfl), plainFor_of_name pnX12, ⟨nhX12.1, nhX12.2, by decide +kernel⟩, by decide +kernel⟩
theorem yvX12_middle : Cond.instanceMethod yX12_middle ∈ lw_good ∧ Cond.selects yX12_middle.cls yX12_middle yX12_middle ∈ lw_good := ⟨(lw_in (tk_10 (List.mem_of_getElem? (i := 101) rfl)) rfl), (lw_sel (q := (yX12_middle, 146)) (List.mem_of_getElem? (i := 173) (by decide +kernel)) (by decide +kernel))⟩
abbrev qX12_setCvt : sx_Y := (yX12_setCvt, cX12_setCvt, 5, none)
theorem y0X12_setCvt : sx_Y0 qX12_setCvt 1 := ⟨(lw_in (tk_10 (List.mem_of_getElem? (i := 133) rfl)) rfl), (lw_in (tk_1 (List.mem_of_getElem? (i := 13) rfl)) rfl), plainFor_of_name pnX12, ⟨nhX12.1, nhX12.2, by decide +kernel⟩, by decide +kernel⟩
theorem yvX12_setCvt : Cond.instanceMethod yX12_setCvt ∈ lw_good ∧ Cond.selects yX12_setCvt.cls yX12_setCvt yX12_setCvt ∈ lw_good := ⟨(lw_in (tk_10 (List.mem_of_getElem? (i := 132) rfl)) rfl), (lw_sel (q := (yX12_setCvt, 146)) (List.mem_of_getElem? (i := 180) (by decide +kernel)) (by decide +kernel))⟩
abbrev qX12_one : sx_Y := (yX12_one, cX12_one, 1, (some .int))
theorem y0X12_one : sx_Y0 qX12_one 1 := ⟨(lw_in (tk_10 (List.mem_of_getElem? (i := 140) rfl)) rfl), (lw_in (tk_1 (List.mem_of_getElem? (i := 13) rfl)) rfl), plainFor_of_name pnX12, ⟨nhX12.1, nhX12.2, by decide +kernel⟩, by decide +kernel⟩
theorem ysX12_one : Cond.static yX12_one ∈ lw_good := (lw_in (tk_10 (List.mem_of_getElem? (i := 139) rfl)) rfl)
abbrev qX12_tests : sx_Y := (yX12_tests, cX12_tests, 4, none)
theorem y0X12_tests : sx_Y0 qX12_tests 1 := ⟨(lw_in (tk_10 (List.mem_of_getElem? (i := 137) rfl)) rfl), (lw_in (tk_1 (List.mem_of_getElem? (i := 13) rfl)) rfl), plainFor_of_name pnX12, ⟨nhX12.1, nhX12.2, by decide +kernel⟩, by decide +kernel⟩
theorem yvX12_tests : Cond.instanceMethod yX12_tests ∈ lw_good ∧ Cond.selects yX12_tests.cls yX12_tests yX12_tests ∈ lw_good := ⟨(lw_in (tk_10 (List.mem_of_getElem? (i := 136) rfl)) rfl), (lw_sel (q := (yX12_tests, 146)) (List.mem_of_getElem? (i := 181) (by decide +kernel)) (by decide +kernel))⟩
abbrev qX12_followAll : sx_Y := (yX12_followAll, cX12_followAll, 11, none)
theorem y0X12_followAll : sx_Y0 qX12_followAll 3 := ⟨(lw_in (tk_10 (List.mem_of_getElem? (i := 106) rfl)) rfl), (lw_in (tk_1 (List.mem_of_getElem? (i := 13) rfl)) rfl), plainFor_of_name pnX12, ⟨nhX12.1, nhX12.2, by decide +kernel⟩, by decide +kernel⟩
theorem yvX12_followAll : Cond.instanceMethod yX12_followAll ∈ lw_good ∧ Cond.selects yX12_followAll.cls yX12_followAll yX12_followAll ∈ lw_good := ⟨(lw_in (tk_10 (List.mem_of_getElem? (i := 105) rfl)) rfl), (lw_sel (q := (yX12_followAll, 146)) (List.mem_of_getElem? (i := 174) (by decide +kernel)) (by decide +kernel))⟩
abbrev qX12_follow : sx_Y := (yX12_follow, cX12_follow, 7, none)
theorem y0X12_follow : sx_Y0 qX12_follow 5 := ⟨(lw_in (tk_10 (List.mem_of_getElem? (i := 109) rfl)) rfl), (lw_in (tk_1 (List.mem_of_getElem? (i := 13) rfl)) rfl), plainFor_of_name pnX12, ⟨nhX12.1, nhX12.2, by decide +kernel⟩, by decide +kernel⟩
theorem ysX12_follow : Cond.static yX12_follow ∈ lw_good := (lw_in (tk_10 (List.mem_of_getElem? (i := 108) rfl)) rfl)
abbrev qX12_likeReference : sx_Y := (yX12_likeReference, cX12_likeReference, 10, none)
theorem y0X12_likeReference : sx_Y0 qX12_likeReference 1 := ⟨(lw_in (tk_10 (List.mem_of_getElem? (i := 113) rfl)) rfl), (lw_in (tk_1 (List.mem_of_getElem? (i := 13) rfl)) rfl), plainFor_of_name pnX12, ⟨nhX12.1, nhX12.2, by decide +kernel⟩, by decide +kernel⟩
theorem yvX12_likeReference : Cond.instanceMethod yX12_likeReference ∈ lw_good ∧ Cond.selects yX12_likeReference.cls yX12_likeReference yX12_likeReference ∈ lw_good := ⟨(lw_in (tk_10 (List.mem_of_getElem? (i := 112) rfl)) rfl), (lw_sel (q := (yX12_likeReference, 146)) (List.mem_of_getElem? (i := 175) (by decide +kernel)) (by decide +kernel))⟩
abbrev qX12_loops : sx_Y := (yX12_loops, cX12_loops, 6, none)
theorem y0X12_loops : sx_Y0 qX12_loops 1 := ⟨(lw_in (tk_10 (List.mem_of_getElem? (i := 117) rfl)) rfl), (lw_in (tk_1 (List.mem_of_getElem? (i := 13) rfl)) rfl), plainFor_of_name pnX12, ⟨nhX12.1, nhX12.2, by decide +kernel⟩, by decide +kernel⟩
theorem yvX12_loops : Cond.instanceMethod yX12_loops ∈ lw_good ∧ Cond.selects yX12_loops.cls yX12_loops yX12_loops ∈ lw_good := ⟨(lw_in (tk_10 (List.mem_of_getElem? (i := 116) rfl)) rfl), (lw_sel (q := (yX12_loops, 146)) (List.mem_of_getElem? (i := 176) (by decide +kernel)) (by decide +kernel))⟩
abbrev qX12_inBetween : sx_Y := (yX12_inBetween, cX12_inBetween, 9, none)
theorem y0X12_inBetween : sx_Y0 qX12_inBetween 1 := ⟨(lw_in (tk_10 (List.mem_of_getElem? (i := 121) rfl)) rfl), (lw_in (tk_1 (List.mem_of_getElem? (i := 13) rfl)) rfl), plainFor_of_name pnX12, ⟨nhX12.1, nhX12.2, by decide +kernel⟩, by decide +kernel⟩
theorem yvX12_inBetween : Cond.instanceMethod yX12_inBetween ∈ lw_good ∧ Cond.selects yX12_inBetween.cls yX12_inBetween yX12_inBetween ∈ lw_good := ⟨(lw_in (tk_10 (List.mem_of_getElem? (i := 120) rfl)) rfl), (lw_sel (q := (yX12_inBetween, 146)) (List.mem_of_getElem? (i := 177) (by decide +kernel)) (by decide +kernel))⟩
abbrev qX12_toDistance : sx_Y := (yX12_toDistance, cX12_toDistance, 6, none)
theorem y0X12_toDistance : sx_Y0 qX12_toDistance 1 := ⟨(lw_in (tk_10 (List.mem_of_getElem? (i := 125) rfl)) rfl), (lw_in (tk_1 (List.mem_of_getElem? (i := 13) rfl)) rfl), plainFor_of_name pnX12, ⟨nhX12.1, nhX12.2, by decide +kernel⟩, by decide +kernel⟩
theorem yvX12_toDistance : Cond.instanceMethod yX12_toDistance ∈ lw_good ∧ Cond.selects yX12_toDistance.cls yX12_toDistance yX12_toDistance ∈ lw_good := ⟨(lw_in (tk_10 (List.mem_of_getElem? (i := 124) rfl)) rfl), (lw_sel (q := (yX12_toDistance, 146)) (List.mem_of_getElem? (i := 178) (by decide +kernel)) (by decide +kernel))⟩
abbrev qX12_toCvt : sx_Y := (yX12_toCvt, cX12_toCvt, 8, none)
theorem y0X12_toCvt : sx_Y0 qX12_toCvt 1 := ⟨(lw_in (tk_10 (List.mem_of_getElem? (i := 129) rfl)) rfl), (lw_in (tk_1 (List.mem_of_getElem? (i := 13) rfl)) rfl), plainFor_of_name pnX12, ⟨nhX12.1, nhX12.2, by decide +kernel⟩, by decide +kernel⟩
theorem yvX12_toCvt : Cond.instanceMethod yX12_toCvt ∈ lw_good ∧ Cond.selects yX12_toCvt.cls yX12_toCvt yX12_toCvt ∈ lw_good := ⟨(lw_in (tk_10 (List.mem_of_getElem? (i := 128) rfl)) rfl), (lw_sel (q := (yX12_toCvt, 146)) (List.mem_of_getElem? (i := 179) (by decide +kernel)) (by decide +kernel))⟩
abbrev qX12_singled : sx_Y := (yX12_singled, cX12_singled, 5, (some .long))
theorem y0X12_singled : sx_Y0 qX12_singled 1 := ⟨(lw_in (tk_9 (List.mem_of_getElem? (i := 226) rfl)) rfl), (lw_in (tk_1 (List.mem_of_getElem? (i := 13) rfl)) rfl), plainFor_of_name pnX12, ⟨nhX12.1, nhX12.2, by decide +kernel⟩, by decide +kernel⟩
theorem yvX12_singled : Cond.instanceMethod yX12_singled ∈ lw_good ∧ Cond.selects yX12_singled.cls yX12_singled yX12_singled ∈ lw_good := ⟨(lw_in (tk_9 (List.mem_of_getElem? (i := 225) rfl)) rfl), (lw_sel (q := (yX12_singled, 146)) (List.mem_of_getElem? (i := 146) (by decide +kernel)) (by decide +kernel))⟩
abbrev qX12_atLeast : sx_Y := (yX12_atLeast, cX12_atLeast, 6, (some .long))
theorem y0X12_atLeast : sx_Y0 qX12_atLeast 3 := ⟨(lw_in (tk_9 (List.mem_of_getElem? (i := 235) rfl)) rfl), (lw_in (tk_1 (List.mem_of_getElem? (i := 13) rfl)) rfl), plainFor_of_name pnX12, ⟨nhX12.1, nhX12.2, by decide +kernel⟩, by decide +kernel⟩
theorem yvX12_atLeast : Cond.instanceMethod yX12_atLeast ∈ lw_good ∧ Cond.selects yX12_atLeast.cls yX12_atLeast yX12_atLeast ∈ lw_good := ⟨(lw_in (tk_9 (List.mem_of_getElem? (i := 234) rfl)) rfl), (lw_sel (q := (yX12_atLeast, 146)) (List.mem_of_getElem? (i := 148) (by decide +kernel)) (by decide +kernel))⟩
abbrev qX12_settle : sx_Y := (yX12_settle, cX12_settle, 7, none)
theorem y0X12_settle : sx_Y0 qX12_settle 5 := ⟨(lw_in (tk_9 (List.mem_of_getElem? (i := 239) rfl)) rfl), (lw_in (tk_1 (List.mem_of_getElem? (i := 13) rfl)) rfl), plainFor_of_name pnX12, ⟨nhX12.1, nhX12.2, by decide +kernel⟩, by decide +kernel⟩
theorem yvX12_settle : Cond.instanceMethod yX12_settle ∈ lw_good ∧ Cond.selects yX12_settle.cls yX12_settle yX12_settle ∈ lw_good := ⟨(lw_in (tk_9 (List.mem_of_getElem? (i := 238) rfl)) rfl), (lw_sel (q := (yX12_settle, 146)) (List.mem_of_getElem? (i := 149) (by decide +kernel)) (by decide +kernel))⟩
abbrev qX12_relative : sx_Y := (yX12_relative, cX12_relative, 9, none)
theorem y0X12_relative : sx_Y0 qX12_relative 1 := ⟨(lw_in (tk_9 (List.mem_of_getElem? (i := 202) rfl)) rfl), (lw_in (tk_1 (List.mem_of_getElem? (i := 13) rfl)) rfl), plainFor_of_name pnX12, ⟨nhX12.1, nhX12.2, by decide +kernel⟩, by decide +kernel⟩
theorem yvX12_relative : Cond.instanceMethod yX12_relative ∈ lw_good ∧ Cond.selects yX12_relative.cls yX12_relative yX12_relative ∈ lw_good := ⟨(lw_in (tk_9 (List.mem_of_getElem? (i := 201) rfl)) rfl), (lw_sel (q := (yX12_relative, 146)) (List.mem_of_getElem? (i := 141) (by decide +kernel)) (by decide +kernel))⟩
abbrev qX12_indirect : sx_Y := (yX12_indirect, cX12_indirect, 10, none)
theorem y0X12_indirect : sx_Y0 qX12_indirect 1 := ⟨(lw_in (tk_10 (List.mem_of_getElem? (i := 20) rfl)) rfl), (lw_in (tk_1 (List.mem_of_getElem? (i := 13) rfl)) rfl), plainFor_of_name pnX12, ⟨nhX12.1, nhX12.2, by decide +kernel⟩, by decide +kernel⟩
theorem yvX12_indirect : Cond.instanceMethod yX12_indirect ∈ lw_good ∧ Cond.selects yX12_indirect.cls yX12_indirect yX12_indirect ∈ lw_good := ⟨(lw_in (tk_10 (List.mem_of_getElem? (i := 19) rfl)) rfl), (lw_sel (q := (yX12_indirect, 146)) (List.mem_of_getElem? (i := 154) (by decide +kernel)) (by decide +kernel))⟩
abbrev qX12_deltas : sx_Y := (yX12_deltas, cX12_deltas, 10, none)
theorem y0X12_deltas : sx_Y0 qX12_deltas 2 := ⟨(lw_in (tk_10 (List.mem_of_getElem? (i := 145) rfl)) rfl), (lw_in (tk_1 (List.mem_of_getElem? (i := 13) rfl)) rfl), plainFor_of_name pnX12, ⟨nhX12.1, nhX12.2, by decide +kernel⟩, by decide +kernel⟩
theorem yvX12_deltas : Cond.instanceMethod yX12_deltas ∈ lw_good ∧ Cond.selects yX12_deltas.cls yX12_deltas yX12_deltas ∈ lw_good := ⟨(lw_in (tk_10 (List.mem_of_getElem? (i := 144) rfl)) rfl), (lw_sel (q := (yX12_deltas, 146)) (List.mem_of_getElem? (i := 182) (by decide +kernel)) (by decide +kernel))⟩
abbrev qX12_high : sx_Y := (yX12_high, cX12_high, 6, none)
theorem y0X12_high : sx_Y0 qX12_high 1 := ⟨(lw_in (tk_10 (List.mem_of_getElem? (i := 150) rfl)) rfl), (lw_in (tk_1 (List.mem_of_getElem? (i := 13) rfl)) rfl), plainFor_of_name pnX12, ⟨nhX12.1, nhX12.2, by decide +kernel⟩, by decide +kernel⟩
theorem yvX12_high : Cond.instanceMethod yX12_high ∈ lw_good ∧ Cond.selects yX12_high.cls yX12_high yX12_high ∈ lw_good := ⟨(lw_in (tk_10 (List.mem_of_getElem? (i := 149) rfl)) rfl), (lw_sel (q := (yX12_high, 146)) (List.mem_of_getElem? (i := 183) (by decide +kernel)) (by decide +kernel))⟩
abbrev qX12_ownRounding : sx_Y := (yX12_ownRounding, cX12_ownRounding, 6, none)
theorem y0X12_ownRounding : sx_Y0 qX12_ownRounding 1 := ⟨(lw_in (tk_10 (List.mem_of_getElem? (i := 156) rfl)) rfl), (lw_in (tk_1 (List.mem_of_getElem? (i := 13) rfl)) rfl), plainFor_of_name pnX12, ⟨nhX12.1, nhX12.2, by decide +kernel⟩, by decide +kernel⟩
theorem yvX12_ownRounding : Cond.instanceMethod yX12_ownRounding ∈ lw_good ∧ Cond.selects yX12_ownRounding.cls yX12_ownRounding yX12_ownRounding ∈ lw_good := ⟨(lw_in (tk_10 (List.mem_of_getElem? (i := 155) rfl)) rfl), (lw_sel (q := (yX12_ownRounding, 146)) (List.mem_of_getElem? (i := 184) (by decide +kernel)) (by decide +kernel))⟩
abbrev qX12_more : sx_Y := (yX12_more, cX12_more, 6, none)
theorem y0X12_more : sx_Y0 qX12_more 1 := ⟨(lw_in (tk_10 (List.mem_of_getElem? (i := 160) rfl)) rfl), (lw_in (tk_1 (List.mem_of_getElem? (i := 13) rfl)) rfl), plainFor_of_name pnX12, ⟨nhX12.1, nhX12.2, by decide +kernel⟩, by decide +kernel⟩
theorem yvX12_more : Cond.instanceMethod yX12_more ∈ lw_good ∧ Cond.selects yX12_more.cls yX12_more yX12_more ∈ lw_good := ⟨(lw_in (tk_10 (List.mem_of_getElem? (i := 159) rfl)) rfl), (lw_sel (q := (yX12_more, 146)) (List.mem_of_getElem? (i := 185) (by decide +kernel)) (by decide +kernel))⟩
abbrev qX12_keep : sx_Y := (yX12_keep, cX12_keep, 2, none)
theorem y0X12_keep : sx_Y0 qX12_keep 0 := ⟨(lw_in (tk_10 (List.mem_of_getElem? (i := 174) rfl)) rfl), (lw_in (tk_1 (List.mem_of_getElem? (i := 13) rfl)) rfl), plainFor_of_name pnX12, ⟨nhX12.1, nhX12.2, by decide +kernel⟩, by decide +kernel⟩
theorem yvX12_keep : Cond.instanceMethod yX12_keep ∈ lw_good ∧ Cond.selects yX12_keep.cls yX12_keep yX12_keep ∈ lw_good := ⟨(lw_in (tk_10 (List.mem_of_getElem? (i := 173) rfl)) rfl), (lw_sel (q := (yX12_keep, 146)) (List.mem_of_getElem? (i := 188) (by decide +kernel)) (by decide +kernel))⟩
abbrev qX12_bring : sx_Y := (yX12_bring, cX12_bring, 2, none)
theorem y0X12_bring : sx_Y0 qX12_bring 0 := ⟨(lw_in (tk_11 (List.mem_of_getElem? (i := 16) rfl)) rfl), (lw_in (tk_1 (List.mem_of_getElem? (i := 13) rfl)) rfl), plainFor_of_name pnX12, ⟨nhX12.1, nhX12.2, by decide +kernel⟩, by decide +kernel⟩
theorem yvX12_bring : Cond.instanceMethod yX12_bring ∈ lw_good ∧ Cond.selects yX12_bring.cls yX12_bring yX12_bring ∈ lw_good := ⟨(lw_in (tk_11 (List.mem_of_getElem? (i := 15) rfl)) rfl), (lw_sel (q := (yX12_bring, 146)) (List.mem_of_getElem? (i := 205) (by decide +kernel)) (by decide +kernel))⟩
abbrev qX12_failedNow : sx_Y := (yX12_failedNow, cX12_failedNow, 1, (some .int))
theorem y0X12_failedNow : sx_Y0 qX12_failedNow 0 := ⟨(lw_in (tk_10 (List.mem_of_getElem? (i := 170) rfl)) rfl), (lw_in (tk_1 (List.mem_of_getElem? (i := 13) rfl)) rfl), plainFor_of_name pnX12, ⟨nhX12.1, nhX12.2, by decide +kernel⟩, by decide +kernel⟩
theorem yvX12_failedNow : Cond.instanceMethod yX12_failedNow ∈ lw_good ∧ Cond.selects yX12_failedNow.cls yX12_failedNow yX12_failedNow ∈ lw_good := ⟨(lw_in (tk_10 (List.mem_of_getElem? (i := 169) rfl)) rfl), (lw_sel (q := (yX12_failedNow, 146)) (List.mem_of_getElem? (i := 187) (by decide +kernel)) (by decide +kernel))⟩
abbrev qX12_size : sx_Y := (yX12_size, cX12_size, 4, (some .int))
theorem y0X12_size : sx_Y0 qX12_size 1 := ⟨(lw_in (tk_9 (List.mem_of_getElem? (i := 124) rfl)) rfl), (lw_in (tk_1 (List.mem_of_getElem? (i := 13) rfl)) rfl), plainFor_of_name pnX12, ⟨nhX12.1, nhX12.2, by decide +kernel⟩, by decide +kernel⟩
theorem yvX12_size : Cond.instanceMethod yX12_size ∈ lw_good ∧ Cond.selects yX12_size.cls yX12_size yX12_size ∈ lw_good := ⟨(lw_in (tk_9 (List.mem_of_getElem? (i := 122) rfl)) rfl), (lw_in (tk_9 (List.mem_of_getElem? (i := 123) rfl)) rfl)⟩
abbrev qX12_failOutside : sx_Y := (yX12_failOutside, cX12_failOutside, 2, none)
theorem y0X12_failOutside : sx_Y0 qX12_failOutside 1 := ⟨(lw_in (tk_11 (List.mem_of_getElem? (i := 2) rfl)) rfl), (lw_in (tk_1 (List.mem_of_getElem? (i := 13) rfl)) rfl), plainFor_of_name pnX12, ⟨nhX12.1, nhX12.2, by decide +kernel⟩, by decide +kernel⟩
theorem yvX12_failOutside : Cond.instanceMethod yX12_failOutside ∈ lw_good ∧ Cond.selects yX12_failOutside.cls yX12_failOutside yX12_failOutside ∈ lw_good := ⟨(lw_in (tk_11 (List.mem_of_getElem? (i := 1) rfl)) rfl), (lw_sel (q := (yX12_failOutside, 146)) (List.mem_of_getElem? (i := 203) (by decide +kernel)) (by decide +kernel))⟩
abbrev qX12_makeGlyph : sx_Y := (yX12_makeGlyph, cX12_makeGlyph, 9, none)
theorem y0X12_makeGlyph : sx_Y0 qX12_makeGlyph 2 := ⟨(lw_in (tk_10 (List.mem_of_getElem? (i := 186) rfl)) rfl), (lw_in (tk_1 (List.mem_of_getElem? (i := 13) rfl)) rfl), plainFor_of_name pnX12, ⟨nhX12.1, nhX12.2, by decide +kernel⟩, by decide +kernel⟩
theorem yvX12_makeGlyph : Cond.instanceMethod yX12_makeGlyph ∈ lw_good ∧ Cond.selects yX12_makeGlyph.cls yX12_makeGlyph yX12_makeGlyph ∈ lw_good := ⟨(lw_in (tk_10 (List.mem_of_getElem? (i := 185) rfl)) rfl), (lw_sel (q := (yX12_makeGlyph, 146)) (List.mem_of_getElem? (i := 190) (by decide +kernel)) (by decide +kernel))⟩
abbrev qX12_makePart : sx_Y := (yX12_makePart, cX12_makePart, 23, none)
theorem y0X12_makePart : sx_Y0 qX12_makePart 3 := ⟨(lw_in (tk_10 (List.mem_of_getElem? (i := 238) rfl)) rfl), (lw_in (tk_1 (List.mem_of_getElem? (i := 13) rfl)) rfl), plainFor_of_name pnX12, ⟨nhX12.1, nhX12.2, by decide +kernel⟩, by decide +kernel⟩
theorem yvX12_makePart : Cond.instanceMethod yX12_makePart ∈ lw_good ∧ Cond.selects yX12_makePart.cls yX12_makePart yX12_makePart ∈ lw_good := ⟨(lw_in (tk_10 (List.mem_of_getElem? (i := 237) rfl)) rfl), (lw_sel (q := (yX12_makePart, 146)) (List.mem_of_getElem? (i := 202) (by decide +kernel)) (by decide +kernel))⟩
abbrev qX12_hint : sx_Y := (yX12_hint, cX12_hint, 5, none)
theorem y0X12_hint : sx_Y0 qX12_hint 1 := ⟨(lw_in (tk_11 (List.mem_of_getElem? (i := 12) rfl)) rfl), (lw_in (tk_1 (List.mem_of_getElem? (i := 13) rfl)) rfl), plainFor_of_name pnX12, ⟨nhX12.1, nhX12.2, by decide +kernel⟩, by decide +kernel⟩
theorem yvX12_hint : Cond.instanceMethod yX12_hint ∈ lw_good ∧ Cond.selects yX12_hint.cls yX12_hint yX12_hint ∈ lw_good := ⟨(lw_in (tk_11 (List.mem_of_getElem? (i := 11) rfl)) rfl), (lw_sel (q := (yX12_hint, 146)) (List.mem_of_getElem? (i := 204) (by decide +kernel)) (by decide +kernel))⟩
abbrev qX12_makeIt : sx_Y := (yX12_makeIt, cX12_makeIt, 4, (some .int))
theorem y0X12_makeIt : sx_Y0 qX12_makeIt 1 := ⟨(lw_in (tk_10 (List.mem_of_getElem? (i := 182) rfl)) rfl), (lw_in (tk_1 (List.mem_of_getElem? (i := 13) rfl)) rfl), plainFor_of_name pnX12, ⟨nhX12.1, nhX12.2, by decide +kernel⟩, by decide +kernel⟩
theorem yvX12_makeIt : Cond.instanceMethod yX12_makeIt ∈ lw_good ∧ Cond.selects yX12_makeIt.cls yX12_makeIt yX12_makeIt ∈ lw_good := ⟨(lw_in (tk_10 (List.mem_of_getElem? (i := 181) rfl)) rfl), (lw_sel (q := (yX12_makeIt, 146)) (List.mem_of_getElem? (i := 189) (by decide +kernel)) (by decide +kernel))⟩
abbrev qX12_make : sx_Y := (yX12_make, cX12_make, 2, (some .int))
theorem y0X12_make : sx_Y0 qX12_make 1 := ⟨(lw_in (tk_10 (List.mem_of_getElem? (i := 178) rfl)) rfl), (lw_in (tk_1 (List.mem_of_getElem? (i := 13) rfl)) rfl), plainFor_of_name pnX12, ⟨nhX12.1, nhX12.2, by decide +kernel⟩, by decide +kernel⟩
theorem yvX12_make : Cond.instanceMethod yX12_make ∈ lw_good ∧ Cond.selects yX12_make.cls yX12_make yX12_make ∈ lw_good := ⟨(lw_in (tk_10 (List.mem_of_getElem? (i := 176) rfl)) rfl), (lw_in (tk_10 (List.mem_of_getElem? (i := 177) rfl)) rfl)⟩
abbrev qX12_node : sx_Y := (yX12_node, cX12_node, 4, none)
theorem y0X12_node : sx_Y0 qX12_node 3 := ⟨(lw_in (tk_11 (List.mem_of_getElem? (i := 36) rfl)) rfl), (lw_in (tk_1 (List.mem_of_getElem? (i := 13) rfl)) rfl), plainFor_of_name pnX12, ⟨nhX12.1, nhX12.2, by decide +kernel⟩, by decide +kernel⟩
theorem yvX12_node : Cond.instanceMethod yX12_node ∈ lw_good ∧ Cond.selects yX12_node.cls yX12_node yX12_node ∈ lw_good := ⟨(lw_in (tk_11 (List.mem_of_getElem? (i := 35) rfl)) rfl), (lw_sel (q := (yX12_node, 146)) (List.mem_of_getElem? (i := 208) (by decide +kernel)) (by decide +kernel))⟩
abbrev qX12_cross : sx_Y := (yX12_cross, cX12_cross, 8, (some .long))
theorem y0X12_cross : sx_Y0 qX12_cross 4 := ⟨(lw_in (tk_11 (List.mem_of_getElem? (i := 43) rfl)) rfl), (lw_in (tk_1 (List.mem_of_getElem? (i := 13) rfl)) rfl), plainFor_of_name pnX12, ⟨nhX12.1, nhX12.2, by decide +kernel⟩, by decide +kernel⟩
theorem ysX12_cross : Cond.static yX12_cross ∈ lw_good := (lw_in (tk_11 (List.mem_of_getElem? (i := 42) rfl)) rfl)
abbrev qX12_between0 : sx_Y := (yX12_between0, cX12_between0, 4, (some .boolean))
theorem y0X12_between0 : sx_Y0 qX12_between0 2 := ⟨(lw_in (tk_11 (List.mem_of_getElem? (i := 46) rfl)) rfl), (lw_in (tk_1 (List.mem_of_getElem? (i := 13) rfl)) rfl), plainFor_of_name pnX12, ⟨nhX12.1, nhX12.2, by decide +kernel⟩, by decide +kernel⟩
theorem ysX12_between0 : Cond.static yX12_between0 ∈ lw_good := (lw_in (tk_11 (List.mem_of_getElem? (i := 45) rfl)) rfl)
abbrev qX12_straight : sx_Y := (yX12_straight, cX12_straight, 11, none)
theorem y0X12_straight : sx_Y0 qX12_straight 4 := ⟨(lw_in (tk_11 (List.mem_of_getElem? (i := 40) rfl)) rfl), (lw_in (tk_1 (List.mem_of_getElem? (i := 13) rfl)) rfl), plainFor_of_name pnX12, ⟨nhX12.1, nhX12.2, by decide +kernel⟩, by decide +kernel⟩
theorem yvX12_straight : Cond.instanceMethod yX12_straight ∈ lw_good ∧ Cond.selects yX12_straight.cls yX12_straight yX12_straight ∈ lw_good := ⟨(lw_in (tk_11 (List.mem_of_getElem? (i := 39) rfl)) rfl), (lw_sel (q := (yX12_straight, 146)) (List.mem_of_getElem? (i := 209) (by decide +kernel)) (by decide +kernel))⟩
abbrev qX12_meetsZero : sx_Y := (yX12_meetsZero, cX12_meetsZero, 6, (some .boolean))
theorem y0X12_meetsZero : sx_Y0 qX12_meetsZero 3 := ⟨(lw_in (tk_11 (List.mem_of_getElem? (i := 53) rfl)) rfl), (lw_in (tk_1 (List.mem_of_getElem? (i := 13) rfl)) rfl), plainFor_of_name pnX12, ⟨nhX12.1, nhX12.2, by decide +kernel⟩, by decide +kernel⟩
theorem ysX12_meetsZero : Cond.static yX12_meetsZero ∈ lw_good := (lw_in (tk_11 (List.mem_of_getElem? (i := 52) rfl)) rfl)
abbrev qX12_curve : sx_Y := (yX12_curve, cX12_curve, 23, none)
theorem y0X12_curve : sx_Y0 qX12_curve 6 := ⟨(lw_in (tk_11 (List.mem_of_getElem? (i := 50) rfl)) rfl), (lw_in (tk_1 (List.mem_of_getElem? (i := 13) rfl)) rfl), plainFor_of_name pnX12, ⟨nhX12.1, nhX12.2, by decide +kernel⟩, by decide +kernel⟩
theorem yvX12_curve : Cond.instanceMethod yX12_curve ∈ lw_good ∧ Cond.selects yX12_curve.cls yX12_curve yX12_curve ∈ lw_good := ⟨(lw_in (tk_11 (List.mem_of_getElem? (i := 49) rfl)) rfl), (lw_sel (q := (yX12_curve, 146)) (List.mem_of_getElem? (i := 210) (by decide +kernel)) (by decide +kernel))⟩
abbrev qX12_contour : sx_Y := (yX12_contour, cX12_contour, 12, none)
theorem y0X12_contour : sx_Y0 qX12_contour 4 := ⟨(lw_in (tk_11 (List.mem_of_getElem? (i := 32) rfl)) rfl), (lw_in (tk_1 (List.mem_of_getElem? (i := 13) rfl)) rfl), plainFor_of_name pnX12, ⟨nhX12.1, nhX12.2, by decide +kernel⟩, by decide +kernel⟩
theorem yvX12_contour : Cond.instanceMethod yX12_contour ∈ lw_good ∧ Cond.selects yX12_contour.cls yX12_contour yX12_contour ∈ lw_good := ⟨(lw_in (tk_11 (List.mem_of_getElem? (i := 31) rfl)) rfl), (lw_sel (q := (yX12_contour, 146)) (List.mem_of_getElem? (i := 207) (by decide +kernel)) (by decide +kernel))⟩
abbrev qX12_isInside : sx_Y := (yX12_isInside, cX12_isInside, 5, (some .boolean))
theorem y0X12_isInside : sx_Y0 qX12_isInside 2 := ⟨(lw_in (tk_11 (List.mem_of_getElem? (i := 28) rfl)) rfl), (lw_in (tk_1 (List.mem_of_getElem? (i := 13) rfl)) rfl), plainFor_of_name pnX12, ⟨nhX12.1, nhX12.2, by decide +kernel⟩, by decide +kernel⟩
theorem yvX12_isInside : Cond.instanceMethod yX12_isInside ∈ lw_good ∧ Cond.selects yX12_isInside.cls yX12_isInside yX12_isInside ∈ lw_good := ⟨(lw_in (tk_11 (List.mem_of_getElem? (i := 27) rfl)) rfl), (lw_sel (q := (yX12_isInside, 146)) (List.mem_of_getElem? (i := 206) (by decide +kernel)) (by decide +kernel))⟩
abbrev qX12_isIn : sx_Y := (yX12_isIn, cX12_isIn, 3, (some .int))
theorem y0X12_isIn : sx_Y0 qX12_isIn 2 := ⟨(lw_in (tk_11 (List.mem_of_getElem? (i := 22) rfl)) rfl), (lw_in (tk_1 (List.mem_of_getElem? (i := 13) rfl)) rfl), plainFor_of_name pnX12, ⟨nhX12.1, nhX12.2, by decide +kernel⟩, by decide +kernel⟩
theorem yvX12_isIn : Cond.instanceMethod yX12_isIn ∈ lw_good ∧ Cond.selects yX12_isIn.cls yX12_isIn yX12_isIn ∈ lw_good := ⟨(lw_in (tk_11 (List.mem_of_getElem? (i := 20) rfl)) rfl), (lw_in (tk_11 (List.mem_of_getElem? (i := 21) rfl)) rfl)⟩
abbrev qX12_canvas : sx_Y := (yX12_canvas, cX12_canvas, 4, (some .int))
theorem y0X12_canvas : sx_Y0 qX12_canvas 2 := ⟨(lw_in (tk_11 (List.mem_of_getElem? (i := 57) rfl)) rfl), (lw_in (tk_1 (List.mem_of_getElem? (i := 13) rfl)) rfl), plainFor_of_name pnX12, ⟨nhX12.1, nhX12.2, by decide +kernel⟩, by decide +kernel⟩
theorem yvX12_canvas : Cond.instanceMethod yX12_canvas ∈ lw_good ∧ Cond.selects yX12_canvas.cls yX12_canvas yX12_canvas ∈ lw_good := ⟨(lw_in (tk_11 (List.mem_of_getElem? (i := 55) rfl)) rfl), (lw_in (tk_11 (List.mem_of_getElem? (i := 56) rfl)) rfl)⟩
abbrev qX12_drawIt : sx_Y := (yX12_drawIt, cX12_drawIt, 12, (some .int))
theorem y0X12_drawIt : sx_Y0 qX12_drawIt 2 := ⟨(lw_in (tk_11 (List.mem_of_getElem? (i := 68) rfl)) rfl), (lw_in (tk_1 (List.mem_of_getElem? (i := 13) rfl)) rfl), plainFor_of_name pnX12, ⟨nhX12.1, nhX12.2, by decide +kernel⟩, by decide +kernel⟩
theorem yvX12_drawIt : Cond.instanceMethod yX12_drawIt ∈ lw_good ∧ Cond.selects yX12_drawIt.cls yX12_drawIt yX12_drawIt ∈ lw_good := ⟨(lw_in (tk_11 (List.mem_of_getElem? (i := 67) rfl)) rfl), (lw_sel (q := (yX12_drawIt, 146)) (List.mem_of_getElem? (i := 211) (by decide +kernel)) (by decide +kernel))⟩
abbrev qX12_draw : sx_Y := (yX12_draw, cX12_draw, 3, (some .int))
theorem y0X12_draw : sx_Y0 qX12_draw 2 := ⟨(lw_in (tk_11 (List.mem_of_getElem? (i := 62) rfl)) rfl), (lw_in (tk_1 (List.mem_of_getElem? (i := 13) rfl)) rfl), plainFor_of_name pnX12, ⟨nhX12.1, nhX12.2, by decide +kernel⟩, by decide +kernel⟩
theorem yvX12_draw : Cond.instanceMethod yX12_draw ∈ lw_good ∧ Cond.selects yX12_draw.cls yX12_draw yX12_draw ∈ lw_good := ⟨(lw_in (tk_11 (List.mem_of_getElem? (i := 60) rfl)) rfl), (lw_in (tk_11 (List.mem_of_getElem? (i := 61) rfl)) rfl)⟩
abbrev qX12_pixel : sx_Y := (yX12_pixel, cX12_pixel, 3, (some .int))
theorem y0X12_pixel : sx_Y0 qX12_pixel 2 := ⟨(lw_in (tk_11 (List.mem_of_getElem? (i := 72) rfl)) rfl), (lw_in (tk_1 (List.mem_of_getElem? (i := 13) rfl)) rfl), plainFor_of_name pnX12, ⟨nhX12.1, nhX12.2, by decide +kernel⟩, by decide +kernel⟩
theorem yvX12_pixel : Cond.instanceMethod yX12_pixel ∈ lw_good ∧ Cond.selects yX12_pixel.cls yX12_pixel yX12_pixel ∈ lw_good := ⟨(lw_in (tk_11 (List.mem_of_getElem? (i := 70) rfl)) rfl), (lw_in (tk_11 (List.mem_of_getElem? (i := 71) rfl)) rfl)⟩
abbrev qX12_type : sx_Y := (yX12_type, cX12_type, 2, (some .int))
theorem y0X12_type : sx_Y0 qX12_type 1 := ⟨(lw_in (tk_11 (List.mem_of_getElem? (i := 76) rfl)) rfl), (lw_in (tk_1 (List.mem_of_getElem? (i := 13) rfl)) rfl), plainFor_of_name pnX12, ⟨nhX12.1, nhX12.2, by decide +kernel⟩, by decide +kernel⟩
theorem yvX12_type : Cond.instanceMethod yX12_type ∈ lw_good ∧ Cond.selects yX12_type.cls yX12_type yX12_type ∈ lw_good := ⟨(lw_in (tk_11 (List.mem_of_getElem? (i := 74) rfl)) rfl), (lw_in (tk_11 (List.mem_of_getElem? (i := 75) rfl)) rfl)⟩
abbrev qX12_glyphAt : sx_Y := (yX12_glyphAt, cX12_glyphAt, 4, (some .int))
theorem y0X12_glyphAt : sx_Y0 qX12_glyphAt 1 := ⟨(lw_in (tk_11 (List.mem_of_getElem? (i := 85) rfl)) rfl), (lw_in (tk_1 (List.mem_of_getElem? (i := 13) rfl)) rfl), plainFor_of_name pnX12, ⟨nhX12.1, nhX12.2, by decide +kernel⟩, by decide +kernel⟩
theorem yvX12_glyphAt : Cond.instanceMethod yX12_glyphAt ∈ lw_good ∧ Cond.selects yX12_glyphAt.cls yX12_glyphAt yX12_glyphAt ∈ lw_good := ⟨(lw_in (tk_11 (List.mem_of_getElem? (i := 84) rfl)) rfl), (lw_sel (q := (yX12_glyphAt, 146)) (List.mem_of_getElem? (i := 212) (by decide +kernel)) (by decide +kernel))⟩
abbrev qX12_line : sx_Y := (yX12_line, cX12_line, 10, (some .int))
theorem y0X12_line : sx_Y0 qX12_line 2 := ⟨(lw_in (tk_11 (List.mem_of_getElem? (i := 81) rfl)) rfl), (lw_in (tk_1 (List.mem_of_getElem? (i := 13) rfl)) rfl), plainFor_of_name pnX12, ⟨nhX12.1, nhX12.2, by decide +kernel⟩, by decide +kernel⟩
theorem yvX12_line : Cond.instanceMethod yX12_line ∈ lw_good ∧ Cond.selects yX12_line.cls yX12_line yX12_line ∈ lw_good := ⟨(lw_in (tk_11 (List.mem_of_getElem? (i := 79) rfl)) rfl), (lw_in (tk_11 (List.mem_of_getElem? (i := 80) rfl)) rfl)⟩
abbrev qX12_feed : sx_Y := (yX12_feed, cX12_feed, 5, (some .int))
theorem y0X12_feed : sx_Y0 qX12_feed 2 := ⟨(lw_in (tk_11 (List.mem_of_getElem? (i := 101) rfl)) rfl), (lw_in (tk_1 (List.mem_of_getElem? (i := 13) rfl)) rfl), plainFor_of_name pnX12, ⟨nhX12.1, nhX12.2, by decide +kernel⟩, by decide +kernel⟩
theorem yvX12_feed : Cond.instanceMethod yX12_feed ∈ lw_good ∧ Cond.selects yX12_feed.cls yX12_feed yX12_feed ∈ lw_good := ⟨(lw_in (tk_11 (List.mem_of_getElem? (i := 99) rfl)) rfl), (lw_in (tk_11 (List.mem_of_getElem? (i := 100) rfl)) rfl)⟩
abbrev qX12_wipe : sx_Y := (yX12_wipe, cX12_wipe, 2, (some .int))
theorem y0X12_wipe : sx_Y0 qX12_wipe 0 := ⟨(lw_in (tk_11 (List.mem_of_getElem? (i := 106) rfl)) rfl), (lw_in (tk_1 (List.mem_of_getElem? (i := 13) rfl)) rfl), plainFor_of_name pnX12, ⟨nhX12.1, nhX12.2, by decide +kernel⟩, by decide +kernel⟩
theorem yvX12_wipe : Cond.instanceMethod yX12_wipe ∈ lw_good ∧ Cond.selects yX12_wipe.cls yX12_wipe yX12_wipe ∈ lw_good := ⟨(lw_in (tk_11 (List.mem_of_getElem? (i := 104) rfl)) rfl), (lw_in (tk_11 (List.mem_of_getElem? (i := 105) rfl)) rfl)⟩
abbrev qX12_load : sx_Y := (yX12_load, cX12_load, 2, (some .int))
theorem y0X12_load : sx_Y0 qX12_load 0 := ⟨(lw_in (tk_11 (List.mem_of_getElem? (i := 110) rfl)) rfl), (lw_in (tk_1 (List.mem_of_getElem? (i := 13) rfl)) rfl), plainFor_of_name pnX12, ⟨nhX12.1, nhX12.2, by decide +kernel⟩, by decide +kernel⟩
theorem yvX12_load : Cond.instanceMethod yX12_load ∈ lw_good ∧ Cond.selects yX12_load.cls yX12_load yX12_load ∈ lw_good := ⟨(lw_in (tk_11 (List.mem_of_getElem? (i := 108) rfl)) rfl), (lw_in (tk_11 (List.mem_of_getElem? (i := 109) rfl)) rfl)⟩
abbrev qX12_font : sx_Y := (yX12_font, cX12_font, 2, (some .int))
theorem y0X12_font : sx_Y0 qX12_font 1 := ⟨(lw_in (tk_11 (List.mem_of_getElem? (i := 174) rfl)) rfl), (lw_in (tk_1 (List.mem_of_getElem? (i := 13) rfl)) rfl), plainFor_of_name pnX12, ⟨nhX12.1, nhX12.2, by decide +kernel⟩, by decide +kernel⟩
theorem yvX12_font : Cond.instanceMethod yX12_font ∈ lw_good ∧ Cond.selects yX12_font.cls yX12_font yX12_font ∈ lw_good := ⟨(lw_in (tk_11 (List.mem_of_getElem? (i := 172) rfl)) rfl), (lw_in (tk_11 (List.mem_of_getElem? (i := 173) rfl)) rfl)⟩
abbrev qX12_table : sx_Y := (yX12_table, cX12_table, 3, (some .long))
theorem y0X12_table : sx_Y0 qX12_table 2 := ⟨(lw_in (tk_11 (List.mem_of_getElem? (i := 178) rfl)) rfl), (lw_in (tk_1 (List.mem_of_getElem? (i := 13) rfl)) rfl), plainFor_of_name pnX12, ⟨nhX12.1, nhX12.2, by decide +kernel⟩, by decide +kernel⟩
theorem yvX12_table : Cond.instanceMethod yX12_table ∈ lw_good ∧ Cond.selects yX12_table.cls yX12_table yX12_table ∈ lw_good := ⟨(lw_in (tk_11 (List.mem_of_getElem? (i := 176) rfl)) rfl), (lw_in (tk_11 (List.mem_of_getElem? (i := 177) rfl)) rfl)⟩
abbrev qX12_glyphOf : sx_Y := (yX12_glyphOf, cX12_glyphOf, 2, (some .int))
theorem y0X12_glyphOf : sx_Y0 qX12_glyphOf 1 := ⟨(lw_in (tk_11 (List.mem_of_getElem? (i := 185) rfl)) rfl), (lw_in (tk_1 (List.mem_of_getElem? (i := 13) rfl)) rfl), plainFor_of_name pnX12, ⟨nhX12.1, nhX12.2, by decide +kernel⟩, by decide +kernel⟩
theorem yvX12_glyphOf : Cond.instanceMethod yX12_glyphOf ∈ lw_good ∧ Cond.selects yX12_glyphOf.cls yX12_glyphOf yX12_glyphOf ∈ lw_good := ⟨(lw_in (tk_11 (List.mem_of_getElem? (i := 183) rfl)) rfl), (lw_in (tk_11 (List.mem_of_getElem? (i := 184) rfl)) rfl)⟩
abbrev qX12_glyph : sx_Y := (yX12_glyph, cX12_glyph, 4, (some .int))
theorem y0X12_glyph : sx_Y0 qX12_glyph 2 := ⟨(lw_in (tk_11 (List.mem_of_getElem? (i := 189) rfl)) rfl), (lw_in (tk_1 (List.mem_of_getElem? (i := 13) rfl)) rfl), plainFor_of_name pnX12, ⟨nhX12.1, nhX12.2, by decide +kernel⟩, by decide +kernel⟩
theorem yvX12_glyph : Cond.instanceMethod yX12_glyph ∈ lw_good ∧ Cond.selects yX12_glyph.cls yX12_glyph yX12_glyph ∈ lw_good := ⟨(lw_in (tk_11 (List.mem_of_getElem? (i := 187) rfl)) rfl), (lw_in (tk_11 (List.mem_of_getElem? (i := 188) rfl)) rfl)⟩
abbrev qX12_kern : sx_Y := (yX12_kern, cX12_kern, 3, (some .int))
theorem y0X12_kern : sx_Y0 qX12_kern 2 := ⟨(lw_in (tk_11 (List.mem_of_getElem? (i := 193) rfl)) rfl), (lw_in (tk_1 (List.mem_of_getElem? (i := 13) rfl)) rfl), plainFor_of_name pnX12, ⟨nhX12.1, nhX12.2, by decide +kernel⟩, by decide +kernel⟩
theorem yvX12_kern : Cond.instanceMethod yX12_kern ∈ lw_good ∧ Cond.selects yX12_kern.cls yX12_kern yX12_kern ∈ lw_good := ⟨(lw_in (tk_11 (List.mem_of_getElem? (i := 191) rfl)) rfl), (lw_in (tk_11 (List.mem_of_getElem? (i := 192) rfl)) rfl)⟩
abbrev qX12_point : sx_Y := (yX12_point, cX12_point, 4, (some .int))
theorem y0X12_point : sx_Y0 qX12_point 2 := ⟨(lw_in (tk_11 (List.mem_of_getElem? (i := 197) rfl)) rfl), (lw_in (tk_1 (List.mem_of_getElem? (i := 13) rfl)) rfl), plainFor_of_name pnX12, ⟨nhX12.1, nhX12.2, by decide +kernel⟩, by decide +kernel⟩
theorem yvX12_point : Cond.instanceMethod yX12_point ∈ lw_good ∧ Cond.selects yX12_point.cls yX12_point yX12_point ∈ lw_good := ⟨(lw_in (tk_11 (List.mem_of_getElem? (i := 195) rfl)) rfl), (lw_in (tk_11 (List.mem_of_getElem? (i := 196) rfl)) rfl)⟩
abbrev qX12_told : sx_Y := (yX12_told, cX12_told, 2, (some .int))
theorem y0X12_told : sx_Y0 qX12_told 1 := ⟨(lw_in (tk_11 (List.mem_of_getElem? (i := 201) rfl)) rfl), (lw_in (tk_1 (List.mem_of_getElem? (i := 13) rfl)) rfl), plainFor_of_name pnX12, ⟨nhX12.1, nhX12.2, by decide +kernel⟩, by decide +kernel⟩
theorem yvX12_told : Cond.instanceMethod yX12_told ∈ lw_good ∧ Cond.selects yX12_told.cls yX12_told yX12_told ∈ lw_good := ⟨(lw_in (tk_11 (List.mem_of_getElem? (i := 199) rfl)) rfl), (lw_in (tk_11 (List.mem_of_getElem? (i := 200) rfl)) rfl)⟩
abbrev qX12_held : sx_Y := (yX12_held, cX12_held, 3, (some .int))
theorem y0X12_held : sx_Y0 qX12_held 2 := ⟨(lw_in (tk_11 (List.mem_of_getElem? (i := 205) rfl)) rfl), (lw_in (tk_1 (List.mem_of_getElem? (i := 13) rfl)) rfl), plainFor_of_name pnX12, ⟨nhX12.1, nhX12.2, by decide +kernel⟩, by decide +kernel⟩
theorem yvX12_held : Cond.instanceMethod yX12_held ∈ lw_good ∧ Cond.selects yX12_held.cls yX12_held yX12_held ∈ lw_good := ⟨(lw_in (tk_11 (List.mem_of_getElem? (i := 203) rfl)) rfl), (lw_in (tk_11 (List.mem_of_getElem? (i := 204) rfl)) rfl)⟩
abbrev qJ9_floorDiv_f86c9 : sx_Y := (yJ9_floorDiv_f86c9, cJ9_floorDiv_f86c9, 6, (some .long))
theorem mt_all : (Jvm.natives.all fun r => !((r.name == "floorDiv" || r.name == "abs" || r.name == "max" || r.name == "min") && r.cls == RJ9 && (r.desc == "(JJ)J" || r.desc == "(J)J" || r.desc == "(II)I"))) = true := by decide +kernel
theorem mt_plain {x : MethodName} (h1 : (x.name == "floorDiv" || x.name == "abs" || x.name == "max" || x.name == "min") = true) (h2 : x.cls = RJ9) (h3 : (x.desc == "(JJ)J" || x.desc == "(J)J" || x.desc == "(II)I") = true) : plainFor x = true := by
  unfold plainFor NativeRow.find?
  rw [Bool.or_eq_true]
  refine Or.inr ?_
  rw [Option.isNone_iff_eq_none, List.find?_eq_none]
  intro r hr he
  have := List.all_eq_true.mp mt_all r hr
  rw [Bool.and_eq_true, Bool.and_eq_true, beq_iff_eq, beq_iff_eq, beq_iff_eq] at he
  rw [he.1.1, he.1.2, he.2, h1, h2, h3] at this
  exact absurd this (by simp)
theorem nhJ9 : RJ9 ≠ "java/lang/invoke/MethodHandle" ∧ RJ9 ≠ "java/lang/invoke/VarHandle" := by decide +kernel
theorem y0J9_floorDiv_f86c9 : sx_Y0 qJ9_floorDiv_f86c9 2 := ⟨(lw_in (tk_6 (List.mem_of_getElem? (i := 19) rfl)) rfl), (lw_in (tk_1 (List.mem_of_getElem? (i := 15) rfl)) rfl), mt_plain (by decide +kernel) rfl (by decide +kernel), by decide +kernel, by decide +kernel⟩
theorem ysJ9_floorDiv_f86c9 : Cond.static yJ9_floorDiv_f86c9 ∈ lw_good := (lw_in (tk_6 (List.mem_of_getElem? (i := 18) rfl)) rfl)
abbrev qJ9_abs_067f4 : sx_Y := (yJ9_abs_067f4, cJ9_abs_067f4, 2, (some .long))
theorem y0J9_abs_067f4 : sx_Y0 qJ9_abs_067f4 1 := ⟨(lw_in (tk_6 (List.mem_of_getElem? (i := 146) rfl)) rfl), (lw_in (tk_1 (List.mem_of_getElem? (i := 15) rfl)) rfl), mt_plain (by decide +kernel) rfl (by decide +kernel), by decide +kernel, by decide +kernel⟩
theorem ysJ9_abs_067f4 : Cond.static yJ9_abs_067f4 ∈ lw_good := (lw_in (tk_6 (List.mem_of_getElem? (i := 145) rfl)) rfl)
abbrev qJ9_max_7cf53 : sx_Y := (yJ9_max_7cf53, cJ9_max_7cf53, 2, (some .int))
theorem y0J9_max_7cf53 : sx_Y0 qJ9_max_7cf53 2 := ⟨(lw_in (tk_4 (List.mem_of_getElem? (i := 90) rfl)) rfl), (lw_in (tk_1 (List.mem_of_getElem? (i := 15) rfl)) rfl), mt_plain (by decide +kernel) rfl (by decide +kernel), by decide +kernel, by decide +kernel⟩
theorem ysJ9_max_7cf53 : Cond.static yJ9_max_7cf53 ∈ lw_good := (lw_in (tk_4 (List.mem_of_getElem? (i := 89) rfl)) rfl)
abbrev qJ9_max_f86c9 : sx_Y := (yJ9_max_f86c9, cJ9_max_f86c9, 4, (some .long))
theorem y0J9_max_f86c9 : sx_Y0 qJ9_max_f86c9 2 := ⟨(lw_in (tk_3 (List.mem_of_getElem? (i := 220) rfl)) rfl), (lw_in (tk_1 (List.mem_of_getElem? (i := 15) rfl)) rfl), mt_plain (by decide +kernel) rfl (by decide +kernel), by decide +kernel, by decide +kernel⟩
theorem ysJ9_max_f86c9 : Cond.static yJ9_max_f86c9 ∈ lw_good := (lw_in (tk_3 (List.mem_of_getElem? (i := 219) rfl)) rfl)
abbrev qJ9_min_7cf53 : sx_Y := (yJ9_min_7cf53, cJ9_min_7cf53, 2, (some .int))
theorem y0J9_min_7cf53 : sx_Y0 qJ9_min_7cf53 2 := ⟨(lw_in (tk_4 (List.mem_of_getElem? (i := 87) rfl)) rfl), (lw_in (tk_1 (List.mem_of_getElem? (i := 15) rfl)) rfl), mt_plain (by decide +kernel) rfl (by decide +kernel), by decide +kernel, by decide +kernel⟩
theorem ysJ9_min_7cf53 : Cond.static yJ9_min_7cf53 ∈ lw_good := (lw_in (tk_4 (List.mem_of_getElem? (i := 86) rfl)) rfl)
abbrev qJ9_min_f86c9 : sx_Y := (yJ9_min_f86c9, cJ9_min_f86c9, 4, (some .long))
theorem y0J9_min_f86c9 : sx_Y0 qJ9_min_f86c9 2 := ⟨(lw_in (tk_3 (List.mem_of_getElem? (i := 223) rfl)) rfl), (lw_in (tk_1 (List.mem_of_getElem? (i := 15) rfl)) rfl), mt_plain (by decide +kernel) rfl (by decide +kernel), by decide +kernel, by decide +kernel⟩
theorem ysJ9_min_f86c9 : Cond.static yJ9_min_f86c9 ∈ lw_good := (lw_in (tk_3 (List.mem_of_getElem? (i := 222) rfl)) rfl)
abbrev qJ7_fill_53178 : sx_Y := (yJ7_fill_53178, cJ7_fill_53178, 4, none)
theorem pnJ7 : plainName RJ7 = true := by decide +kernel
theorem nhJ7 : RJ7 ≠ "java/lang/invoke/MethodHandle" ∧ RJ7 ≠ "java/lang/invoke/VarHandle" := by decide +kernel
theorem y0J7_fill_53178 : sx_Y0 qJ7_fill_53178 2 := ⟨(lw_in (tk_4 (List.mem_of_getElem? (i := 105) rfl)) rfl), (lw_in (tk_1 (List.mem_of_getElem? (i := 16) rfl)) rfl), plainFor_of_name pnJ7, ⟨nhJ7.1, nhJ7.2, by decide +kernel⟩, by decide +kernel⟩
theorem ysJ7_fill_53178 : Cond.static yJ7_fill_53178 ∈ lw_good := (lw_in (tk_4 (List.mem_of_getElem? (i := 104) rfl)) rfl)
abbrev qJ7_fill_031fb : sx_Y := (yJ7_fill_031fb, cJ7_fill_031fb, 4, none)
theorem y0J7_fill_031fb : sx_Y0 qJ7_fill_031fb 2 := ⟨(lw_in (tk_7 (List.mem_of_getElem? (i := 121) rfl)) rfl), (lw_in (tk_1 (List.mem_of_getElem? (i := 16) rfl)) rfl), plainFor_of_name pnJ7, ⟨nhJ7.1, nhJ7.2, by decide +kernel⟩, by decide +kernel⟩
theorem ysJ7_fill_031fb : Cond.static yJ7_fill_031fb ∈ lw_good := (lw_in (tk_7 (List.mem_of_getElem? (i := 120) rfl)) rfl)
theorem l_L_9 : Cond.methodLink RL 9 yX11_init ∈ lw_good := (lw_in (tk_1 (List.mem_of_getElem? (i := 19) rfl)) rfl)
theorem l_X11_1 : Cond.methodLink RX11 1 Lib.objectInit ∈ lw_good := (lw_in (tk_1 (List.mem_of_getElem? (i := 22) rfl)) rfl)
theorem l_X2_3 : Cond.methodLink RX2 3 Lib.objectInit ∈ lw_good := (lw_in (tk_1 (List.mem_of_getElem? (i := 30) rfl)) rfl)
theorem l_X11_22 : Cond.methodLink RX11 22 yX3_init ∈ lw_good := (lw_in (tk_1 (List.mem_of_getElem? (i := 129) rfl)) rfl)
theorem l_X3_3 : Cond.methodLink RX3 3 Lib.objectInit ∈ lw_good := (lw_in (tk_1 (List.mem_of_getElem? (i := 132) rfl)) rfl)
theorem l_X3_11 : Cond.methodLink RX3 11 yX8_init ∈ lw_good := (lw_in (tk_1 (List.mem_of_getElem? (i := 135) rfl)) rfl)
theorem l_X8_3 : Cond.methodLink RX8 3 Lib.objectInit ∈ lw_good := (lw_in (tk_1 (List.mem_of_getElem? (i := 138) rfl)) rfl)
theorem l_X11_27 : Cond.methodLink RX11 27 yX4_init ∈ lw_good := (lw_in (tk_2 (List.mem_of_getElem? (i := 28) rfl)) rfl)
theorem l_X4_3 : Cond.methodLink RX4 3 Lib.objectInit ∈ lw_good := (lw_in (tk_2 (List.mem_of_getElem? (i := 31) rfl)) rfl)
theorem l_X11_36 : Cond.methodLink RX11 36 yX6_init ∈ lw_good := (lw_in (tk_2 (List.mem_of_getElem? (i := 41) rfl)) rfl)
theorem l_X6_3 : Cond.methodLink RX6 3 Lib.objectInit ∈ lw_good := (lw_in (tk_2 (List.mem_of_getElem? (i := 44) rfl)) rfl)
theorem l_X7_3 : Cond.methodLink RX7 3 Lib.objectInit ∈ lw_good := (lw_in (tk_2 (List.mem_of_getElem? (i := 50) rfl)) rfl)
theorem l_X7_20 : Cond.methodLink RX7 20 yX8_init ∈ lw_good := (lw_in (tk_2 (List.mem_of_getElem? (i := 52) rfl)) rfl)
theorem l_X10_3 : Cond.methodLink RX10 3 Lib.objectInit ∈ lw_good := (lw_in (tk_2 (List.mem_of_getElem? (i := 91) rfl)) rfl)
theorem l_X6_44 : Cond.methodLink RX6 44 yX5_init ∈ lw_good := (lw_in (tk_2 (List.mem_of_getElem? (i := 135) rfl)) rfl)
theorem l_X5_3 : Cond.methodLink RX5 3 Lib.objectInit ∈ lw_good := (lw_in (tk_2 (List.mem_of_getElem? (i := 138) rfl)) rfl)
theorem l_X9_3 : Cond.methodLink RX9 3 Lib.objectInit ∈ lw_good := (lw_in (tk_2 (List.mem_of_getElem? (i := 144) rfl)) rfl)
theorem l_X0_3 : Cond.methodLink RX0 3 Lib.objectInit ∈ lw_good := (lw_in (tk_2 (List.mem_of_getElem? (i := 204) rfl)) rfl)
theorem l_X5_27 : Cond.methodLink RX5 27 yX8_init ∈ lw_good := (lw_in (tk_3 (List.mem_of_getElem? (i := 7) rfl)) rfl)
theorem l_X6_51 : Cond.methodLink RX6 51 yX8_init ∈ lw_good := (lw_in (tk_3 (List.mem_of_getElem? (i := 67) rfl)) rfl)
theorem l_X1_3 : Cond.methodLink RX1 3 Lib.objectInit ∈ lw_good := (lw_in (tk_3 (List.mem_of_getElem? (i := 121) rfl)) rfl)
theorem l_L_15 : Cond.methodLink RL 15 yX11_feed ∈ lw_good := (lw_in (tk_3 (List.mem_of_getElem? (i := 160) rfl)) rfl)
theorem l_L_20 : Cond.methodLink RL 20 yX11_wipe ∈ lw_good := (lw_in (tk_3 (List.mem_of_getElem? (i := 164) rfl)) rfl)
theorem l_L_25 : Cond.methodLink RL 25 yX11_load ∈ lw_good := (lw_in (tk_3 (List.mem_of_getElem? (i := 168) rfl)) rfl)
theorem l_X11_56 : Cond.methodLink RX11 56 yX6_forgetAll ∈ lw_good := (lw_in (tk_3 (List.mem_of_getElem? (i := 172) rfl)) rfl)
theorem l_X11_59 : Cond.methodLink RX11 59 yX2_take ∈ lw_good := (lw_in (tk_3 (List.mem_of_getElem? (i := 176) rfl)) rfl)
theorem l_X2_36 : Cond.methodLink RX2 36 arraycopyName ∈ lw_good := (lw_in (tk_3 (List.mem_of_getElem? (i := 180) rfl)) rfl)
theorem l_X11_63 : Cond.methodLink RX11 63 yX4_findFault ∈ lw_good := (lw_in (tk_3 (List.mem_of_getElem? (i := 183) rfl)) rfl)
theorem l_X4_19 : Cond.methodLink RX4 19 yX4_directoryHolds ∈ lw_good := (lw_in (tk_3 (List.mem_of_getElem? (i := 187) rfl)) rfl)
theorem l_X4_64 : Cond.methodLink RX4 64 yX2_u2 ∈ lw_good := (lw_in (tk_3 (List.mem_of_getElem? (i := 191) rfl)) rfl)
theorem l_X4_74 : Cond.methodLink RX4 74 yX2_u4 ∈ lw_good := (lw_in (tk_3 (List.mem_of_getElem? (i := 195) rfl)) rfl)
theorem l_X2_50 : Cond.methodLink RX2 50 yX2_u2 ∈ lw_good := (lw_in (tk_3 (List.mem_of_getElem? (i := 199) rfl)) rfl)
theorem l_X4_23 : Cond.methodLink RX4 23 yX4_tagsRise ∈ lw_good := (lw_in (tk_3 (List.mem_of_getElem? (i := 201) rfl)) rfl)
theorem l_X4_83 : Cond.methodLink RX4 83 yX4_entry ∈ lw_good := (lw_in (tk_3 (List.mem_of_getElem? (i := 205) rfl)) rfl)
theorem l_X4_26 : Cond.methodLink RX4 26 yX4_tablesLieRight ∈ lw_good := (lw_in (tk_3 (List.mem_of_getElem? (i := 209) rfl)) rfl)
theorem l_X4_89 : Cond.methodLink RX4 89 yX4_shareBytes ∈ lw_good := (lw_in (tk_3 (List.mem_of_getElem? (i := 214) rfl)) rfl)
theorem l_X4_93 : Cond.methodLink RX4 93 yJ9_max_f86c9 ∈ lw_good := (lw_in (tk_3 (List.mem_of_getElem? (i := 218) rfl)) rfl)
theorem l_X4_99 : Cond.methodLink RX4 99 yJ9_min_f86c9 ∈ lw_good := (lw_in (tk_3 (List.mem_of_getElem? (i := 221) rfl)) rfl)
theorem l_X4_29 : Cond.methodLink RX4 29 yX4_sumsHold ∈ lw_good := (lw_in (tk_3 (List.mem_of_getElem? (i := 224) rfl)) rfl)
theorem l_X4_106 : Cond.methodLink RX4 106 yX4_sumOf ∈ lw_good := (lw_in (tk_3 (List.mem_of_getElem? (i := 229) rfl)) rfl)
theorem l_X4_110 : Cond.methodLink RX4 110 yX2_u1 ∈ lw_good := (lw_in (tk_3 (List.mem_of_getElem? (i := 233) rfl)) rfl)
theorem l_X4_32 : Cond.methodLink RX4 32 yX4_findTables ∈ lw_good := (lw_in (tk_3 (List.mem_of_getElem? (i := 238) rfl)) rfl)
theorem l_X4_121 : Cond.methodLink RX4 121 yX2_hasTable ∈ lw_good := (lw_in (tk_4 (List.mem_of_getElem? (i := 2) rfl)) rfl)
theorem l_X4_35 : Cond.methodLink RX4 35 yX4_headHolds ∈ lw_good := (lw_in (tk_4 (List.mem_of_getElem? (i := 6) rfl)) rfl)
theorem l_X4_128 : Cond.methodLink RX4 128 yX2_s2 ∈ lw_good := (lw_in (tk_4 (List.mem_of_getElem? (i := 10) rfl)) rfl)
theorem l_X4_38 : Cond.methodLink RX4 38 yX4_maxpHolds ∈ lw_good := (lw_in (tk_4 (List.mem_of_getElem? (i := 16) rfl)) rfl)
theorem l_X4_41 : Cond.methodLink RX4 41 yX4_hheaHolds ∈ lw_good := (lw_in (tk_4 (List.mem_of_getElem? (i := 25) rfl)) rfl)
theorem l_X4_44 : Cond.methodLink RX4 44 yX4_hmtxHolds ∈ lw_good := (lw_in (tk_4 (List.mem_of_getElem? (i := 29) rfl)) rfl)
theorem l_X4_47 : Cond.methodLink RX4 47 yX4_locaHolds ∈ lw_good := (lw_in (tk_4 (List.mem_of_getElem? (i := 33) rfl)) rfl)
theorem l_X4_158 : Cond.methodLink RX4 158 yX4_placeInGlyf ∈ lw_good := (lw_in (tk_4 (List.mem_of_getElem? (i := 37) rfl)) rfl)
theorem l_X4_50 : Cond.methodLink RX4 50 yX3_glyphsHold ∈ lw_good := (lw_in (tk_4 (List.mem_of_getElem? (i := 42) rfl)) rfl)
theorem l_X3_37 : Cond.methodLink RX3 37 yX3_glyphHolds ∈ lw_good := (lw_in (tk_4 (List.mem_of_getElem? (i := 46) rfl)) rfl)
theorem l_X3_49 : Cond.methodLink RX3 49 yX2_s2 ∈ lw_good := (lw_in (tk_4 (List.mem_of_getElem? (i := 50) rfl)) rfl)
theorem l_X3_53 : Cond.methodLink RX3 53 yX3_partsHold ∈ lw_good := (lw_in (tk_4 (List.mem_of_getElem? (i := 51) rfl)) rfl)
theorem l_X3_79 : Cond.methodLink RX3 79 yX3_goTo ∈ lw_good := (lw_in (tk_4 (List.mem_of_getElem? (i := 55) rfl)) rfl)
theorem l_X3_127 : Cond.methodLink RX3 127 yX3_takePart ∈ lw_good := (lw_in (tk_4 (List.mem_of_getElem? (i := 59) rfl)) rfl)
theorem l_X3_89 : Cond.methodLink RX3 89 yX3_takeU2 ∈ lw_good := (lw_in (tk_4 (List.mem_of_getElem? (i := 63) rfl)) rfl)
theorem l_X3_76 : Cond.methodLink RX3 76 yX2_u2 ∈ lw_good := (lw_in (tk_4 (List.mem_of_getElem? (i := 67) rfl)) rfl)
theorem l_X3_121 : Cond.methodLink RX3 121 yX3_takeU1 ∈ lw_good := (lw_in (tk_4 (List.mem_of_getElem? (i := 68) rfl)) rfl)
theorem l_X3_73 : Cond.methodLink RX3 73 yX2_u1 ∈ lw_good := (lw_in (tk_4 (List.mem_of_getElem? (i := 72) rfl)) rfl)
theorem l_X3_124 : Cond.methodLink RX3 124 yX3_takeS2 ∈ lw_good := (lw_in (tk_4 (List.mem_of_getElem? (i := 73) rfl)) rfl)
theorem l_X3_102 : Cond.methodLink RX3 102 yX3_takeProgram ∈ lw_good := (lw_in (tk_4 (List.mem_of_getElem? (i := 77) rfl)) rfl)
theorem l_X3_56 : Cond.methodLink RX3 56 yX3_readOutline ∈ lw_good := (lw_in (tk_4 (List.mem_of_getElem? (i := 81) rfl)) rfl)
theorem l_X3_83 : Cond.methodLink RX3 83 yJ9_min_7cf53 ∈ lw_good := (lw_in (tk_4 (List.mem_of_getElem? (i := 85) rfl)) rfl)
theorem l_X3_96 : Cond.methodLink RX3 96 yJ9_max_7cf53 ∈ lw_good := (lw_in (tk_4 (List.mem_of_getElem? (i := 88) rfl)) rfl)
theorem l_X3_105 : Cond.methodLink RX3 105 yX3_takeFlags ∈ lw_good := (lw_in (tk_4 (List.mem_of_getElem? (i := 91) rfl)) rfl)
theorem l_X3_114 : Cond.methodLink RX3 114 yX3_takePlaces ∈ lw_good := (lw_in (tk_4 (List.mem_of_getElem? (i := 95) rfl)) rfl)
theorem l_X3_41 : Cond.methodLink RX3 41 yX3_depthsHold ∈ lw_good := (lw_in (tk_4 (List.mem_of_getElem? (i := 99) rfl)) rfl)
theorem l_X3_157 : Cond.methodLink RX3 157 yJ7_fill_53178 ∈ lw_good := (lw_in (tk_4 (List.mem_of_getElem? (i := 103) rfl)) rfl)
theorem l_X3_163 : Cond.methodLink RX3 163 yX3_deepestPart ∈ lw_good := (lw_in (tk_4 (List.mem_of_getElem? (i := 106) rfl)) rfl)
theorem l_X4_55 : Cond.methodLink RX4 55 yX4_cmapHolds ∈ lw_good := (lw_in (tk_4 (List.mem_of_getElem? (i := 110) rfl)) rfl)
theorem l_X4_165 : Cond.methodLink RX4 165 yX4_mapPlace ∈ lw_good := (lw_in (tk_4 (List.mem_of_getElem? (i := 114) rfl)) rfl)
theorem l_X4_171 : Cond.methodLink RX4 171 yX4_groupsHold ∈ lw_good := (lw_in (tk_4 (List.mem_of_getElem? (i := 119) rfl)) rfl)
theorem l_X4_193 : Cond.methodLink RX4 193 yX4_noteMap ∈ lw_good := (lw_in (tk_4 (List.mem_of_getElem? (i := 123) rfl)) rfl)
theorem l_X4_175 : Cond.methodLink RX4 175 yX4_segmentsHold ∈ lw_good := (lw_in (tk_4 (List.mem_of_getElem? (i := 130) rfl)) rfl)
theorem l_X4_178 : Cond.methodLink RX4 178 yX4_byteMapHolds ∈ lw_good := (lw_in (tk_4 (List.mem_of_getElem? (i := 135) rfl)) rfl)
theorem l_X4_58 : Cond.methodLink RX4 58 yX4_kernHolds ∈ lw_good := (lw_in (tk_4 (List.mem_of_getElem? (i := 139) rfl)) rfl)
theorem l_X4_61 : Cond.methodLink RX4 61 yX4_programsHold ∈ lw_good := (lw_in (tk_4 (List.mem_of_getElem? (i := 143) rfl)) rfl)
theorem l_L_29 : Cond.methodLink RL 29 yX11_font ∈ lw_good := (lw_in (tk_4 (List.mem_of_getElem? (i := 147) rfl)) rfl)
theorem l_L_34 : Cond.methodLink RL 34 yX11_table ∈ lw_good := (lw_in (tk_4 (List.mem_of_getElem? (i := 151) rfl)) rfl)
theorem l_X11_107 : Cond.methodLink RX11 107 yX2_u4 ∈ lw_good := (lw_in (tk_4 (List.mem_of_getElem? (i := 158) rfl)) rfl)
theorem l_L_39 : Cond.methodLink RL 39 yX11_glyphOf ∈ lw_good := (lw_in (tk_4 (List.mem_of_getElem? (i := 159) rfl)) rfl)
theorem l_X11_112 : Cond.methodLink RX11 112 yX2_findGlyph ∈ lw_good := (lw_in (tk_4 (List.mem_of_getElem? (i := 164) rfl)) rfl)
theorem l_X2_75 : Cond.methodLink RX2 75 yX2_findInGroups ∈ lw_good := (lw_in (tk_4 (List.mem_of_getElem? (i := 168) rfl)) rfl)
theorem l_X2_91 : Cond.methodLink RX2 91 yX2_u4 ∈ lw_good := (lw_in (tk_4 (List.mem_of_getElem? (i := 172) rfl)) rfl)
theorem l_X2_79 : Cond.methodLink RX2 79 yX2_findInSegments ∈ lw_good := (lw_in (tk_4 (List.mem_of_getElem? (i := 173) rfl)) rfl)
theorem l_X2_94 : Cond.methodLink RX2 94 yX2_findInSegment ∈ lw_good := (lw_in (tk_4 (List.mem_of_getElem? (i := 177) rfl)) rfl)
theorem l_X2_85 : Cond.methodLink RX2 85 yX2_u1 ∈ lw_good := (lw_in (tk_4 (List.mem_of_getElem? (i := 182) rfl)) rfl)
theorem l_L_43 : Cond.methodLink RL 43 yX11_glyph ∈ lw_good := (lw_in (tk_4 (List.mem_of_getElem? (i := 183) rfl)) rfl)
theorem l_X11_116 : Cond.methodLink RX11 116 yX2_hasGlyph ∈ lw_good := (lw_in (tk_4 (List.mem_of_getElem? (i := 187) rfl)) rfl)
theorem l_X11_120 : Cond.methodLink RX11 120 yX2_advanceOf ∈ lw_good := (lw_in (tk_4 (List.mem_of_getElem? (i := 191) rfl)) rfl)
theorem l_X2_60 : Cond.methodLink RX2 60 yJ9_min_7cf53 ∈ lw_good := (lw_in (tk_4 (List.mem_of_getElem? (i := 195) rfl)) rfl)
theorem l_X11_123 : Cond.methodLink RX11 123 yX2_bearingOf ∈ lw_good := (lw_in (tk_4 (List.mem_of_getElem? (i := 196) rfl)) rfl)
theorem l_X2_66 : Cond.methodLink RX2 66 yX2_s2 ∈ lw_good := (lw_in (tk_4 (List.mem_of_getElem? (i := 200) rfl)) rfl)
theorem l_L_48 : Cond.methodLink RL 48 yX11_kern ∈ lw_good := (lw_in (tk_4 (List.mem_of_getElem? (i := 201) rfl)) rfl)
theorem l_X11_130 : Cond.methodLink RX11 130 yX2_kernOf ∈ lw_good := (lw_in (tk_4 (List.mem_of_getElem? (i := 205) rfl)) rfl)
theorem l_L_52 : Cond.methodLink RL 52 yX11_size ∈ lw_good := (lw_in (tk_4 (List.mem_of_getElem? (i := 209) rfl)) rfl)
theorem l_X11_134 : Cond.methodLink RX11 134 yX6_setSize ∈ lw_good := (lw_in (tk_4 (List.mem_of_getElem? (i := 213) rfl)) rfl)
theorem l_X6_72 : Cond.methodLink RX6 72 yX7_renew ∈ lw_good := (lw_in (tk_4 (List.mem_of_getElem? (i := 217) rfl)) rfl)
theorem l_X7_38 : Cond.methodLink RX7 38 yJ9_min_7cf53 ∈ lw_good := (lw_in (tk_4 (List.mem_of_getElem? (i := 221) rfl)) rfl)
theorem l_X7_51 : Cond.methodLink RX7 51 yX2_s2 ∈ lw_good := (lw_in (tk_4 (List.mem_of_getElem? (i := 222) rfl)) rfl)
theorem l_X7_70 : Cond.methodLink RX7 70 yJ7_fill_53178 ∈ lw_good := (lw_in (tk_4 (List.mem_of_getElem? (i := 227) rfl)) rfl)
theorem l_X7_76 : Cond.methodLink RX7 76 yX8_clearTo ∈ lw_good := (lw_in (tk_4 (List.mem_of_getElem? (i := 228) rfl)) rfl)
theorem l_X8_49 : Cond.methodLink RX8 49 yJ7_fill_53178 ∈ lw_good := (lw_in (tk_4 (List.mem_of_getElem? (i := 232) rfl)) rfl)
theorem l_X7_80 : Cond.methodLink RX7 80 arraycopyName ∈ lw_good := (lw_in (tk_4 (List.mem_of_getElem? (i := 233) rfl)) rfl)
theorem l_X6_76 : Cond.methodLink RX6 76 yX5_beginSize ∈ lw_good := (lw_in (tk_4 (List.mem_of_getElem? (i := 234) rfl)) rfl)
theorem l_X5_62 : Cond.methodLink RX5 62 yX0_forgetAll ∈ lw_good := (lw_in (tk_4 (List.mem_of_getElem? (i := 238) rfl)) rfl)
theorem l_X0_36 : Cond.methodLink RX0 36 yJ7_fill_53178 ∈ lw_good := (lw_in (tk_5 (List.mem_of_getElem? (i := 2) rfl)) rfl)
theorem l_X5_65 : Cond.methodLink RX5 65 yX5_beginCount ∈ lw_good := (lw_in (tk_5 (List.mem_of_getElem? (i := 3) rfl)) rfl)
theorem l_X6_88 : Cond.methodLink RX6 88 yX5_runForSize ∈ lw_good := (lw_in (tk_5 (List.mem_of_getElem? (i := 7) rfl)) rfl)
theorem l_X5_79 : Cond.methodLink RX5 79 yX5_run ∈ lw_good := (lw_in (tk_5 (List.mem_of_getElem? (i := 11) rfl)) rfl)
theorem l_X5_102 : Cond.methodLink RX5 102 yX9_renew ∈ lw_good := (lw_in (tk_5 (List.mem_of_getElem? (i := 15) rfl)) rfl)
theorem l_X9_18 : Cond.methodLink RX9 18 yX9_goAlong ∈ lw_good := (lw_in (tk_5 (List.mem_of_getElem? (i := 19) rfl)) rfl)
theorem l_X9_41 : Cond.methodLink RX9 41 yX9_useWayForP ∈ lw_good := (lw_in (tk_5 (List.mem_of_getElem? (i := 23) rfl)) rfl)
theorem l_X9_44 : Cond.methodLink RX9 44 yX9_useWayForF ∈ lw_good := (lw_in (tk_5 (List.mem_of_getElem? (i := 27) rfl)) rfl)
theorem l_X9_22 : Cond.methodLink RX9 22 yJ7_fill_53178 ∈ lw_good := (lw_in (tk_5 (List.mem_of_getElem? (i := 31) rfl)) rfl)
theorem l_X9_32 : Cond.methodLink RX9 32 yX9_roundBy ∈ lw_good := (lw_in (tk_5 (List.mem_of_getElem? (i := 32) rfl)) rfl)
theorem l_X5_105 : Cond.methodLink RX5 105 yX5_isAtEnd ∈ lw_good := (lw_in (tk_5 (List.mem_of_getElem? (i := 36) rfl)) rfl)
theorem l_X5_109 : Cond.methodLink RX5 109 yX5_beginStep ∈ lw_good := (lw_in (tk_5 (List.mem_of_getElem? (i := 40) rfl)) rfl)
theorem l_X5_156 : Cond.methodLink RX5 156 yX2_u1 ∈ lw_good := (lw_in (tk_5 (List.mem_of_getElem? (i := 44) rfl)) rfl)
theorem l_X5_116 : Cond.methodLink RX5 116 yX5_vectorCodes ∈ lw_good := (lw_in (tk_5 (List.mem_of_getElem? (i := 49) rfl)) rfl)
theorem l_X5_226 : Cond.methodLink RX5 226 yX5_goAlongLine ∈ lw_good := (lw_in (tk_5 (List.mem_of_getElem? (i := 53) rfl)) rfl)
theorem l_X5_242 : Cond.methodLink RX5 242 yX5_pop ∈ lw_good := (lw_in (tk_5 (List.mem_of_getElem? (i := 57) rfl)) rfl)
theorem l_X5_255 : Cond.methodLink RX5 255 yX5_zone ∈ lw_good := (lw_in (tk_5 (List.mem_of_getElem? (i := 61) rfl)) rfl)
theorem l_X5_259 : Cond.methodLink RX5 259 yX5_isThere ∈ lw_good := (lw_in (tk_5 (List.mem_of_getElem? (i := 65) rfl)) rfl)
theorem l_X5_180 : Cond.methodLink RX5 180 yX8_has ∈ lw_good := (lw_in (tk_5 (List.mem_of_getElem? (i := 69) rfl)) rfl)
theorem l_X5_245 : Cond.methodLink RX5 245 yX9_findWay ∈ lw_good := (lw_in (tk_5 (List.mem_of_getElem? (i := 73) rfl)) rfl)
theorem l_X9_71 : Cond.methodLink RX9 71 yX9_shareOf ∈ lw_good := (lw_in (tk_5 (List.mem_of_getElem? (i := 81) rfl)) rfl)
theorem l_X5_263 : Cond.methodLink RX5 263 yX9_turnWayLeft ∈ lw_good := (lw_in (tk_5 (List.mem_of_getElem? (i := 85) rfl)) rfl)
theorem l_X5_249 : Cond.methodLink RX5 249 yX9_useWayForP ∈ lw_good := (lw_in (tk_5 (List.mem_of_getElem? (i := 89) rfl)) rfl)
theorem l_X5_252 : Cond.methodLink RX5 252 yX9_useWayForF ∈ lw_good := (lw_in (tk_5 (List.mem_of_getElem? (i := 90) rfl)) rfl)
theorem l_X5_229 : Cond.methodLink RX5 229 yX5_goAlongNumbers ∈ lw_good := (lw_in (tk_5 (List.mem_of_getElem? (i := 91) rfl)) rfl)
theorem l_X5_232 : Cond.methodLink RX5 232 yX5_push ∈ lw_good := (lw_in (tk_5 (List.mem_of_getElem? (i := 95) rfl)) rfl)
theorem l_X5_236 : Cond.methodLink RX5 236 yX5_goAlongBothLines ∈ lw_good := (lw_in (tk_5 (List.mem_of_getElem? (i := 99) rfl)) rfl)
theorem l_X5_239 : Cond.methodLink RX5 239 yX9_goAlong ∈ lw_good := (lw_in (tk_5 (List.mem_of_getElem? (i := 103) rfl)) rfl)
theorem l_X5_120 : Cond.methodLink RX5 120 yX5_settingCodes ∈ lw_good := (lw_in (tk_5 (List.mem_of_getElem? (i := 104) rfl)) rfl)
theorem l_X5_278 : Cond.methodLink RX5 278 yX5_setZones ∈ lw_good := (lw_in (tk_5 (List.mem_of_getElem? (i := 108) rfl)) rfl)
theorem l_X5_298 : Cond.methodLink RX5 298 yX5_isZone ∈ lw_good := (lw_in (tk_5 (List.mem_of_getElem? (i := 112) rfl)) rfl)
theorem l_X5_281 : Cond.methodLink RX5 281 yX5_setLoop ∈ lw_good := (lw_in (tk_5 (List.mem_of_getElem? (i := 116) rfl)) rfl)
theorem l_X5_284 : Cond.methodLink RX5 284 yX5_scaled ∈ lw_good := (lw_in (tk_5 (List.mem_of_getElem? (i := 121) rfl)) rfl)
theorem l_X5_288 : Cond.methodLink RX5 288 yX5_setShift ∈ lw_good := (lw_in (tk_5 (List.mem_of_getElem? (i := 127) rfl)) rfl)
theorem l_X5_291 : Cond.methodLink RX5 291 yX9_roundFinely ∈ lw_good := (lw_in (tk_5 (List.mem_of_getElem? (i := 131) rfl)) rfl)
theorem l_X5_295 : Cond.methodLink RX5 295 yX9_roundBy ∈ lw_good := (lw_in (tk_5 (List.mem_of_getElem? (i := 135) rfl)) rfl)
theorem l_X5_123 : Cond.methodLink RX5 123 yX5_flowCodes ∈ lw_good := (lw_in (tk_5 (List.mem_of_getElem? (i := 136) rfl)) rfl)
theorem l_X5_302 : Cond.methodLink RX5 302 yX5_passBranch ∈ lw_good := (lw_in (tk_5 (List.mem_of_getElem? (i := 140) rfl)) rfl)
theorem l_X5_330 : Cond.methodLink RX5 330 yX5_passCode ∈ lw_good := (lw_in (tk_5 (List.mem_of_getElem? (i := 144) rfl)) rfl)
theorem l_X5_306 : Cond.methodLink RX5 306 yX5_jump ∈ lw_good := (lw_in (tk_5 (List.mem_of_getElem? (i := 148) rfl)) rfl)
theorem l_X5_309 : Cond.methodLink RX5 309 yX5_callTimes ∈ lw_good := (lw_in (tk_5 (List.mem_of_getElem? (i := 152) rfl)) rfl)
theorem l_X5_355 : Cond.methodLink RX5 355 yX0_hasFunction ∈ lw_good := (lw_in (tk_5 (List.mem_of_getElem? (i := 156) rfl)) rfl)
theorem l_X5_358 : Cond.methodLink RX5 358 yX5_enter ∈ lw_good := (lw_in (tk_5 (List.mem_of_getElem? (i := 160) rfl)) rfl)
theorem l_X5_312 : Cond.methodLink RX5 312 yX5_callOnce ∈ lw_good := (lw_in (tk_5 (List.mem_of_getElem? (i := 164) rfl)) rfl)
theorem l_X5_315 : Cond.methodLink RX5 315 yX5_noteFunction ∈ lw_good := (lw_in (tk_5 (List.mem_of_getElem? (i := 168) rfl)) rfl)
theorem l_X5_333 : Cond.methodLink RX5 333 yX5_isDefining ∈ lw_good := (lw_in (tk_5 (List.mem_of_getElem? (i := 172) rfl)) rfl)
theorem l_X5_336 : Cond.methodLink RX5 336 yX5_noteRoutine ∈ lw_good := (lw_in (tk_5 (List.mem_of_getElem? (i := 176) rfl)) rfl)
theorem l_X5_318 : Cond.methodLink RX5 318 yX5_passDefinition ∈ lw_good := (lw_in (tk_5 (List.mem_of_getElem? (i := 180) rfl)) rfl)
theorem l_X5_321 : Cond.methodLink RX5 321 yX5_endRoutine ∈ lw_good := (lw_in (tk_5 (List.mem_of_getElem? (i := 184) rfl)) rfl)
theorem l_X5_324 : Cond.methodLink RX5 324 yX5_jumpIf ∈ lw_good := (lw_in (tk_5 (List.mem_of_getElem? (i := 188) rfl)) rfl)
theorem l_X5_327 : Cond.methodLink RX5 327 yX5_noteOwnCode ∈ lw_good := (lw_in (tk_5 (List.mem_of_getElem? (i := 192) rfl)) rfl)
theorem l_X5_339 : Cond.methodLink RX5 339 yX0_ownCode ∈ lw_good := (lw_in (tk_5 (List.mem_of_getElem? (i := 196) rfl)) rfl)
theorem l_X5_342 : Cond.methodLink RX5 342 yX0_has ∈ lw_good := (lw_in (tk_5 (List.mem_of_getElem? (i := 199) rfl)) rfl)
theorem l_X5_126 : Cond.methodLink RX5 126 yX5_stackCodes ∈ lw_good := (lw_in (tk_5 (List.mem_of_getElem? (i := 203) rfl)) rfl)
theorem l_X5_376 : Cond.methodLink RX5 376 yX5_doubleTop ∈ lw_good := (lw_in (tk_5 (List.mem_of_getElem? (i := 207) rfl)) rfl)
theorem l_X5_379 : Cond.methodLink RX5 379 yX5_rollTop ∈ lw_good := (lw_in (tk_5 (List.mem_of_getElem? (i := 211) rfl)) rfl)
theorem l_X5_382 : Cond.methodLink RX5 382 yX5_reachBelow ∈ lw_good := (lw_in (tk_5 (List.mem_of_getElem? (i := 215) rfl)) rfl)
theorem l_X5_385 : Cond.methodLink RX5 385 yX5_pushCounted ∈ lw_good := (lw_in (tk_5 (List.mem_of_getElem? (i := 219) rfl)) rfl)
theorem l_X5_388 : Cond.methodLink RX5 388 yX5_pushBehind ∈ lw_good := (lw_in (tk_5 (List.mem_of_getElem? (i := 223) rfl)) rfl)
theorem l_X5_391 : Cond.methodLink RX5 391 yX2_s2 ∈ lw_good := (lw_in (tk_5 (List.mem_of_getElem? (i := 227) rfl)) rfl)
theorem l_X5_129 : Cond.methodLink RX5 129 yX5_memoryCodes ∈ lw_good := (lw_in (tk_5 (List.mem_of_getElem? (i := 228) rfl)) rfl)
theorem l_X5_394 : Cond.methodLink RX5 394 yX5_write ∈ lw_good := (lw_in (tk_5 (List.mem_of_getElem? (i := 232) rfl)) rfl)
theorem l_X5_402 : Cond.methodLink RX5 402 yX7_hasStorage ∈ lw_good := (lw_in (tk_5 (List.mem_of_getElem? (i := 236) rfl)) rfl)
theorem l_X5_405 : Cond.methodLink RX5 405 yX7_hasCvt ∈ lw_good := (lw_in (tk_6 (List.mem_of_getElem? (i := 0) rfl)) rfl)
theorem l_X5_397 : Cond.methodLink RX5 397 yX5_read ∈ lw_good := (lw_in (tk_6 (List.mem_of_getElem? (i := 4) rfl)) rfl)
theorem l_X5_132 : Cond.methodLink RX5 132 yX5_comparingCodes ∈ lw_good := (lw_in (tk_6 (List.mem_of_getElem? (i := 9) rfl)) rfl)
theorem l_X5_414 : Cond.methodLink RX5 414 yX9_rounded ∈ lw_good := (lw_in (tk_6 (List.mem_of_getElem? (i := 13) rfl)) rfl)
theorem l_X9_86 : Cond.methodLink RX9 86 yJ9_floorDiv_f86c9 ∈ lw_good := (lw_in (tk_6 (List.mem_of_getElem? (i := 17) rfl)) rfl)
theorem l_X5_135 : Cond.methodLink RX5 135 yX5_reckoningCodes ∈ lw_good := (lw_in (tk_6 (List.mem_of_getElem? (i := 21) rfl)) rfl)
theorem l_X5_419 : Cond.methodLink RX5 419 yJ9_floorDiv_f86c9 ∈ lw_good := (lw_in (tk_6 (List.mem_of_getElem? (i := 25) rfl)) rfl)
theorem l_X5_424 : Cond.methodLink RX5 424 yJ9_max_f86c9 ∈ lw_good := (lw_in (tk_6 (List.mem_of_getElem? (i := 26) rfl)) rfl)
theorem l_X5_427 : Cond.methodLink RX5 427 yJ9_min_f86c9 ∈ lw_good := (lw_in (tk_6 (List.mem_of_getElem? (i := 27) rfl)) rfl)
theorem l_X5_138 : Cond.methodLink RX5 138 yX5_singlePointCodes ∈ lw_good := (lw_in (tk_6 (List.mem_of_getElem? (i := 28) rfl)) rfl)
theorem l_X5_430 : Cond.methodLink RX5 430 yX5_alignPoints ∈ lw_good := (lw_in (tk_6 (List.mem_of_getElem? (i := 32) rfl)) rfl)
theorem l_X5_455 : Cond.methodLink RX5 455 yX5_longBetween ∈ lw_good := (lw_in (tk_6 (List.mem_of_getElem? (i := 36) rfl)) rfl)
theorem l_X5_461 : Cond.methodLink RX5 461 yX5_move ∈ lw_good := (lw_in (tk_6 (List.mem_of_getElem? (i := 42) rfl)) rfl)
theorem l_X5_223 : Cond.methodLink RX5 223 yX5_touchBits ∈ lw_good := (lw_in (tk_6 (List.mem_of_getElem? (i := 48) rfl)) rfl)
theorem l_X5_433 : Cond.methodLink RX5 433 yX5_untouchPoint ∈ lw_good := (lw_in (tk_6 (List.mem_of_getElem? (i := 52) rfl)) rfl)
theorem l_X5_436 : Cond.methodLink RX5 436 yX5_touchPoint ∈ lw_good := (lw_in (tk_6 (List.mem_of_getElem? (i := 56) rfl)) rfl)
theorem l_X5_465 : Cond.methodLink RX5 465 yX5_longByP ∈ lw_good := (lw_in (tk_6 (List.mem_of_getElem? (i := 60) rfl)) rfl)
theorem l_X5_439 : Cond.methodLink RX5 439 yX5_fillUntouched ∈ lw_good := (lw_in (tk_6 (List.mem_of_getElem? (i := 64) rfl)) rfl)
theorem l_X5_483 : Cond.methodLink RX5 483 yX8_firstOf ∈ lw_good := (lw_in (tk_6 (List.mem_of_getElem? (i := 68) rfl)) rfl)
theorem l_X5_487 : Cond.methodLink RX5 487 yX5_firstTouched ∈ lw_good := (lw_in (tk_6 (List.mem_of_getElem? (i := 72) rfl)) rfl)
theorem l_X5_491 : Cond.methodLink RX5 491 yX5_fillBetween ∈ lw_good := (lw_in (tk_6 (List.mem_of_getElem? (i := 76) rfl)) rfl)
theorem l_X5_443 : Cond.methodLink RX5 443 yX5_tellLong ∈ lw_good := (lw_in (tk_6 (List.mem_of_getElem? (i := 80) rfl)) rfl)
theorem l_X5_468 : Cond.methodLink RX5 468 yX5_longByD ∈ lw_good := (lw_in (tk_6 (List.mem_of_getElem? (i := 84) rfl)) rfl)
theorem l_X5_446 : Cond.methodLink RX5 446 yX5_setLong ∈ lw_good := (lw_in (tk_6 (List.mem_of_getElem? (i := 88) rfl)) rfl)
theorem l_X5_449 : Cond.methodLink RX5 449 yX5_tellDistance ∈ lw_good := (lw_in (tk_6 (List.mem_of_getElem? (i := 92) rfl)) rfl)
theorem l_X5_471 : Cond.methodLink RX5 471 yX5_originalBetween ∈ lw_good := (lw_in (tk_6 (List.mem_of_getElem? (i := 96) rfl)) rfl)
theorem l_X5_452 : Cond.methodLink RX5 452 yX5_turnRange ∈ lw_good := (lw_in (tk_6 (List.mem_of_getElem? (i := 100) rfl)) rfl)
theorem l_X5_141 : Cond.methodLink RX5 141 yX5_manyPointCodes ∈ lw_good := (lw_in (tk_6 (List.mem_of_getElem? (i := 104) rfl)) rfl)
theorem l_X5_495 : Cond.methodLink RX5 495 yX5_shiftByPixels ∈ lw_good := (lw_in (tk_6 (List.mem_of_getElem? (i := 108) rfl)) rfl)
theorem l_X5_498 : Cond.methodLink RX5 498 yX5_interpolate ∈ lw_good := (lw_in (tk_6 (List.mem_of_getElem? (i := 112) rfl)) rfl)
theorem l_X5_501 : Cond.methodLink RX5 501 yX5_alignToReference ∈ lw_good := (lw_in (tk_6 (List.mem_of_getElem? (i := 116) rfl)) rfl)
theorem l_X5_504 : Cond.methodLink RX5 504 yX5_turnPoints ∈ lw_good := (lw_in (tk_6 (List.mem_of_getElem? (i := 120) rfl)) rfl)
theorem l_X5_144 : Cond.methodLink RX5 144 yX5_measuredCodes ∈ lw_good := (lw_in (tk_6 (List.mem_of_getElem? (i := 124) rfl)) rfl)
theorem l_X5_518 : Cond.methodLink RX5 518 yX5_moveFromReference ∈ lw_good := (lw_in (tk_6 (List.mem_of_getElem? (i := 128) rfl)) rfl)
theorem l_X5_530 : Cond.methodLink RX5 530 yX5_plant ∈ lw_good := (lw_in (tk_6 (List.mem_of_getElem? (i := 132) rfl)) rfl)
theorem l_X5_534 : Cond.methodLink RX5 534 yX5_noteReferences ∈ lw_good := (lw_in (tk_6 (List.mem_of_getElem? (i := 136) rfl)) rfl)
theorem l_X5_521 : Cond.methodLink RX5 521 yX5_moveToCvt ∈ lw_good := (lw_in (tk_6 (List.mem_of_getElem? (i := 140) rfl)) rfl)
theorem l_X5_538 : Cond.methodLink RX5 538 yJ9_abs_067f4 ∈ lw_good := (lw_in (tk_6 (List.mem_of_getElem? (i := 144) rfl)) rfl)
theorem l_X5_524 : Cond.methodLink RX5 524 yX5_moveAsOriginal ∈ lw_good := (lw_in (tk_6 (List.mem_of_getElem? (i := 147) rfl)) rfl)
theorem l_X5_541 : Cond.methodLink RX5 541 yX5_orSingle ∈ lw_good := (lw_in (tk_6 (List.mem_of_getElem? (i := 151) rfl)) rfl)
theorem l_X5_544 : Cond.methodLink RX5 544 yX5_atLeast ∈ lw_good := (lw_in (tk_6 (List.mem_of_getElem? (i := 155) rfl)) rfl)
theorem l_X5_527 : Cond.methodLink RX5 527 yX5_moveAsCvt ∈ lw_good := (lw_in (tk_6 (List.mem_of_getElem? (i := 159) rfl)) rfl)
theorem l_X5_147 : Cond.methodLink RX5 147 yX5_deltaCodes ∈ lw_good := (lw_in (tk_6 (List.mem_of_getElem? (i := 163) rfl)) rfl)
theorem l_X5_551 : Cond.methodLink RX5 551 yX5_applyDelta ∈ lw_good := (lw_in (tk_6 (List.mem_of_getElem? (i := 169) rfl)) rfl)
theorem l_X5_150 : Cond.methodLink RX5 150 yX5_shiftByReference ∈ lw_good := (lw_in (tk_6 (List.mem_of_getElem? (i := 173) rfl)) rfl)
theorem l_X5_507 : Cond.methodLink RX5 507 yX5_shiftPoints ∈ lw_good := (lw_in (tk_6 (List.mem_of_getElem? (i := 177) rfl)) rfl)
theorem l_X5_510 : Cond.methodLink RX5 510 yX5_shiftContour ∈ lw_good := (lw_in (tk_6 (List.mem_of_getElem? (i := 181) rfl)) rfl)
theorem l_X5_514 : Cond.methodLink RX5 514 yX5_shiftZone ∈ lw_good := (lw_in (tk_6 (List.mem_of_getElem? (i := 185) rfl)) rfl)
theorem l_X5_153 : Cond.methodLink RX5 153 yX5_callOwnCode ∈ lw_good := (lw_in (tk_6 (List.mem_of_getElem? (i := 189) rfl)) rfl)
theorem l_L_56 : Cond.methodLink RL 56 yX11_make ∈ lw_good := (lw_in (tk_6 (List.mem_of_getElem? (i := 193) rfl)) rfl)
theorem l_X11_140 : Cond.methodLink RX11 140 yX6_makeGlyph ∈ lw_good := (lw_in (tk_6 (List.mem_of_getElem? (i := 197) rfl)) rfl)
theorem l_X6_104 : Cond.methodLink RX6 104 yX5_beginCount ∈ lw_good := (lw_in (tk_6 (List.mem_of_getElem? (i := 201) rfl)) rfl)
theorem l_X6_107 : Cond.methodLink RX6 107 yX6_build ∈ lw_good := (lw_in (tk_6 (List.mem_of_getElem? (i := 202) rfl)) rfl)
theorem l_X6_139 : Cond.methodLink RX6 139 yX2_hasGlyph ∈ lw_good := (lw_in (tk_6 (List.mem_of_getElem? (i := 206) rfl)) rfl)
theorem l_X6_129 : Cond.methodLink RX6 129 yX5_failOutside ∈ lw_good := (lw_in (tk_6 (List.mem_of_getElem? (i := 207) rfl)) rfl)
theorem l_X6_142 : Cond.methodLink RX6 142 yX6_beginOutline ∈ lw_good := (lw_in (tk_6 (List.mem_of_getElem? (i := 211) rfl)) rfl)
theorem l_X6_170 : Cond.methodLink RX6 170 yX2_bearingOf ∈ lw_good := (lw_in (tk_6 (List.mem_of_getElem? (i := 215) rfl)) rfl)
theorem l_X6_174 : Cond.methodLink RX6 174 yX5_scaled ∈ lw_good := (lw_in (tk_6 (List.mem_of_getElem? (i := 216) rfl)) rfl)
theorem l_X6_178 : Cond.methodLink RX6 178 yX2_advanceOf ∈ lw_good := (lw_in (tk_6 (List.mem_of_getElem? (i := 217) rfl)) rfl)
theorem l_X6_146 : Cond.methodLink RX6 146 yX6_addParts ∈ lw_good := (lw_in (tk_6 (List.mem_of_getElem? (i := 218) rfl)) rfl)
theorem l_X6_196 : Cond.methodLink RX6 196 yX3_readPart ∈ lw_good := (lw_in (tk_6 (List.mem_of_getElem? (i := 222) rfl)) rfl)
theorem l_X6_202 : Cond.methodLink RX6 202 yX6_addPart ∈ lw_good := (lw_in (tk_6 (List.mem_of_getElem? (i := 226) rfl)) rfl)
theorem l_X6_205 : Cond.methodLink RX6 205 yX6_append ∈ lw_good := (lw_in (tk_6 (List.mem_of_getElem? (i := 230) rfl)) rfl)
theorem l_X6_215 : Cond.methodLink RX6 215 yX6_offset ∈ lw_good := (lw_in (tk_6 (List.mem_of_getElem? (i := 236) rfl)) rfl)
theorem l_X11_273 : Cond.methodLink RX11 273 yJ9_floorDiv_f86c9 ∈ lw_good := (lw_in (tk_7 (List.mem_of_getElem? (i := 5) rfl)) rfl)
theorem l_X6_121 : Cond.methodLink RX6 121 yX8_shift ∈ lw_good := (lw_in (tk_7 (List.mem_of_getElem? (i := 6) rfl)) rfl)
theorem l_X6_221 : Cond.methodLink RX6 221 yX6_match ∈ lw_good := (lw_in (tk_7 (List.mem_of_getElem? (i := 10) rfl)) rfl)
theorem l_X6_225 : Cond.methodLink RX6 225 arraycopyName ∈ lw_good := (lw_in (tk_7 (List.mem_of_getElem? (i := 14) rfl)) rfl)
theorem l_X6_149 : Cond.methodLink RX6 149 yX6_takeOutline ∈ lw_good := (lw_in (tk_7 (List.mem_of_getElem? (i := 15) rfl)) rfl)
theorem l_X6_184 : Cond.methodLink RX6 184 yX3_readOutline ∈ lw_good := (lw_in (tk_7 (List.mem_of_getElem? (i := 19) rfl)) rfl)
theorem l_X6_125 : Cond.methodLink RX6 125 yX8_liesWithin ∈ lw_good := (lw_in (tk_7 (List.mem_of_getElem? (i := 21) rfl)) rfl)
theorem l_X6_153 : Cond.methodLink RX6 153 yX7_copyFrom ∈ lw_good := (lw_in (tk_7 (List.mem_of_getElem? (i := 26) rfl)) rfl)
theorem l_X7_86 : Cond.methodLink RX7 86 yX8_copyFrom ∈ lw_good := (lw_in (tk_7 (List.mem_of_getElem? (i := 30) rfl)) rfl)
theorem l_X8_55 : Cond.methodLink RX8 55 arraycopyName ∈ lw_good := (lw_in (tk_7 (List.mem_of_getElem? (i := 34) rfl)) rfl)
theorem l_X6_157 : Cond.methodLink RX6 157 yX8_beginProgram ∈ lw_good := (lw_in (tk_7 (List.mem_of_getElem? (i := 35) rfl)) rfl)
theorem l_X6_160 : Cond.methodLink RX6 160 yX5_run ∈ lw_good := (lw_in (tk_7 (List.mem_of_getElem? (i := 40) rfl)) rfl)
theorem l_X6_164 : Cond.methodLink RX6 164 yX8_endProgram ∈ lw_good := (lw_in (tk_7 (List.mem_of_getElem? (i := 41) rfl)) rfl)
theorem l_X6_132 : Cond.methodLink RX6 132 yX10_trace ∈ lw_good := (lw_in (tk_7 (List.mem_of_getElem? (i := 45) rfl)) rfl)
theorem l_X10_46 : Cond.methodLink RX10 46 yX8_firstOf ∈ lw_good := (lw_in (tk_7 (List.mem_of_getElem? (i := 49) rfl)) rfl)
theorem l_X10_53 : Cond.methodLink RX10 53 yX10_traceContour ∈ lw_good := (lw_in (tk_7 (List.mem_of_getElem? (i := 50) rfl)) rfl)
theorem l_X10_81 : Cond.methodLink RX10 81 yX10_addLine ∈ lw_good := (lw_in (tk_7 (List.mem_of_getElem? (i := 54) rfl)) rfl)
theorem l_X10_84 : Cond.methodLink RX10 84 yX10_addCurve ∈ lw_good := (lw_in (tk_7 (List.mem_of_getElem? (i := 58) rfl)) rfl)
theorem l_X10_69 : Cond.methodLink RX10 69 yJ9_min_7cf53 ∈ lw_good := (lw_in (tk_7 (List.mem_of_getElem? (i := 62) rfl)) rfl)
theorem l_X10_75 : Cond.methodLink RX10 75 yJ9_max_7cf53 ∈ lw_good := (lw_in (tk_7 (List.mem_of_getElem? (i := 63) rfl)) rfl)
theorem l_L_60 : Cond.methodLink RL 60 yX11_point ∈ lw_good := (lw_in (tk_7 (List.mem_of_getElem? (i := 64) rfl)) rfl)
theorem l_X11_164 : Cond.methodLink RX11 164 yX8_contourOf ∈ lw_good := (lw_in (tk_7 (List.mem_of_getElem? (i := 68) rfl)) rfl)
theorem l_L_64 : Cond.methodLink RL 64 yX11_told ∈ lw_good := (lw_in (tk_7 (List.mem_of_getElem? (i := 72) rfl)) rfl)
theorem l_X11_191 : Cond.methodLink RX11 191 yX6_keptOf ∈ lw_good := (lw_in (tk_7 (List.mem_of_getElem? (i := 76) rfl)) rfl)
theorem l_L_68 : Cond.methodLink RL 68 yX11_held ∈ lw_good := (lw_in (tk_7 (List.mem_of_getElem? (i := 80) rfl)) rfl)
theorem l_L_72 : Cond.methodLink RL 72 yX11_isIn ∈ lw_good := (lw_in (tk_7 (List.mem_of_getElem? (i := 84) rfl)) rfl)
theorem l_X11_225 : Cond.methodLink RX11 225 yX11_isBeyond ∈ lw_good := (lw_in (tk_7 (List.mem_of_getElem? (i := 88) rfl)) rfl)
theorem l_X11_233 : Cond.methodLink RX11 233 yX10_chooseRow ∈ lw_good := (lw_in (tk_7 (List.mem_of_getElem? (i := 89) rfl)) rfl)
theorem l_X11_239 : Cond.methodLink RX11 239 yX10_holds ∈ lw_good := (lw_in (tk_7 (List.mem_of_getElem? (i := 93) rfl)) rfl)
theorem l_X10_97 : Cond.methodLink RX10 97 yX10_meets ∈ lw_good := (lw_in (tk_7 (List.mem_of_getElem? (i := 97) rfl)) rfl)
theorem l_X10_101 : Cond.methodLink RX10 101 yX10_crossing ∈ lw_good := (lw_in (tk_7 (List.mem_of_getElem? (i := 101) rfl)) rfl)
theorem l_X10_111 : Cond.methodLink RX10 111 yX10_sideOf ∈ lw_good := (lw_in (tk_7 (List.mem_of_getElem? (i := 104) rfl)) rfl)
theorem l_X10_105 : Cond.methodLink RX10 105 yX10_reaches ∈ lw_good := (lw_in (tk_7 (List.mem_of_getElem? (i := 107) rfl)) rfl)
theorem l_L_76 : Cond.methodLink RL 76 yX11_canvas ∈ lw_good := (lw_in (tk_7 (List.mem_of_getElem? (i := 111) rfl)) rfl)
theorem l_X11_243 : Cond.methodLink RX11 243 yX1_renew ∈ lw_good := (lw_in (tk_7 (List.mem_of_getElem? (i := 115) rfl)) rfl)
theorem l_X1_22 : Cond.methodLink RX1 22 yJ7_fill_031fb ∈ lw_good := (lw_in (tk_7 (List.mem_of_getElem? (i := 119) rfl)) rfl)
theorem l_L_80 : Cond.methodLink RL 80 yX11_draw ∈ lw_good := (lw_in (tk_7 (List.mem_of_getElem? (i := 122) rfl)) rfl)
theorem l_X11_250 : Cond.methodLink RX11 250 yX1_fillIn ∈ lw_good := (lw_in (tk_7 (List.mem_of_getElem? (i := 126) rfl)) rfl)
theorem l_X1_28 : Cond.methodLink RX1 28 yX10_chooseRow ∈ lw_good := (lw_in (tk_7 (List.mem_of_getElem? (i := 130) rfl)) rfl)
theorem l_X1_34 : Cond.methodLink RX1 34 yX10_hasRow ∈ lw_good := (lw_in (tk_7 (List.mem_of_getElem? (i := 131) rfl)) rfl)
theorem l_X1_38 : Cond.methodLink RX1 38 yX10_spans ∈ lw_good := (lw_in (tk_7 (List.mem_of_getElem? (i := 135) rfl)) rfl)
theorem l_X1_42 : Cond.methodLink RX1 42 yX10_holds ∈ lw_good := (lw_in (tk_7 (List.mem_of_getElem? (i := 139) rfl)) rfl)
theorem l_L_84 : Cond.methodLink RL 84 yX11_pixel ∈ lw_good := (lw_in (tk_7 (List.mem_of_getElem? (i := 140) rfl)) rfl)
theorem l_L_88 : Cond.methodLink RL 88 yX11_type ∈ lw_good := (lw_in (tk_7 (List.mem_of_getElem? (i := 144) rfl)) rfl)
theorem l_L_92 : Cond.methodLink RL 92 yX11_line ∈ lw_good := (lw_in (tk_7 (List.mem_of_getElem? (i := 148) rfl)) rfl)
theorem l_X11_263 : Cond.methodLink RX11 263 yX5_scaled ∈ lw_good := (lw_in (tk_7 (List.mem_of_getElem? (i := 152) rfl)) rfl)
theorem l_L_12 : Cond.methodLink RL 12 yX12_init ∈ lw_good := (lw_in (tk_7 (List.mem_of_getElem? (i := 157) rfl)) rfl)
theorem l_X12_1 : Cond.methodLink RX12 1 Lib.objectInit ∈ lw_good := (lw_in (tk_7 (List.mem_of_getElem? (i := 160) rfl)) rfl)
theorem l_L_55 : Cond.methodLink RL 55 yX12_size ∈ lw_good := (lw_in (tk_9 (List.mem_of_getElem? (i := 121) rfl)) rfl)
theorem l_X12_263 : Cond.methodLink RX12 263 yX12_in ∈ lw_good := (lw_in (tk_9 (List.mem_of_getElem? (i := 127) rfl)) rfl)
theorem l_X12_716 : Cond.methodLink RX12 716 yX12_put ∈ lw_good := (lw_in (tk_9 (List.mem_of_getElem? (i := 130) rfl)) rfl)
theorem l_X12_251 : Cond.methodLink RX12 251 yX12_beginOf ∈ lw_good := (lw_in (tk_9 (List.mem_of_getElem? (i := 135) rfl)) rfl)
theorem l_X12_219 : Cond.methodLink RX12 219 yX12_tableOf ∈ lw_good := (lw_in (tk_9 (List.mem_of_getElem? (i := 139) rfl)) rfl)
theorem l_X12_305 : Cond.methodLink RX12 305 yX12_s2 ∈ lw_good := (lw_in (tk_9 (List.mem_of_getElem? (i := 143) rfl)) rfl)
theorem l_X12_213 : Cond.methodLink RX12 213 yX12_u2 ∈ lw_good := (lw_in (tk_9 (List.mem_of_getElem? (i := 147) rfl)) rfl)
theorem l_X12_209 : Cond.methodLink RX12 209 yX12_u1 ∈ lw_good := (lw_in (tk_9 (List.mem_of_getElem? (i := 151) rfl)) rfl)
theorem l_X12_611 : Cond.methodLink RX12 611 yX12_scaled ∈ lw_good := (lw_in (tk_9 (List.mem_of_getElem? (i := 155) rfl)) rfl)
theorem l_X12_517 : Cond.methodLink RX12 517 yX12_over ∈ lw_good := (lw_in (tk_9 (List.mem_of_getElem? (i := 160) rfl)) rfl)
theorem l_X12_194 : Cond.methodLink RX12 194 yX12_nearest ∈ lw_good := (lw_in (tk_9 (List.mem_of_getElem? (i := 163) rfl)) rfl)
theorem l_X12_198 : Cond.methodLink RX12 198 yX12_sizeOf ∈ lw_good := (lw_in (tk_9 (List.mem_of_getElem? (i := 166) rfl)) rfl)
theorem l_X12_257 : Cond.methodLink RX12 257 yX12_lengthOf ∈ lw_good := (lw_in (tk_9 (List.mem_of_getElem? (i := 171) rfl)) rfl)
theorem l_X12_770 : Cond.methodLink RX12 770 yX12_runProgram ∈ lw_good := (lw_in (tk_9 (List.mem_of_getElem? (i := 175) rfl)) rfl)
theorem l_X12_502 : Cond.methodLink RX12 502 yX12_settings ∈ lw_good := (lw_in (tk_9 (List.mem_of_getElem? (i := 179) rfl)) rfl)
theorem l_X12_472 : Cond.methodLink RX12 472 yX12_setRounding ∈ lw_good := (lw_in (tk_9 (List.mem_of_getElem? (i := 183) rfl)) rfl)
theorem l_X12_421 : Cond.methodLink RX12 421 yX12_fail ∈ lw_good := (lw_in (tk_9 (List.mem_of_getElem? (i := 187) rfl)) rfl)
theorem l_X12_430 : Cond.methodLink RX12 430 yX12_codeByte ∈ lw_good := (lw_in (tk_9 (List.mem_of_getElem? (i := 191) rfl)) rfl)
theorem l_X12_508 : Cond.methodLink RX12 508 yX12_perform ∈ lw_good := (lw_in (tk_9 (List.mem_of_getElem? (i := 195) rfl)) rfl)
theorem l_X12_545 : Cond.methodLink RX12 545 yX12_relative ∈ lw_good := (lw_in (tk_9 (List.mem_of_getElem? (i := 199) rfl)) rfl)
theorem l_X12_576 : Cond.methodLink RX12 576 yX12_has ∈ lw_good := (lw_in (tk_9 (List.mem_of_getElem? (i := 203) rfl)) rfl)
theorem l_X12_579 : Cond.methodLink RX12 579 yX12_pop ∈ lw_good := (lw_in (tk_9 (List.mem_of_getElem? (i := 207) rfl)) rfl)
theorem l_X12_582 : Cond.methodLink RX12 582 yX12_pointOf ∈ lw_good := (lw_in (tk_9 (List.mem_of_getElem? (i := 211) rfl)) rfl)
theorem l_X12_680 : Cond.methodLink RX12 680 yX12_originally ∈ lw_good := (lw_in (tk_9 (List.mem_of_getElem? (i := 215) rfl)) rfl)
theorem l_X12_520 : Cond.methodLink RX12 520 yX12_by ∈ lw_good := (lw_in (tk_9 (List.mem_of_getElem? (i := 219) rfl)) rfl)
theorem l_X12_720 : Cond.methodLink RX12 720 yX12_singled ∈ lw_good := (lw_in (tk_9 (List.mem_of_getElem? (i := 223) rfl)) rfl)
theorem l_X12_647 : Cond.methodLink RX12 647 yX12_rounded ∈ lw_good := (lw_in (tk_9 (List.mem_of_getElem? (i := 227) rfl)) rfl)
theorem l_X12_488 : Cond.methodLink RX12 488 yJ9_floorDiv_f86c9 ∈ lw_good := (lw_in (tk_9 (List.mem_of_getElem? (i := 231) rfl)) rfl)
theorem l_X12_723 : Cond.methodLink RX12 723 yX12_atLeast ∈ lw_good := (lw_in (tk_9 (List.mem_of_getElem? (i := 232) rfl)) rfl)
theorem l_X12_727 : Cond.methodLink RX12 727 yX12_settle ∈ lw_good := (lw_in (tk_9 (List.mem_of_getElem? (i := 236) rfl)) rfl)
theorem l_X12_627 : Cond.methodLink RX12 627 yX12_between ∈ lw_good := (lw_in (tk_10 (List.mem_of_getElem? (i := 0) rfl)) rfl)
theorem l_X12_630 : Cond.methodLink RX12 630 yX12_move ∈ lw_good := (lw_in (tk_10 (List.mem_of_getElem? (i := 4) rfl)) rfl)
theorem l_X12_529 : Cond.methodLink RX12 529 yX12_shiftBy ∈ lw_good := (lw_in (tk_10 (List.mem_of_getElem? (i := 8) rfl)) rfl)
theorem l_X12_526 : Cond.methodLink RX12 526 yX12_touch ∈ lw_good := (lw_in (tk_10 (List.mem_of_getElem? (i := 13) rfl)) rfl)
theorem l_X12_548 : Cond.methodLink RX12 548 yX12_indirect ∈ lw_good := (lw_in (tk_10 (List.mem_of_getElem? (i := 17) rfl)) rfl)
theorem l_X12_677 : Cond.methodLink RX12 677 yX12_cvtOf ∈ lw_good := (lw_in (tk_10 (List.mem_of_getElem? (i := 21) rfl)) rfl)
theorem l_X12_551 : Cond.methodLink RX12 551 yX12_pushBytes ∈ lw_good := (lw_in (tk_10 (List.mem_of_getElem? (i := 25) rfl)) rfl)
theorem l_X12_564 : Cond.methodLink RX12 564 yX12_push ∈ lw_good := (lw_in (tk_10 (List.mem_of_getElem? (i := 29) rfl)) rfl)
theorem l_X12_555 : Cond.methodLink RX12 555 yX12_low ∈ lw_good := (lw_in (tk_10 (List.mem_of_getElem? (i := 33) rfl)) rfl)
theorem l_X12_572 : Cond.methodLink RX12 572 yX12_setVectors ∈ lw_good := (lw_in (tk_10 (List.mem_of_getElem? (i := 37) rfl)) rfl)
theorem l_X12_586 : Cond.methodLink RX12 586 yX12_direction ∈ lw_good := (lw_in (tk_10 (List.mem_of_getElem? (i := 41) rfl)) rfl)
theorem l_X12_541 : Cond.methodLink RX12 541 yX12_part ∈ lw_good := (lw_in (tk_10 (List.mem_of_getElem? (i := 46) rfl)) rfl)
theorem l_X12_590 : Cond.methodLink RX12 590 yX12_setZone ∈ lw_good := (lw_in (tk_10 (List.mem_of_getElem? (i := 50) rfl)) rfl)
theorem l_X12_624 : Cond.methodLink RX12 624 yX12_isZone ∈ lw_good := (lw_in (tk_10 (List.mem_of_getElem? (i := 54) rfl)) rfl)
theorem l_X12_598 : Cond.methodLink RX12 598 yX12_pass ∈ lw_good := (lw_in (tk_10 (List.mem_of_getElem? (i := 59) rfl)) rfl)
theorem l_X12_511 : Cond.methodLink RX12 511 yX12_codeLength ∈ lw_good := (lw_in (tk_10 (List.mem_of_getElem? (i := 63) rfl)) rfl)
theorem l_X12_602 : Cond.methodLink RX12 602 yX12_jump ∈ lw_good := (lw_in (tk_10 (List.mem_of_getElem? (i := 67) rfl)) rfl)
theorem l_X12_618 : Cond.methodLink RX12 618 yX12_stacks ∈ lw_good := (lw_in (tk_10 (List.mem_of_getElem? (i := 71) rfl)) rfl)
theorem l_X12_634 : Cond.methodLink RX12 634 yX12_callFunction ∈ lw_good := (lw_in (tk_10 (List.mem_of_getElem? (i := 75) rfl)) rfl)
theorem l_X12_568 : Cond.methodLink RX12 568 yX12_call ∈ lw_good := (lw_in (tk_10 (List.mem_of_getElem? (i := 79) rfl)) rfl)
theorem l_X12_638 : Cond.methodLink RX12 638 yX12_defineFunction ∈ lw_good := (lw_in (tk_10 (List.mem_of_getElem? (i := 83) rfl)) rfl)
theorem l_X12_641 : Cond.methodLink RX12 641 yX12_endFunction ∈ lw_good := (lw_in (tk_10 (List.mem_of_getElem? (i := 87) rfl)) rfl)
theorem l_X12_644 : Cond.methodLink RX12 644 yX12_longOf ∈ lw_good := (lw_in (tk_10 (List.mem_of_getElem? (i := 91) rfl)) rfl)
theorem l_X12_650 : Cond.methodLink RX12 650 yX12_unknown ∈ lw_good := (lw_in (tk_10 (List.mem_of_getElem? (i := 95) rfl)) rfl)
theorem l_X12_558 : Cond.methodLink RX12 558 yX12_middle ∈ lw_good := (lw_in (tk_10 (List.mem_of_getElem? (i := 99) rfl)) rfl)
theorem l_X12_658 : Cond.methodLink RX12 658 yX12_followAll ∈ lw_good := (lw_in (tk_10 (List.mem_of_getElem? (i := 103) rfl)) rfl)
theorem l_X12_709 : Cond.methodLink RX12 709 yX12_follow ∈ lw_good := (lw_in (tk_10 (List.mem_of_getElem? (i := 107) rfl)) rfl)
theorem l_X12_662 : Cond.methodLink RX12 662 yX12_likeReference ∈ lw_good := (lw_in (tk_10 (List.mem_of_getElem? (i := 110) rfl)) rfl)
theorem l_X12_665 : Cond.methodLink RX12 665 yX12_loops ∈ lw_good := (lw_in (tk_10 (List.mem_of_getElem? (i := 114) rfl)) rfl)
theorem l_X12_713 : Cond.methodLink RX12 713 yX12_inBetween ∈ lw_good := (lw_in (tk_10 (List.mem_of_getElem? (i := 118) rfl)) rfl)
theorem l_X12_668 : Cond.methodLink RX12 668 yX12_toDistance ∈ lw_good := (lw_in (tk_10 (List.mem_of_getElem? (i := 122) rfl)) rfl)
theorem l_X12_671 : Cond.methodLink RX12 671 yX12_toCvt ∈ lw_good := (lw_in (tk_10 (List.mem_of_getElem? (i := 126) rfl)) rfl)
theorem l_X12_674 : Cond.methodLink RX12 674 yX12_setCvt ∈ lw_good := (lw_in (tk_10 (List.mem_of_getElem? (i := 130) rfl)) rfl)
theorem l_X12_687 : Cond.methodLink RX12 687 yX12_tests ∈ lw_good := (lw_in (tk_10 (List.mem_of_getElem? (i := 134) rfl)) rfl)
theorem l_X12_690 : Cond.methodLink RX12 690 yX12_one ∈ lw_good := (lw_in (tk_10 (List.mem_of_getElem? (i := 138) rfl)) rfl)
theorem l_X12_696 : Cond.methodLink RX12 696 yX12_deltas ∈ lw_good := (lw_in (tk_10 (List.mem_of_getElem? (i := 142) rfl)) rfl)
theorem l_X12_561 : Cond.methodLink RX12 561 yX12_high ∈ lw_good := (lw_in (tk_10 (List.mem_of_getElem? (i := 147) rfl)) rfl)
theorem l_X12_733 : Cond.methodLink RX12 733 yX12_ownRounding ∈ lw_good := (lw_in (tk_10 (List.mem_of_getElem? (i := 153) rfl)) rfl)
theorem l_X12_736 : Cond.methodLink RX12 736 yX12_more ∈ lw_good := (lw_in (tk_10 (List.mem_of_getElem? (i := 157) rfl)) rfl)
theorem l_X12_744 : Cond.methodLink RX12 744 yX12_defineOwn ∈ lw_good := (lw_in (tk_10 (List.mem_of_getElem? (i := 162) rfl)) rfl)
theorem l_X12_773 : Cond.methodLink RX12 773 yX12_failedNow ∈ lw_good := (lw_in (tk_10 (List.mem_of_getElem? (i := 167) rfl)) rfl)
theorem l_X12_776 : Cond.methodLink RX12 776 yX12_keep ∈ lw_good := (lw_in (tk_10 (List.mem_of_getElem? (i := 171) rfl)) rfl)
theorem l_L_59 : Cond.methodLink RL 59 yX12_make ∈ lw_good := (lw_in (tk_10 (List.mem_of_getElem? (i := 175) rfl)) rfl)
theorem l_X12_832 : Cond.methodLink RX12 832 yX12_makeIt ∈ lw_good := (lw_in (tk_10 (List.mem_of_getElem? (i := 179) rfl)) rfl)
theorem l_X12_810 : Cond.methodLink RX12 810 yX12_makeGlyph ∈ lw_good := (lw_in (tk_10 (List.mem_of_getElem? (i := 183) rfl)) rfl)
theorem l_X12_779 : Cond.methodLink RX12 779 yX12_leftOf ∈ lw_good := (lw_in (tk_10 (List.mem_of_getElem? (i := 187) rfl)) rfl)
theorem l_X12_363 : Cond.methodLink RX12 363 yX12_bytesOf ∈ lw_good := (lw_in (tk_10 (List.mem_of_getElem? (i := 191) rfl)) rfl)
theorem l_X12_274 : Cond.methodLink RX12 274 yX12_loca ∈ lw_good := (lw_in (tk_10 (List.mem_of_getElem? (i := 196) rfl)) rfl)
theorem l_X12_297 : Cond.methodLink RX12 297 yX12_u4 ∈ lw_good := (lw_in (tk_10 (List.mem_of_getElem? (i := 201) rfl)) rfl)
theorem l_X12_782 : Cond.methodLink RX12 782 yX12_bearingOf ∈ lw_good := (lw_in (tk_10 (List.mem_of_getElem? (i := 205) rfl)) rfl)
theorem l_X12_785 : Cond.methodLink RX12 785 yX12_advanceOf ∈ lw_good := (lw_in (tk_10 (List.mem_of_getElem? (i := 210) rfl)) rfl)
theorem l_X12_278 : Cond.methodLink RX12 278 yX12_isGlyph ∈ lw_good := (lw_in (tk_10 (List.mem_of_getElem? (i := 214) rfl)) rfl)
theorem l_X12_367 : Cond.methodLink RX12 367 yX12_simple ∈ lw_good := (lw_in (tk_10 (List.mem_of_getElem? (i := 219) rfl)) rfl)
theorem l_X12_373 : Cond.methodLink RX12 373 yX12_coordinates ∈ lw_good := (lw_in (tk_10 (List.mem_of_getElem? (i := 223) rfl)) rfl)
theorem l_X12_370 : Cond.methodLink RX12 370 yX12_composed ∈ lw_good := (lw_in (tk_10 (List.mem_of_getElem? (i := 227) rfl)) rfl)
theorem l_X12_377 : Cond.methodLink RX12 377 yX12_s1 ∈ lw_good := (lw_in (tk_10 (List.mem_of_getElem? (i := 231) rfl)) rfl)
theorem l_X12_788 : Cond.methodLink RX12 788 yX12_makePart ∈ lw_good := (lw_in (tk_10 (List.mem_of_getElem? (i := 235) rfl)) rfl)
theorem l_X12_795 : Cond.methodLink RX12 795 yX12_failOutside ∈ lw_good := (lw_in (tk_10 (List.mem_of_getElem? (i := 239) rfl)) rfl)
theorem l_X12_813 : Cond.methodLink RX12 813 yX12_toPixel ∈ lw_good := (lw_in (tk_11 (List.mem_of_getElem? (i := 3) rfl)) rfl)
theorem l_X12_804 : Cond.methodLink RX12 804 yX12_hint ∈ lw_good := (lw_in (tk_11 (List.mem_of_getElem? (i := 9) rfl)) rfl)
theorem l_X12_816 : Cond.methodLink RX12 816 yX12_bring ∈ lw_good := (lw_in (tk_11 (List.mem_of_getElem? (i := 13) rfl)) rfl)
theorem l_L_75 : Cond.methodLink RL 75 yX12_isIn ∈ lw_good := (lw_in (tk_11 (List.mem_of_getElem? (i := 19) rfl)) rfl)
theorem l_X12_875 : Cond.methodLink RX12 875 yX12_isInside ∈ lw_good := (lw_in (tk_11 (List.mem_of_getElem? (i := 25) rfl)) rfl)
theorem l_X12_867 : Cond.methodLink RX12 867 yX12_contour ∈ lw_good := (lw_in (tk_11 (List.mem_of_getElem? (i := 29) rfl)) rfl)
theorem l_X12_859 : Cond.methodLink RX12 859 yX12_node ∈ lw_good := (lw_in (tk_11 (List.mem_of_getElem? (i := 33) rfl)) rfl)
theorem l_X12_855 : Cond.methodLink RX12 855 yX12_straight ∈ lw_good := (lw_in (tk_11 (List.mem_of_getElem? (i := 37) rfl)) rfl)
theorem l_X12_838 : Cond.methodLink RX12 838 yX12_cross ∈ lw_good := (lw_in (tk_11 (List.mem_of_getElem? (i := 41) rfl)) rfl)
theorem l_X12_842 : Cond.methodLink RX12 842 yX12_between0 ∈ lw_good := (lw_in (tk_11 (List.mem_of_getElem? (i := 44) rfl)) rfl)
theorem l_X12_863 : Cond.methodLink RX12 863 yX12_curve ∈ lw_good := (lw_in (tk_11 (List.mem_of_getElem? (i := 47) rfl)) rfl)
theorem l_X12_852 : Cond.methodLink RX12 852 yX12_meetsZero ∈ lw_good := (lw_in (tk_11 (List.mem_of_getElem? (i := 51) rfl)) rfl)
theorem l_L_79 : Cond.methodLink RL 79 yX12_canvas ∈ lw_good := (lw_in (tk_11 (List.mem_of_getElem? (i := 54) rfl)) rfl)
theorem l_L_83 : Cond.methodLink RL 83 yX12_draw ∈ lw_good := (lw_in (tk_11 (List.mem_of_getElem? (i := 59) rfl)) rfl)
theorem l_X12_891 : Cond.methodLink RX12 891 yX12_drawIt ∈ lw_good := (lw_in (tk_11 (List.mem_of_getElem? (i := 65) rfl)) rfl)
theorem l_L_87 : Cond.methodLink RL 87 yX12_pixel ∈ lw_good := (lw_in (tk_11 (List.mem_of_getElem? (i := 69) rfl)) rfl)
theorem l_L_91 : Cond.methodLink RL 91 yX12_type ∈ lw_good := (lw_in (tk_11 (List.mem_of_getElem? (i := 73) rfl)) rfl)
theorem l_L_95 : Cond.methodLink RL 95 yX12_line ∈ lw_good := (lw_in (tk_11 (List.mem_of_getElem? (i := 78) rfl)) rfl)
theorem l_X12_902 : Cond.methodLink RX12 902 yX12_glyphAt ∈ lw_good := (lw_in (tk_11 (List.mem_of_getElem? (i := 82) rfl)) rfl)
theorem l_X12_899 : Cond.methodLink RX12 899 yX12_mapped ∈ lw_good := (lw_in (tk_11 (List.mem_of_getElem? (i := 86) rfl)) rfl)
theorem l_X12_905 : Cond.methodLink RX12 905 yX12_kernOf ∈ lw_good := (lw_in (tk_11 (List.mem_of_getElem? (i := 91) rfl)) rfl)
theorem l_L_19 : Cond.methodLink RL 19 yX12_feed ∈ lw_good := (lw_in (tk_11 (List.mem_of_getElem? (i := 98) rfl)) rfl)
theorem l_L_24 : Cond.methodLink RL 24 yX12_wipe ∈ lw_good := (lw_in (tk_11 (List.mem_of_getElem? (i := 103) rfl)) rfl)
theorem l_L_28 : Cond.methodLink RL 28 yX12_load ∈ lw_good := (lw_in (tk_11 (List.mem_of_getElem? (i := 107) rfl)) rfl)
theorem l_X12_913 : Cond.methodLink RX12 913 yX12_check ∈ lw_good := (lw_in (tk_11 (List.mem_of_getElem? (i := 111) rfl)) rfl)
theorem l_X12_222 : Cond.methodLink RX12 222 yX12_directory ∈ lw_good := (lw_in (tk_11 (List.mem_of_getElem? (i := 115) rfl)) rfl)
theorem l_X12_235 : Cond.methodLink RX12 235 yX12_sumOf ∈ lw_good := (lw_in (tk_11 (List.mem_of_getElem? (i := 123) rfl)) rfl)
theorem l_X12_245 : Cond.methodLink RX12 245 yX12_head ∈ lw_good := (lw_in (tk_11 (List.mem_of_getElem? (i := 130) rfl)) rfl)
theorem l_X12_248 : Cond.methodLink RX12 248 yX12_maxp ∈ lw_good := (lw_in (tk_11 (List.mem_of_getElem? (i := 136) rfl)) rfl)
theorem l_X12_267 : Cond.methodLink RX12 267 yX12_checkGlyphs ∈ lw_good := (lw_in (tk_11 (List.mem_of_getElem? (i := 142) rfl)) rfl)
theorem l_X12_282 : Cond.methodLink RX12 282 yX12_areWithin ∈ lw_good := (lw_in (tk_11 (List.mem_of_getElem? (i := 146) rfl)) rfl)
theorem l_X12_285 : Cond.methodLink RX12 285 yX12_map ∈ lw_good := (lw_in (tk_11 (List.mem_of_getElem? (i := 150) rfl)) rfl)
theorem l_X12_390 : Cond.methodLink RX12 390 yX12_setMany ∈ lw_good := (lw_in (tk_11 (List.mem_of_getElem? (i := 154) rfl)) rfl)
theorem l_X12_393 : Cond.methodLink RX12 393 yX12_segments ∈ lw_good := (lw_in (tk_11 (List.mem_of_getElem? (i := 158) rfl)) rfl)
theorem l_X12_396 : Cond.methodLink RX12 396 yX12_groups ∈ lw_good := (lw_in (tk_11 (List.mem_of_getElem? (i := 163) rfl)) rfl)
theorem l_X12_288 : Cond.methodLink RX12 288 yX12_kerns ∈ lw_good := (lw_in (tk_11 (List.mem_of_getElem? (i := 167) rfl)) rfl)
theorem l_L_33 : Cond.methodLink RL 33 yX12_font ∈ lw_good := (lw_in (tk_11 (List.mem_of_getElem? (i := 171) rfl)) rfl)
theorem l_L_38 : Cond.methodLink RL 38 yX12_table ∈ lw_good := (lw_in (tk_11 (List.mem_of_getElem? (i := 175) rfl)) rfl)
theorem l_L_42 : Cond.methodLink RL 42 yX12_glyphOf ∈ lw_good := (lw_in (tk_11 (List.mem_of_getElem? (i := 182) rfl)) rfl)
theorem l_L_47 : Cond.methodLink RL 47 yX12_glyph ∈ lw_good := (lw_in (tk_11 (List.mem_of_getElem? (i := 186) rfl)) rfl)
theorem l_L_51 : Cond.methodLink RL 51 yX12_kern ∈ lw_good := (lw_in (tk_11 (List.mem_of_getElem? (i := 190) rfl)) rfl)
theorem l_L_63 : Cond.methodLink RL 63 yX12_point ∈ lw_good := (lw_in (tk_11 (List.mem_of_getElem? (i := 194) rfl)) rfl)
theorem l_L_67 : Cond.methodLink RL 67 yX12_told ∈ lw_good := (lw_in (tk_11 (List.mem_of_getElem? (i := 198) rfl)) rfl)
theorem l_L_71 : Cond.methodLink RL 71 yX12_held ∈ lw_good := (lw_in (tk_11 (List.mem_of_getElem? (i := 202) rfl)) rfl)
theorem n_X11_15 : Cond.methodLinkNest RX11 15 yX2_init "HintHouse" ∈ lw_nest := List.mem_of_getElem? (i := 0) (by decide +kernel)
theorem n_X6_11 : Cond.methodLinkNest RX6 11 yX7_init "HintHouse" ∈ lw_nest := List.mem_of_getElem? (i := 3) (by decide +kernel)
theorem n_X6_29 : Cond.methodLinkNest RX6 29 yX10_init "HintHouse" ∈ lw_nest := List.mem_of_getElem? (i := 5) (by decide +kernel)
theorem n_X5_11 : Cond.methodLinkNest RX5 11 yX9_init "HintHouse" ∈ lw_nest := List.mem_of_getElem? (i := 6) (by decide +kernel)
theorem n_X5_20 : Cond.methodLinkNest RX5 20 yX0_init "HintHouse" ∈ lw_nest := List.mem_of_getElem? (i := 7) (by decide +kernel)
theorem n_X11_43 : Cond.methodLinkNest RX11 43 yX1_init "HintHouse" ∈ lw_nest := List.mem_of_getElem? (i := 8) (by decide +kernel)
theorem n_X7_60 : Cond.methodLinkNest RX7 60 yX11_nearest "HintHouse" ∈ lw_nest := List.mem_of_getElem? (i := 13) (by decide +kernel)
theorem n_X9_65 : Cond.methodLinkNest RX9 65 yX11_isBeyond "HintHouse" ∈ lw_nest := List.mem_of_getElem? (i := 16) (by decide +kernel)
theorem n_X5_75 : Cond.methodLinkNest RX5 75 yX11_nearest "HintHouse" ∈ lw_nest := List.mem_of_getElem? (i := 17) (by decide +kernel)
theorem n_X6_239 : Cond.methodLinkNest RX6 239 yX11_nearest "HintHouse" ∈ lw_nest := List.mem_of_getElem? (i := 18) (by decide +kernel)
theorem n_X6_255 : Cond.methodLinkNest RX6 255 yX11_toWholePixel "HintHouse" ∈ lw_nest := List.mem_of_getElem? (i := 19) (by decide +kernel)
theorem n_X8_65 : Cond.methodLinkNest RX8 65 yX11_isBeyond "HintHouse" ∈ lw_nest := List.mem_of_getElem? (i := 20) (by decide +kernel)
theorem n_X8_61 : Cond.methodLinkNest RX8 61 yX11_toWholePixel "HintHouse" ∈ lw_nest := List.mem_of_getElem? (i := 21) (by decide +kernel)
theorem n_X2_15 : Cond.fieldLinkNest RX2 15 "HintHouse" "TAGS" "[I" "HintHouse" ∈ lw_nest := List.mem_of_getElem? (i := 1) (by decide +kernel)
theorem n_X2_25 : Cond.fieldLinkNest RX2 25 "HintHouse" "LIMIT_PLACES" "[I" "HintHouse" ∈ lw_nest := List.mem_of_getElem? (i := 2) (by decide +kernel)
theorem n_X7_27 : Cond.fieldLinkNest RX7 27 "HintHouse" "KEPT_AT_FIRST" "[I" "HintHouse" ∈ lw_nest := List.mem_of_getElem? (i := 4) (by decide +kernel)
theorem n_X4_102 : Cond.fieldLinkNest RX4 102 "HintHouse" "TAGS" "[I" "HintHouse" ∈ lw_nest := List.mem_of_getElem? (i := 9) (by decide +kernel)
theorem n_X4_141 : Cond.fieldLinkNest RX4 141 "HintHouse" "LIMIT_PLACES" "[I" "HintHouse" ∈ lw_nest := List.mem_of_getElem? (i := 10) (by decide +kernel)
theorem n_X4_144 : Cond.fieldLinkNest RX4 144 "HintHouse" "LIMIT_LEASTS" "[I" "HintHouse" ∈ lw_nest := List.mem_of_getElem? (i := 11) (by decide +kernel)
theorem n_X4_147 : Cond.fieldLinkNest RX4 147 "HintHouse" "LIMIT_MOSTS" "[I" "HintHouse" ∈ lw_nest := List.mem_of_getElem? (i := 12) (by decide +kernel)
theorem n_X5_160 : Cond.fieldLinkNest RX5 160 "HintHouse" "TAKES" "[I" "HintHouse" ∈ lw_nest := List.mem_of_getElem? (i := 14) (by decide +kernel)
theorem n_X5_113 : Cond.fieldLinkNest RX5 113 "HintHouse" "GROUPS" "[I" "HintHouse" ∈ lw_nest := List.mem_of_getElem? (i := 15) (by decide +kernel)
theorem k_X4_197 : Cond.constant RX4 197 (65535 : Int32) ∈ lw_good := (lw_in (tk_4 (List.mem_of_getElem? (i := 134) rfl)) rfl)
theorem k_X11_111 : Cond.constant RX11 111 (1114111 : Int32) ∈ lw_good := (lw_in (tk_4 (List.mem_of_getElem? (i := 163) rfl)) rfl)
theorem k_X2_97 : Cond.constant RX2 97 (65535 : Int32) ∈ lw_good := (lw_in (tk_4 (List.mem_of_getElem? (i := 181) rfl)) rfl)
theorem k_X5_301 : Cond.constant RX5 301 (65535 : Int32) ∈ lw_good := (lw_in (tk_5 (List.mem_of_getElem? (i := 120) rfl)) rfl)
theorem k_X6_152 : Cond.constant RX6 152 (1000000 : Int32) ∈ lw_good := (lw_in (tk_7 (List.mem_of_getElem? (i := 20) rfl)) rfl)
theorem k_X11_267 : Cond.constant RX11 267 (-1000000 : Int32) ∈ lw_good := (lw_in (tk_7 (List.mem_of_getElem? (i := 153) rfl)) rfl)
theorem k_X11_268 : Cond.constant RX11 268 (-1000200 : Int32) ∈ lw_good := (lw_in (tk_7 (List.mem_of_getElem? (i := 154) rfl)) rfl)
theorem k_X12_291 : Cond.constant RX12 291 (1668707360 : Int32) ∈ lw_good := (lw_in (tk_9 (List.mem_of_getElem? (i := 134) rfl)) rfl)
theorem k_X12_292 : Cond.constant RX12 292 (1718642541 : Int32) ∈ lw_good := (lw_in (tk_9 (List.mem_of_getElem? (i := 169) rfl)) rfl)
theorem k_X12_293 : Cond.constant RX12 293 (1886545264 : Int32) ∈ lw_good := (lw_in (tk_9 (List.mem_of_getElem? (i := 170) rfl)) rfl)
theorem k_X12_240 : Cond.constant RX12 240 (1735162214 : Int32) ∈ lw_good := (lw_in (tk_10 (List.mem_of_getElem? (i := 195) rfl)) rfl)
theorem k_X12_243 : Cond.constant RX12 243 (1819239265 : Int32) ∈ lw_good := (lw_in (tk_10 (List.mem_of_getElem? (i := 200) rfl)) rfl)
theorem k_X12_242 : Cond.constant RX12 242 (1752003704 : Int32) ∈ lw_good := (lw_in (tk_10 (List.mem_of_getElem? (i := 209) rfl)) rfl)
theorem k_X12_404 : Cond.constant RX12 404 (65535 : Int32) ∈ lw_good := (lw_in (tk_11 (List.mem_of_getElem? (i := 90) rfl)) rfl)
theorem k_X12_408 : Cond.constant RX12 408 (1801810542 : Int32) ∈ lw_good := (lw_in (tk_11 (List.mem_of_getElem? (i := 95) rfl)) rfl)
theorem k_X12_908 : Cond.constant RX12 908 (-1000000 : Int32) ∈ lw_good := (lw_in (tk_11 (List.mem_of_getElem? (i := 96) rfl)) rfl)
theorem k_X12_909 : Cond.constant RX12 909 (-1000200 : Int32) ∈ lw_good := (lw_in (tk_11 (List.mem_of_getElem? (i := 97) rfl)) rfl)
theorem k_X12_234 : Cond.constant RX12 234 (1751474532 : Int32) ∈ lw_good := (lw_in (tk_11 (List.mem_of_getElem? (i := 122) rfl)) rfl)
theorem k_X12_239 : Cond.constant RX12 239 (1668112752 : Int32) ∈ lw_good := (lw_in (tk_11 (List.mem_of_getElem? (i := 127) rfl)) rfl)
theorem k_X12_241 : Cond.constant RX12 241 (1751672161 : Int32) ∈ lw_good := (lw_in (tk_11 (List.mem_of_getElem? (i := 128) rfl)) rfl)
theorem k_X12_244 : Cond.constant RX12 244 (1835104368 : Int32) ∈ lw_good := (lw_in (tk_11 (List.mem_of_getElem? (i := 129) rfl)) rfl)
theorem k_X12_312 : Cond.constant RX12 312 (-1313820742 : Int32) ∈ lw_good := (lw_in (tk_11 (List.mem_of_getElem? (i := 135) rfl)) rfl)
theorem k_X4_78 : Cond.constantLong RX4 78 (65536 : Int64) ∈ lw_good := (lw_in (tk_3 (List.mem_of_getElem? (i := 200) rfl)) rfl)
theorem k_X4_87 : Cond.constantLong RX4 87 (4 : Int64) ∈ lw_good := (lw_in (tk_3 (List.mem_of_getElem? (i := 213) rfl)) rfl)
theorem k_X4_113 : Cond.constantLong RX4 113 (4294967295 : Int64) ∈ lw_good := (lw_in (tk_3 (List.mem_of_getElem? (i := 237) rfl)) rfl)
theorem k_X4_134 : Cond.constantLong RX4 134 (1594834165 : Int64) ∈ lw_good := (lw_in (tk_4 (List.mem_of_getElem? (i := 14) rfl)) rfl)
theorem k_X4_136 : Cond.constantLong RX4 136 (2981146554 : Int64) ∈ lw_good := (lw_in (tk_4 (List.mem_of_getElem? (i := 15) rfl)) rfl)
theorem k_X4_156 : Cond.constantLong RX4 156 (2 : Int64) ∈ lw_good := (lw_in (tk_4 (List.mem_of_getElem? (i := 41) rfl)) rfl)
theorem k_X4_169 : Cond.constantLong RX4 169 (-1 : Int64) ∈ lw_good := (lw_in (tk_4 (List.mem_of_getElem? (i := 118) rfl)) rfl)
theorem k_X4_198 : Cond.constantLong RX4 198 (40 : Int64) ∈ lw_good := (lw_in (tk_4 (List.mem_of_getElem? (i := 127) rfl)) rfl)
theorem k_X4_200 : Cond.constantLong RX4 200 (16 : Int64) ∈ lw_good := (lw_in (tk_4 (List.mem_of_getElem? (i := 128) rfl)) rfl)
theorem k_X4_202 : Cond.constantLong RX4 202 (12 : Int64) ∈ lw_good := (lw_in (tk_4 (List.mem_of_getElem? (i := 129) rfl)) rfl)
theorem k_X11_101 : Cond.constantLong RX11 101 (-3 : Int64) ∈ lw_good := (lw_in (tk_4 (List.mem_of_getElem? (i := 155) rfl)) rfl)
theorem k_X11_103 : Cond.constantLong RX11 103 (-1 : Int64) ∈ lw_good := (lw_in (tk_4 (List.mem_of_getElem? (i := 156) rfl)) rfl)
theorem k_X11_105 : Cond.constantLong RX11 105 (-2 : Int64) ∈ lw_good := (lw_in (tk_4 (List.mem_of_getElem? (i := 157) rfl)) rfl)
theorem k_X7_55 : Cond.constantLong RX7 55 (64 : Int64) ∈ lw_good := (lw_in (tk_4 (List.mem_of_getElem? (i := 223) rfl)) rfl)
theorem k_X9_69 : Cond.constantLong RX9 69 (2 : Int64) ∈ lw_good := (lw_in (tk_5 (List.mem_of_getElem? (i := 80) rfl)) rfl)
theorem k_X9_75 : Cond.constantLong RX9 75 (32768 : Int64) ∈ lw_good := (lw_in (tk_5 (List.mem_of_getElem? (i := 84) rfl)) rfl)
theorem k_X5_68 : Cond.constantLong RX5 68 (64 : Int64) ∈ lw_good := (lw_in (tk_5 (List.mem_of_getElem? (i := 125) rfl)) rfl)
theorem k_X5_400 : Cond.constantLong RX5 400 (35 : Int64) ∈ lw_good := (lw_in (tk_6 (List.mem_of_getElem? (i := 8) rfl)) rfl)
theorem k_X5_417 : Cond.constantLong RX5 417 (127 : Int64) ∈ lw_good := (lw_in (tk_6 (List.mem_of_getElem? (i := 20) rfl)) rfl)
theorem k_X5_190 : Cond.constantLong RX5 190 (16384 : Int64) ∈ lw_good := (lw_in (tk_6 (List.mem_of_getElem? (i := 40) rfl)) rfl)
theorem k_X5_459 : Cond.constantLong RX5 459 (2 : Int64) ∈ lw_good := (lw_in (tk_6 (List.mem_of_getElem? (i := 41) rfl)) rfl)
theorem k_X5_216 : Cond.constantLong RX5 216 (-1024 : Int64) ∈ lw_good := (lw_in (tk_6 (List.mem_of_getElem? (i := 46) rfl)) rfl)
theorem k_X5_218 : Cond.constantLong RX5 218 (1024 : Int64) ∈ lw_good := (lw_in (tk_6 (List.mem_of_getElem? (i := 47) rfl)) rfl)
theorem k_X5_547 : Cond.constantLong RX5 547 (16 : Int64) ∈ lw_good := (lw_in (tk_6 (List.mem_of_getElem? (i := 167) rfl)) rfl)
theorem k_X5_549 : Cond.constantLong RX5 549 (32 : Int64) ∈ lw_good := (lw_in (tk_6 (List.mem_of_getElem? (i := 168) rfl)) rfl)
theorem k_X6_237 : Cond.constantLong RX6 237 (16384 : Int64) ∈ lw_good := (lw_in (tk_6 (List.mem_of_getElem? (i := 234) rfl)) rfl)
theorem k_X11_269 : Cond.constantLong RX11 269 (32 : Int64) ∈ lw_good := (lw_in (tk_7 (List.mem_of_getElem? (i := 3) rfl)) rfl)
theorem k_X11_271 : Cond.constantLong RX11 271 (64 : Int64) ∈ lw_good := (lw_in (tk_7 (List.mem_of_getElem? (i := 4) rfl)) rfl)
theorem k_X10_109 : Cond.constantLong RX10 109 (4 : Int64) ∈ lw_good := (lw_in (tk_7 (List.mem_of_getElem? (i := 110) rfl)) rfl)
theorem k_X12_228 : Cond.constantLong RX12 228 (4 : Int64) ∈ lw_good := (lw_in (tk_9 (List.mem_of_getElem? (i := 125) rfl)) rfl)
theorem k_X12_762 : Cond.constantLong RX12 762 (48 : Int64) ∈ lw_good := (lw_in (tk_9 (List.mem_of_getElem? (i := 126) rfl)) rfl)
theorem k_X12_338 : Cond.constantLong RX12 338 (64 : Int64) ∈ lw_good := (lw_in (tk_9 (List.mem_of_getElem? (i := 159) rfl)) rfl)
theorem k_X12_310 : Cond.constantLong RX12 310 (16384 : Int64) ∈ lw_good := (lw_in (tk_9 (List.mem_of_getElem? (i := 222) rfl)) rfl)
theorem k_X12_524 : Cond.constantLong RX12 524 (1024 : Int64) ∈ lw_good := (lw_in (tk_10 (List.mem_of_getElem? (i := 12) rfl)) rfl)
theorem k_X12_539 : Cond.constantLong RX12 539 (30000 : Int64) ∈ lw_good := (lw_in (tk_10 (List.mem_of_getElem? (i := 45) rfl)) rfl)
theorem k_X12_336 : Cond.constantLong RX12 336 (2 : Int64) ∈ lw_good := (lw_in (tk_10 (List.mem_of_getElem? (i := 49) rfl)) rfl)
theorem k_X12_593 : Cond.constantLong RX12 593 (65535 : Int64) ∈ lw_good := (lw_in (tk_10 (List.mem_of_getElem? (i := 58) rfl)) rfl)
theorem k_X12_694 : Cond.constantLong RX12 694 (127 : Int64) ∈ lw_good := (lw_in (tk_10 (List.mem_of_getElem? (i := 141) rfl)) rfl)
theorem k_X12_382 : Cond.constantLong RX12 382 (6 : Int64) ∈ lw_good := (lw_in (tk_10 (List.mem_of_getElem? (i := 146) rfl)) rfl)
theorem k_X12_204 : Cond.constantLong RX12 204 (-64 : Int64) ∈ lw_good := (lw_in (tk_10 (List.mem_of_getElem? (i := 151) rfl)) rfl)
theorem k_X12_731 : Cond.constantLong RX12 731 (63 : Int64) ∈ lw_good := (lw_in (tk_10 (List.mem_of_getElem? (i := 152) rfl)) rfl)
theorem k_X12_742 : Cond.constantLong RX12 742 (35 : Int64) ∈ lw_good := (lw_in (tk_10 (List.mem_of_getElem? (i := 161) rfl)) rfl)
theorem k_X12_653 : Cond.constantLong RX12 653 (255 : Int64) ∈ lw_good := (lw_in (tk_10 (List.mem_of_getElem? (i := 166) rfl)) rfl)
theorem k_X12_230 : Cond.constantLong RX12 230 (12 : Int64) ∈ lw_good := (lw_in (tk_10 (List.mem_of_getElem? (i := 218) rfl)) rfl)
theorem k_X12_202 : Cond.constantLong RX12 202 (32 : Int64) ∈ lw_good := (lw_in (tk_11 (List.mem_of_getElem? (i := 6) rfl)) rfl)
theorem k_X12_791 : Cond.constantLong RX12 791 (-1000000 : Int64) ∈ lw_good := (lw_in (tk_11 (List.mem_of_getElem? (i := 7) rfl)) rfl)
theorem k_X12_793 : Cond.constantLong RX12 793 (1000000 : Int64) ∈ lw_good := (lw_in (tk_11 (List.mem_of_getElem? (i := 8) rfl)) rfl)
theorem k_X12_819 : Cond.constantLong RX12 819 (-4096 : Int64) ∈ lw_good := (lw_in (tk_11 (List.mem_of_getElem? (i := 17) rfl)) rfl)
theorem k_X12_821 : Cond.constantLong RX12 821 (4096 : Int64) ∈ lw_good := (lw_in (tk_11 (List.mem_of_getElem? (i := 18) rfl)) rfl)
theorem k_X12_871 : Cond.constantLong RX12 871 (-5000 : Int64) ∈ lw_good := (lw_in (tk_11 (List.mem_of_getElem? (i := 23) rfl)) rfl)
theorem k_X12_873 : Cond.constantLong RX12 873 (5000 : Int64) ∈ lw_good := (lw_in (tk_11 (List.mem_of_getElem? (i := 24) rfl)) rfl)
theorem k_X12_879 : Cond.constantLong RX12 879 (128 : Int64) ∈ lw_good := (lw_in (tk_11 (List.mem_of_getElem? (i := 58) rfl)) rfl)
theorem k_X12_887 : Cond.constantLong RX12 887 (-20000 : Int64) ∈ lw_good := (lw_in (tk_11 (List.mem_of_getElem? (i := 63) rfl)) rfl)
theorem k_X12_889 : Cond.constantLong RX12 889 (20000 : Int64) ∈ lw_good := (lw_in (tk_11 (List.mem_of_getElem? (i := 64) rfl)) rfl)
theorem k_X12_894 : Cond.constantLong RX12 894 (1114111 : Int64) ∈ lw_good := (lw_in (tk_11 (List.mem_of_getElem? (i := 77) rfl)) rfl)
theorem k_X12_380 : Cond.constantLong RX12 380 (8 : Int64) ∈ lw_good := (lw_in (tk_11 (List.mem_of_getElem? (i := 102) rfl)) rfl)
theorem k_X12_300 : Cond.constantLong RX12 300 (65536 : Int64) ∈ lw_good := (lw_in (tk_11 (List.mem_of_getElem? (i := 119) rfl)) rfl)
theorem k_X12_232 : Cond.constantLong RX12 232 (16 : Int64) ∈ lw_good := (lw_in (tk_11 (List.mem_of_getElem? (i := 120) rfl)) rfl)
theorem k_X12_226 : Cond.constantLong RX12 226 (4294967295 : Int64) ∈ lw_good := (lw_in (tk_11 (List.mem_of_getElem? (i := 121) rfl)) rfl)
theorem k_X12_308 : Cond.constantLong RX12 308 (1594834165 : Int64) ∈ lw_good := (lw_in (tk_11 (List.mem_of_getElem? (i := 134) rfl)) rfl)
theorem k_X12_334 : Cond.constantLong RX12 334 (200 : Int64) ∈ lw_good := (lw_in (tk_11 (List.mem_of_getElem? (i := 140) rfl)) rfl)
theorem k_X12_340 : Cond.constantLong RX12 340 (256 : Int64) ∈ lw_good := (lw_in (tk_11 (List.mem_of_getElem? (i := 141) rfl)) rfl)
theorem k_X12_402 : Cond.constantLong RX12 402 (40 : Int64) ∈ lw_good := (lw_in (tk_11 (List.mem_of_getElem? (i := 162) rfl)) rfl)
theorem k_X12_916 : Cond.constantLong RX12 916 (-3 : Int64) ∈ lw_good := (lw_in (tk_11 (List.mem_of_getElem? (i := 179) rfl)) rfl)
theorem k_X12_918 : Cond.constantLong RX12 918 (-1 : Int64) ∈ lw_good := (lw_in (tk_11 (List.mem_of_getElem? (i := 180) rfl)) rfl)
theorem k_X12_920 : Cond.constantLong RX12 920 (-2 : Int64) ∈ lw_good := (lw_in (tk_11 (List.mem_of_getElem? (i := 181) rfl)) rfl)
theorem k_X12_922 : Cond.constantLong RX12 922 (5 : Int64) ∈ lw_good := (lw_in (tk_11 (List.mem_of_getElem? (i := 206) rfl)) rfl)
theorem k_L_13 : Cond.constantLong RL 13 (4294967295 : Int64) ∈ lw_good := (lw_in (tk_11 (List.mem_of_getElem? (i := 207) rfl)) rfl)
theorem c_L_7 : Cond.classLink RL 7 RX11 ∈ lw_good ∧ Cond.instantiable RX11 8 ∈ lw_good ∧ Cond.initialized RX11 ∈ lw_good := ⟨(lw_in (tk_1 (List.mem_of_getElem? (i := 17) rfl)) rfl), (lw_in (tk_1 (List.mem_of_getElem? (i := 18) rfl)) rfl), (lw_in (tk_1 (List.mem_of_getElem? (i := 1) rfl)) rfl)⟩
theorem c_X11_13 : Cond.classLink RX11 13 RX2 ∈ lw_good ∧ Cond.instantiable RX2 17 ∈ lw_good ∧ Cond.initialized RX2 ∈ lw_good := ⟨(lw_in (tk_1 (List.mem_of_getElem? (i := 25) rfl)) rfl), (lw_in (tk_1 (List.mem_of_getElem? (i := 26) rfl)) rfl), (lw_in (tk_1 (List.mem_of_getElem? (i := 2) rfl)) rfl)⟩
theorem c_X2_31 : Cond.classLink RX2 31 "[[I" ∈ lw_good := (lw_in (tk_1 (List.mem_of_getElem? (i := 35) rfl)) rfl)
theorem c_X11_20 : Cond.classLink RX11 20 RX3 ∈ lw_good ∧ Cond.instantiable RX3 15 ∈ lw_good ∧ Cond.initialized RX3 ∈ lw_good := ⟨(lw_in (tk_1 (List.mem_of_getElem? (i := 127) rfl)) rfl), (lw_in (tk_1 (List.mem_of_getElem? (i := 128) rfl)) rfl), (lw_in (tk_1 (List.mem_of_getElem? (i := 3) rfl)) rfl)⟩
theorem c_X3_9 : Cond.classLink RX3 9 RX8 ∈ lw_good ∧ Cond.instantiable RX8 12 ∈ lw_good ∧ Cond.initialized RX8 ∈ lw_good := ⟨(lw_in (tk_1 (List.mem_of_getElem? (i := 133) rfl)) rfl), (lw_in (tk_1 (List.mem_of_getElem? (i := 134) rfl)) rfl), (lw_in (tk_1 (List.mem_of_getElem? (i := 4) rfl)) rfl)⟩
theorem c_X11_25 : Cond.classLink RX11 25 RX4 ∈ lw_good ∧ Cond.instantiable RX4 2 ∈ lw_good ∧ Cond.initialized RX4 ∈ lw_good := ⟨(lw_in (tk_2 (List.mem_of_getElem? (i := 26) rfl)) rfl), (lw_in (tk_2 (List.mem_of_getElem? (i := 27) rfl)) rfl), (lw_in (tk_1 (List.mem_of_getElem? (i := 5) rfl)) rfl)⟩
theorem c_X11_34 : Cond.classLink RX11 34 RX6 ∈ lw_good ∧ Cond.instantiable RX6 13 ∈ lw_good ∧ Cond.initialized RX6 ∈ lw_good := ⟨(lw_in (tk_2 (List.mem_of_getElem? (i := 39) rfl)) rfl), (lw_in (tk_2 (List.mem_of_getElem? (i := 40) rfl)) rfl), (lw_in (tk_1 (List.mem_of_getElem? (i := 6) rfl)) rfl)⟩
theorem c_X6_9 : Cond.classLink RX6 9 RX7 ∈ lw_good ∧ Cond.instantiable RX7 6 ∈ lw_good ∧ Cond.initialized RX7 ∈ lw_good := ⟨(lw_in (tk_2 (List.mem_of_getElem? (i := 45) rfl)) rfl), (lw_in (tk_2 (List.mem_of_getElem? (i := 46) rfl)) rfl), (lw_in (tk_1 (List.mem_of_getElem? (i := 7) rfl)) rfl)⟩
theorem c_X7_18 : Cond.classLink RX7 18 RX8 ∈ lw_good ∧ Cond.instantiable RX8 12 ∈ lw_good ∧ Cond.initialized RX8 ∈ lw_good := ⟨(lw_in (tk_2 (List.mem_of_getElem? (i := 51) rfl)) rfl), (lw_in (tk_1 (List.mem_of_getElem? (i := 134) rfl)) rfl), (lw_in (tk_1 (List.mem_of_getElem? (i := 4) rfl)) rfl)⟩
theorem c_X6_21 : Cond.classLink RX6 21 RX8 ∈ lw_good ∧ Cond.instantiable RX8 12 ∈ lw_good ∧ Cond.initialized RX8 ∈ lw_good := ⟨(lw_in (tk_2 (List.mem_of_getElem? (i := 84) rfl)) rfl), (lw_in (tk_1 (List.mem_of_getElem? (i := 134) rfl)) rfl), (lw_in (tk_1 (List.mem_of_getElem? (i := 4) rfl)) rfl)⟩
theorem c_X6_27 : Cond.classLink RX6 27 RX10 ∈ lw_good ∧ Cond.instantiable RX10 13 ∈ lw_good ∧ Cond.initialized RX10 ∈ lw_good := ⟨(lw_in (tk_2 (List.mem_of_getElem? (i := 86) rfl)) rfl), (lw_in (tk_2 (List.mem_of_getElem? (i := 87) rfl)) rfl), (lw_in (tk_1 (List.mem_of_getElem? (i := 8) rfl)) rfl)⟩
theorem c_X6_42 : Cond.classLink RX6 42 RX5 ∈ lw_good ∧ Cond.instantiable RX5 17 ∈ lw_good ∧ Cond.initialized RX5 ∈ lw_good := ⟨(lw_in (tk_2 (List.mem_of_getElem? (i := 133) rfl)) rfl), (lw_in (tk_2 (List.mem_of_getElem? (i := 134) rfl)) rfl), (lw_in (tk_1 (List.mem_of_getElem? (i := 9) rfl)) rfl)⟩
theorem c_X5_9 : Cond.classLink RX5 9 RX9 ∈ lw_good ∧ Cond.instantiable RX9 14 ∈ lw_good ∧ Cond.initialized RX9 ∈ lw_good := ⟨(lw_in (tk_2 (List.mem_of_getElem? (i := 139) rfl)) rfl), (lw_in (tk_2 (List.mem_of_getElem? (i := 140) rfl)) rfl), (lw_in (tk_1 (List.mem_of_getElem? (i := 10) rfl)) rfl)⟩
theorem c_X5_18 : Cond.classLink RX5 18 RX0 ∈ lw_good ∧ Cond.instantiable RX0 10 ∈ lw_good ∧ Cond.initialized RX0 ∈ lw_good := ⟨(lw_in (tk_2 (List.mem_of_getElem? (i := 199) rfl)) rfl), (lw_in (tk_2 (List.mem_of_getElem? (i := 200) rfl)) rfl), (lw_in (tk_1 (List.mem_of_getElem? (i := 11) rfl)) rfl)⟩
theorem c_X5_25 : Cond.classLink RX5 25 RX8 ∈ lw_good ∧ Cond.instantiable RX8 12 ∈ lw_good ∧ Cond.initialized RX8 ∈ lw_good := ⟨(lw_in (tk_3 (List.mem_of_getElem? (i := 6) rfl)) rfl), (lw_in (tk_1 (List.mem_of_getElem? (i := 134) rfl)) rfl), (lw_in (tk_1 (List.mem_of_getElem? (i := 4) rfl)) rfl)⟩
theorem c_X11_41 : Cond.classLink RX11 41 RX1 ∈ lw_good ∧ Cond.instantiable RX1 3 ∈ lw_good ∧ Cond.initialized RX1 ∈ lw_good := ⟨(lw_in (tk_3 (List.mem_of_getElem? (i := 116) rfl)) rfl), (lw_in (tk_3 (List.mem_of_getElem? (i := 117) rfl)) rfl), (lw_in (tk_1 (List.mem_of_getElem? (i := 12) rfl)) rfl)⟩
theorem c_L_10 : Cond.classLink RL 10 RX12 ∈ lw_good ∧ Cond.instantiable RX12 146 ∈ lw_good ∧ Cond.initialized RX12 ∈ lw_good := ⟨(lw_in (tk_7 (List.mem_of_getElem? (i := 155) rfl)) rfl), (lw_in (tk_7 (List.mem_of_getElem? (i := 156) rfl)) rfl), (lw_in (tk_1 (List.mem_of_getElem? (i := 13) rfl)) rfl)⟩
theorem in_X11 : Cond.initialized RX11 ∈ lw_good := (lw_in (tk_1 (List.mem_of_getElem? (i := 1) rfl)) rfl)
theorem in_X0 : Cond.initialized RX0 ∈ lw_good := (lw_in (tk_1 (List.mem_of_getElem? (i := 11) rfl)) rfl)
theorem in_X1 : Cond.initialized RX1 ∈ lw_good := (lw_in (tk_1 (List.mem_of_getElem? (i := 12) rfl)) rfl)
theorem in_X2 : Cond.initialized RX2 ∈ lw_good := (lw_in (tk_1 (List.mem_of_getElem? (i := 2) rfl)) rfl)
theorem in_X3 : Cond.initialized RX3 ∈ lw_good := (lw_in (tk_1 (List.mem_of_getElem? (i := 3) rfl)) rfl)
theorem in_X4 : Cond.initialized RX4 ∈ lw_good := (lw_in (tk_1 (List.mem_of_getElem? (i := 5) rfl)) rfl)
theorem in_X5 : Cond.initialized RX5 ∈ lw_good := (lw_in (tk_1 (List.mem_of_getElem? (i := 9) rfl)) rfl)
theorem in_X6 : Cond.initialized RX6 ∈ lw_good := (lw_in (tk_1 (List.mem_of_getElem? (i := 6) rfl)) rfl)
theorem in_X7 : Cond.initialized RX7 ∈ lw_good := (lw_in (tk_1 (List.mem_of_getElem? (i := 7) rfl)) rfl)
theorem in_X8 : Cond.initialized RX8 ∈ lw_good := (lw_in (tk_1 (List.mem_of_getElem? (i := 4) rfl)) rfl)
theorem in_X9 : Cond.initialized RX9 ∈ lw_good := (lw_in (tk_1 (List.mem_of_getElem? (i := 10) rfl)) rfl)
theorem in_X10 : Cond.initialized RX10 ∈ lw_good := (lw_in (tk_1 (List.mem_of_getElem? (i := 8) rfl)) rfl)
theorem in_L : Cond.initialized RL ∈ lw_good := (lw_in (tk_1 (List.mem_of_getElem? (i := 0) rfl)) rfl)
theorem in_X12 : Cond.initialized RX12 ∈ lw_good := (lw_in (tk_1 (List.mem_of_getElem? (i := 13) rfl)) rfl)
theorem in_J9 : Cond.initialized RJ9 ∈ lw_good := (lw_in (tk_1 (List.mem_of_getElem? (i := 15) rfl)) rfl)
theorem in_J10 : Cond.initialized RJ10 ∈ lw_good := (lw_in (tk_1 (List.mem_of_getElem? (i := 14) rfl)) rfl)
theorem in_J7 : Cond.initialized RJ7 ∈ lw_good := (lw_in (tk_1 (List.mem_of_getElem? (i := 16) rfl)) rfl)
theorem ac_int : Cond.arrayClass .int ∈ lw_good := (lw_in (tk_1 (List.mem_of_getElem? (i := 126) rfl)) rfl)
theorem ac_byte : Cond.arrayClass .byte ∈ lw_good := (lw_in (tk_1 (List.mem_of_getElem? (i := 125) rfl)) rfl)
theorem ac_boolean : Cond.arrayClass .boolean ∈ lw_good := (lw_in (tk_2 (List.mem_of_getElem? (i := 132) rfl)) rfl)
theorem ac_long : Cond.arrayClass .long ∈ lw_good := (lw_in (tk_9 (List.mem_of_getElem? (i := 120) rfl)) rfl)
theorem cp_w : Cond.native arraycopyName ∈ lw_good ∧ Cond.static arraycopyName ∈ lw_good ∧ Cond.initialized "java/lang/System" ∈ lw_good := ⟨(lw_in (tk_3 (List.mem_of_getElem? (i := 182) rfl)) rfl), (lw_in (tk_3 (List.mem_of_getElem? (i := 181) rfl)) rfl), (lw_in (tk_1 (List.mem_of_getElem? (i := 14) rfl)) rfl)⟩
theorem oi_i : Cond.instanceMethod Lib.objectInit ∈ lw_good := (lw_in (tk_1 (List.mem_of_getElem? (i := 23) rfl)) rfl)
theorem oi_c : Cond.code Lib.objectInit ⟨#[0xb1]⟩ 1 none ∈ lw_good := (lw_in (tk_1 (List.mem_of_getElem? (i := 24) rfl)) rfl)
