-- ===== PART A: goes FIRST, ahead of the names: the tables' words, and 'selects' of the private methods out of them =====
theorem tk_1 {w : Cond} (h : w ∈ tables_1_1) : w ∈ tables_1 := List.mem_append_left _ h
theorem tk_2 {w : Cond} (h : w ∈ tables_1_2) : w ∈ tables_1 := List.mem_append_right _ (List.mem_append_left _ h)
theorem tk_3 {w : Cond} (h : w ∈ tables_1_3) : w ∈ tables_1 := List.mem_append_right _ (List.mem_append_right _ (List.mem_append_left _ h))
theorem tk_4 {w : Cond} (h : w ∈ tables_1_4) : w ∈ tables_1 := List.mem_append_right _ (List.mem_append_right _ (List.mem_append_right _ (List.mem_append_left _ h)))
theorem tk_5 {w : Cond} (h : w ∈ tables_1_5) : w ∈ tables_1 := List.mem_append_right _ (List.mem_append_right _ (List.mem_append_right _ (List.mem_append_right _ (List.mem_append_left _ h))))
theorem tk_6 {w : Cond} (h : w ∈ tables_1_6) : w ∈ tables_1 := List.mem_append_right _ (List.mem_append_right _ (List.mem_append_right _ (List.mem_append_right _ (List.mem_append_right _ (List.mem_append_left _ h)))))
theorem tk_7 {w : Cond} (h : w ∈ tables_1_7) : w ∈ tables_1 := List.mem_append_right _ (List.mem_append_right _ (List.mem_append_right _ (List.mem_append_right _ (List.mem_append_right _ (List.mem_append_right _ (List.mem_append_left _ h))))))
theorem tk_8 {w : Cond} (h : w ∈ tables_1_8) : w ∈ tables_1 := List.mem_append_right _ (List.mem_append_right _ (List.mem_append_right _ (List.mem_append_right _ (List.mem_append_right _ (List.mem_append_right _ (List.mem_append_right _ (List.mem_append_left _ h)))))))
theorem tk_9 {w : Cond} (h : w ∈ tables_1_9) : w ∈ tables_1 := List.mem_append_right _ (List.mem_append_right _ (List.mem_append_right _ (List.mem_append_right _ (List.mem_append_right _ (List.mem_append_right _ (List.mem_append_right _ (List.mem_append_right _ (List.mem_append_left _ h))))))))
theorem tk_10 {w : Cond} (h : w ∈ tables_1_10) : w ∈ tables_1 := List.mem_append_right _ (List.mem_append_right _ (List.mem_append_right _ (List.mem_append_right _ (List.mem_append_right _ (List.mem_append_right _ (List.mem_append_right _ (List.mem_append_right _ (List.mem_append_right _ (List.mem_append_left _ h)))))))))
theorem tk_11 {w : Cond} (h : w ∈ tables_1_11) : w ∈ tables_1 := List.mem_append_right _ (List.mem_append_right _ (List.mem_append_right _ (List.mem_append_right _ (List.mem_append_right _ (List.mem_append_right _ (List.mem_append_right _ (List.mem_append_right _ (List.mem_append_right _ (List.mem_append_right _ (h))))))))))
/-- a private method of a class that the tables say can be made, by its rows of tables_1 -/
def lw_okq (q : MethodName × Nat) : Prop := (q.1.cls ≠ "java/lang/invoke/MethodHandle" ∧ q.1.cls ≠ "java/lang/invoke/VarHandle") ∧ Cond.instantiable q.1.cls q.2 ∈ tables_1 ∧ Cond.privateMethod q.1 ∈ tables_1 ∧ Cond.instanceMethod q.1 ∈ tables_1
theorem lw_p0 : lw_okq (⟨"HintHouse$Loader", "directoryHolds", "()Z"⟩, 2) := ⟨⟨by decide +kernel, by decide +kernel⟩, (tk_2 (List.mem_of_getElem? (i := 27) rfl)), (tk_3 (List.mem_of_getElem? (i := 188) rfl)), (tk_3 (List.mem_of_getElem? (i := 189) rfl))⟩
theorem lw_p1 : lw_okq (⟨"HintHouse$Loader", "tagsRise", "()Z"⟩, 2) := ⟨⟨by decide +kernel, by decide +kernel⟩, (tk_2 (List.mem_of_getElem? (i := 27) rfl)), (tk_3 (List.mem_of_getElem? (i := 202) rfl)), (tk_3 (List.mem_of_getElem? (i := 203) rfl))⟩
theorem lw_p2 : lw_okq (⟨"HintHouse$Loader", "entry", "(II)J"⟩, 2) := ⟨⟨by decide +kernel, by decide +kernel⟩, (tk_2 (List.mem_of_getElem? (i := 27) rfl)), (tk_3 (List.mem_of_getElem? (i := 206) rfl)), (tk_3 (List.mem_of_getElem? (i := 207) rfl))⟩
theorem lw_p3 : lw_okq (⟨"HintHouse$Loader", "tablesLieRight", "()Z"⟩, 2) := ⟨⟨by decide +kernel, by decide +kernel⟩, (tk_2 (List.mem_of_getElem? (i := 27) rfl)), (tk_3 (List.mem_of_getElem? (i := 210) rfl)), (tk_3 (List.mem_of_getElem? (i := 211) rfl))⟩
theorem lw_p4 : lw_okq (⟨"HintHouse$Loader", "shareBytes", "(II)Z"⟩, 2) := ⟨⟨by decide +kernel, by decide +kernel⟩, (tk_2 (List.mem_of_getElem? (i := 27) rfl)), (tk_3 (List.mem_of_getElem? (i := 215) rfl)), (tk_3 (List.mem_of_getElem? (i := 216) rfl))⟩
theorem lw_p5 : lw_okq (⟨"HintHouse$Loader", "sumsHold", "()Z"⟩, 2) := ⟨⟨by decide +kernel, by decide +kernel⟩, (tk_2 (List.mem_of_getElem? (i := 27) rfl)), (tk_3 (List.mem_of_getElem? (i := 225) rfl)), (tk_3 (List.mem_of_getElem? (i := 226) rfl))⟩
theorem lw_p6 : lw_okq (⟨"HintHouse$Loader", "sumOf", "(IIZ)J"⟩, 2) := ⟨⟨by decide +kernel, by decide +kernel⟩, (tk_2 (List.mem_of_getElem? (i := 27) rfl)), (tk_3 (List.mem_of_getElem? (i := 230) rfl)), (tk_3 (List.mem_of_getElem? (i := 231) rfl))⟩
theorem lw_p7 : lw_okq (⟨"HintHouse$Loader", "findTables", "()Z"⟩, 2) := ⟨⟨by decide +kernel, by decide +kernel⟩, (tk_2 (List.mem_of_getElem? (i := 27) rfl)), (tk_3 (List.mem_of_getElem? (i := 239) rfl)), (tk_4 (List.mem_of_getElem? (i := 0) rfl))⟩
theorem lw_p8 : lw_okq (⟨"HintHouse$Loader", "headHolds", "()Z"⟩, 2) := ⟨⟨by decide +kernel, by decide +kernel⟩, (tk_2 (List.mem_of_getElem? (i := 27) rfl)), (tk_4 (List.mem_of_getElem? (i := 7) rfl)), (tk_4 (List.mem_of_getElem? (i := 8) rfl))⟩
theorem lw_p9 : lw_okq (⟨"HintHouse$Loader", "maxpHolds", "()Z"⟩, 2) := ⟨⟨by decide +kernel, by decide +kernel⟩, (tk_2 (List.mem_of_getElem? (i := 27) rfl)), (tk_4 (List.mem_of_getElem? (i := 17) rfl)), (tk_4 (List.mem_of_getElem? (i := 18) rfl))⟩
theorem lw_p10 : lw_okq (⟨"HintHouse$Loader", "hheaHolds", "()Z"⟩, 2) := ⟨⟨by decide +kernel, by decide +kernel⟩, (tk_2 (List.mem_of_getElem? (i := 27) rfl)), (tk_4 (List.mem_of_getElem? (i := 26) rfl)), (tk_4 (List.mem_of_getElem? (i := 27) rfl))⟩
theorem lw_p11 : lw_okq (⟨"HintHouse$Loader", "hmtxHolds", "()Z"⟩, 2) := ⟨⟨by decide +kernel, by decide +kernel⟩, (tk_2 (List.mem_of_getElem? (i := 27) rfl)), (tk_4 (List.mem_of_getElem? (i := 30) rfl)), (tk_4 (List.mem_of_getElem? (i := 31) rfl))⟩
theorem lw_p12 : lw_okq (⟨"HintHouse$Loader", "locaHolds", "()Z"⟩, 2) := ⟨⟨by decide +kernel, by decide +kernel⟩, (tk_2 (List.mem_of_getElem? (i := 27) rfl)), (tk_4 (List.mem_of_getElem? (i := 34) rfl)), (tk_4 (List.mem_of_getElem? (i := 35) rfl))⟩
theorem lw_p13 : lw_okq (⟨"HintHouse$Loader", "placeInGlyf", "(I)J"⟩, 2) := ⟨⟨by decide +kernel, by decide +kernel⟩, (tk_2 (List.mem_of_getElem? (i := 27) rfl)), (tk_4 (List.mem_of_getElem? (i := 38) rfl)), (tk_4 (List.mem_of_getElem? (i := 39) rfl))⟩
theorem lw_p14 : lw_okq (⟨"HintHouse$GlyphReader", "glyphHolds", "(I)Z"⟩, 15) := ⟨⟨by decide +kernel, by decide +kernel⟩, (tk_1 (List.mem_of_getElem? (i := 128) rfl)), (tk_4 (List.mem_of_getElem? (i := 47) rfl)), (tk_4 (List.mem_of_getElem? (i := 48) rfl))⟩
theorem lw_p15 : lw_okq (⟨"HintHouse$GlyphReader", "partsHold", "(I)Z"⟩, 15) := ⟨⟨by decide +kernel, by decide +kernel⟩, (tk_1 (List.mem_of_getElem? (i := 128) rfl)), (tk_4 (List.mem_of_getElem? (i := 52) rfl)), (tk_4 (List.mem_of_getElem? (i := 53) rfl))⟩
def lw_privs_1 : List (MethodName × Nat) := [(⟨"HintHouse$Loader", "directoryHolds", "()Z"⟩, 2), (⟨"HintHouse$Loader", "tagsRise", "()Z"⟩, 2), (⟨"HintHouse$Loader", "entry", "(II)J"⟩, 2), (⟨"HintHouse$Loader", "tablesLieRight", "()Z"⟩, 2), (⟨"HintHouse$Loader", "shareBytes", "(II)Z"⟩, 2), (⟨"HintHouse$Loader", "sumsHold", "()Z"⟩, 2), (⟨"HintHouse$Loader", "sumOf", "(IIZ)J"⟩, 2), (⟨"HintHouse$Loader", "findTables", "()Z"⟩, 2), (⟨"HintHouse$Loader", "headHolds", "()Z"⟩, 2), (⟨"HintHouse$Loader", "maxpHolds", "()Z"⟩, 2), (⟨"HintHouse$Loader", "hheaHolds", "()Z"⟩, 2), (⟨"HintHouse$Loader", "hmtxHolds", "()Z"⟩, 2), (⟨"HintHouse$Loader", "locaHolds", "()Z"⟩, 2), (⟨"HintHouse$Loader", "placeInGlyf", "(I)J"⟩, 2), (⟨"HintHouse$GlyphReader", "glyphHolds", "(I)Z"⟩, 15), (⟨"HintHouse$GlyphReader", "partsHold", "(I)Z"⟩, 15)]
theorem lw_r1 : ∀ q ∈ lw_privs_1, lw_okq q := List.forall_mem_cons.mpr ⟨lw_p0, List.forall_mem_cons.mpr ⟨lw_p1, List.forall_mem_cons.mpr ⟨lw_p2, List.forall_mem_cons.mpr ⟨lw_p3, List.forall_mem_cons.mpr ⟨lw_p4, List.forall_mem_cons.mpr ⟨lw_p5, List.forall_mem_cons.mpr ⟨lw_p6, List.forall_mem_cons.mpr ⟨lw_p7, List.forall_mem_cons.mpr ⟨lw_p8, List.forall_mem_cons.mpr ⟨lw_p9, List.forall_mem_cons.mpr ⟨lw_p10, List.forall_mem_cons.mpr ⟨lw_p11, List.forall_mem_cons.mpr ⟨lw_p12, List.forall_mem_cons.mpr ⟨lw_p13, List.forall_mem_cons.mpr ⟨lw_p14, List.forall_mem_cons.mpr ⟨lw_p15, fun _ h => absurd h List.not_mem_nil⟩⟩⟩⟩⟩⟩⟩⟩⟩⟩⟩⟩⟩⟩⟩⟩
theorem lw_p16 : lw_okq (⟨"HintHouse$GlyphReader", "goTo", "(I)V"⟩, 15) := ⟨⟨by decide +kernel, by decide +kernel⟩, (tk_1 (List.mem_of_getElem? (i := 128) rfl)), (tk_4 (List.mem_of_getElem? (i := 56) rfl)), (tk_4 (List.mem_of_getElem? (i := 57) rfl))⟩
theorem lw_p17 : lw_okq (⟨"HintHouse$GlyphReader", "takePart", "()V"⟩, 15) := ⟨⟨by decide +kernel, by decide +kernel⟩, (tk_1 (List.mem_of_getElem? (i := 128) rfl)), (tk_4 (List.mem_of_getElem? (i := 60) rfl)), (tk_4 (List.mem_of_getElem? (i := 61) rfl))⟩
theorem lw_p18 : lw_okq (⟨"HintHouse$GlyphReader", "takeU2", "()I"⟩, 15) := ⟨⟨by decide +kernel, by decide +kernel⟩, (tk_1 (List.mem_of_getElem? (i := 128) rfl)), (tk_4 (List.mem_of_getElem? (i := 64) rfl)), (tk_4 (List.mem_of_getElem? (i := 65) rfl))⟩
theorem lw_p19 : lw_okq (⟨"HintHouse$GlyphReader", "takeU1", "()I"⟩, 15) := ⟨⟨by decide +kernel, by decide +kernel⟩, (tk_1 (List.mem_of_getElem? (i := 128) rfl)), (tk_4 (List.mem_of_getElem? (i := 69) rfl)), (tk_4 (List.mem_of_getElem? (i := 70) rfl))⟩
theorem lw_p20 : lw_okq (⟨"HintHouse$GlyphReader", "takeS2", "()I"⟩, 15) := ⟨⟨by decide +kernel, by decide +kernel⟩, (tk_1 (List.mem_of_getElem? (i := 128) rfl)), (tk_4 (List.mem_of_getElem? (i := 74) rfl)), (tk_4 (List.mem_of_getElem? (i := 75) rfl))⟩
theorem lw_p21 : lw_okq (⟨"HintHouse$GlyphReader", "takeProgram", "(I)Z"⟩, 15) := ⟨⟨by decide +kernel, by decide +kernel⟩, (tk_1 (List.mem_of_getElem? (i := 128) rfl)), (tk_4 (List.mem_of_getElem? (i := 78) rfl)), (tk_4 (List.mem_of_getElem? (i := 79) rfl))⟩
theorem lw_p22 : lw_okq (⟨"HintHouse$GlyphReader", "takeFlags", "(I)Z"⟩, 15) := ⟨⟨by decide +kernel, by decide +kernel⟩, (tk_1 (List.mem_of_getElem? (i := 128) rfl)), (tk_4 (List.mem_of_getElem? (i := 92) rfl)), (tk_4 (List.mem_of_getElem? (i := 93) rfl))⟩
theorem lw_p23 : lw_okq (⟨"HintHouse$GlyphReader", "takePlaces", "([IIII)V"⟩, 15) := ⟨⟨by decide +kernel, by decide +kernel⟩, (tk_1 (List.mem_of_getElem? (i := 128) rfl)), (tk_4 (List.mem_of_getElem? (i := 96) rfl)), (tk_4 (List.mem_of_getElem? (i := 97) rfl))⟩
theorem lw_p24 : lw_okq (⟨"HintHouse$GlyphReader", "depthsHold", "()Z"⟩, 15) := ⟨⟨by decide +kernel, by decide +kernel⟩, (tk_1 (List.mem_of_getElem? (i := 128) rfl)), (tk_4 (List.mem_of_getElem? (i := 100) rfl)), (tk_4 (List.mem_of_getElem? (i := 101) rfl))⟩
theorem lw_p25 : lw_okq (⟨"HintHouse$GlyphReader", "deepestPart", "(I)I"⟩, 15) := ⟨⟨by decide +kernel, by decide +kernel⟩, (tk_1 (List.mem_of_getElem? (i := 128) rfl)), (tk_4 (List.mem_of_getElem? (i := 107) rfl)), (tk_4 (List.mem_of_getElem? (i := 108) rfl))⟩
theorem lw_p26 : lw_okq (⟨"HintHouse$Loader", "cmapHolds", "()Z"⟩, 2) := ⟨⟨by decide +kernel, by decide +kernel⟩, (tk_2 (List.mem_of_getElem? (i := 27) rfl)), (tk_4 (List.mem_of_getElem? (i := 111) rfl)), (tk_4 (List.mem_of_getElem? (i := 112) rfl))⟩
theorem lw_p27 : lw_okq (⟨"HintHouse$Loader", "mapPlace", "(III)J"⟩, 2) := ⟨⟨by decide +kernel, by decide +kernel⟩, (tk_2 (List.mem_of_getElem? (i := 27) rfl)), (tk_4 (List.mem_of_getElem? (i := 115) rfl)), (tk_4 (List.mem_of_getElem? (i := 116) rfl))⟩
theorem lw_p28 : lw_okq (⟨"HintHouse$Loader", "groupsHold", "(J)Z"⟩, 2) := ⟨⟨by decide +kernel, by decide +kernel⟩, (tk_2 (List.mem_of_getElem? (i := 27) rfl)), (tk_4 (List.mem_of_getElem? (i := 120) rfl)), (tk_4 (List.mem_of_getElem? (i := 121) rfl))⟩
theorem lw_p29 : lw_okq (⟨"HintHouse$Loader", "noteMap", "(JII)Z"⟩, 2) := ⟨⟨by decide +kernel, by decide +kernel⟩, (tk_2 (List.mem_of_getElem? (i := 27) rfl)), (tk_4 (List.mem_of_getElem? (i := 124) rfl)), (tk_4 (List.mem_of_getElem? (i := 125) rfl))⟩
theorem lw_p30 : lw_okq (⟨"HintHouse$Loader", "segmentsHold", "(J)Z"⟩, 2) := ⟨⟨by decide +kernel, by decide +kernel⟩, (tk_2 (List.mem_of_getElem? (i := 27) rfl)), (tk_4 (List.mem_of_getElem? (i := 131) rfl)), (tk_4 (List.mem_of_getElem? (i := 132) rfl))⟩
theorem lw_p31 : lw_okq (⟨"HintHouse$Loader", "byteMapHolds", "(J)Z"⟩, 2) := ⟨⟨by decide +kernel, by decide +kernel⟩, (tk_2 (List.mem_of_getElem? (i := 27) rfl)), (tk_4 (List.mem_of_getElem? (i := 136) rfl)), (tk_4 (List.mem_of_getElem? (i := 137) rfl))⟩
def lw_privs_2 : List (MethodName × Nat) := [(⟨"HintHouse$GlyphReader", "goTo", "(I)V"⟩, 15), (⟨"HintHouse$GlyphReader", "takePart", "()V"⟩, 15), (⟨"HintHouse$GlyphReader", "takeU2", "()I"⟩, 15), (⟨"HintHouse$GlyphReader", "takeU1", "()I"⟩, 15), (⟨"HintHouse$GlyphReader", "takeS2", "()I"⟩, 15), (⟨"HintHouse$GlyphReader", "takeProgram", "(I)Z"⟩, 15), (⟨"HintHouse$GlyphReader", "takeFlags", "(I)Z"⟩, 15), (⟨"HintHouse$GlyphReader", "takePlaces", "([IIII)V"⟩, 15), (⟨"HintHouse$GlyphReader", "depthsHold", "()Z"⟩, 15), (⟨"HintHouse$GlyphReader", "deepestPart", "(I)I"⟩, 15), (⟨"HintHouse$Loader", "cmapHolds", "()Z"⟩, 2), (⟨"HintHouse$Loader", "mapPlace", "(III)J"⟩, 2), (⟨"HintHouse$Loader", "groupsHold", "(J)Z"⟩, 2), (⟨"HintHouse$Loader", "noteMap", "(JII)Z"⟩, 2), (⟨"HintHouse$Loader", "segmentsHold", "(J)Z"⟩, 2), (⟨"HintHouse$Loader", "byteMapHolds", "(J)Z"⟩, 2)]
theorem lw_r2 : ∀ q ∈ lw_privs_2, lw_okq q := List.forall_mem_cons.mpr ⟨lw_p16, List.forall_mem_cons.mpr ⟨lw_p17, List.forall_mem_cons.mpr ⟨lw_p18, List.forall_mem_cons.mpr ⟨lw_p19, List.forall_mem_cons.mpr ⟨lw_p20, List.forall_mem_cons.mpr ⟨lw_p21, List.forall_mem_cons.mpr ⟨lw_p22, List.forall_mem_cons.mpr ⟨lw_p23, List.forall_mem_cons.mpr ⟨lw_p24, List.forall_mem_cons.mpr ⟨lw_p25, List.forall_mem_cons.mpr ⟨lw_p26, List.forall_mem_cons.mpr ⟨lw_p27, List.forall_mem_cons.mpr ⟨lw_p28, List.forall_mem_cons.mpr ⟨lw_p29, List.forall_mem_cons.mpr ⟨lw_p30, List.forall_mem_cons.mpr ⟨lw_p31, fun _ h => absurd h List.not_mem_nil⟩⟩⟩⟩⟩⟩⟩⟩⟩⟩⟩⟩⟩⟩⟩⟩
theorem lw_p32 : lw_okq (⟨"HintHouse$Loader", "kernHolds", "()Z"⟩, 2) := ⟨⟨by decide +kernel, by decide +kernel⟩, (tk_2 (List.mem_of_getElem? (i := 27) rfl)), (tk_4 (List.mem_of_getElem? (i := 140) rfl)), (tk_4 (List.mem_of_getElem? (i := 141) rfl))⟩
theorem lw_p33 : lw_okq (⟨"HintHouse$Loader", "programsHold", "()Z"⟩, 2) := ⟨⟨by decide +kernel, by decide +kernel⟩, (tk_2 (List.mem_of_getElem? (i := 27) rfl)), (tk_4 (List.mem_of_getElem? (i := 144) rfl)), (tk_4 (List.mem_of_getElem? (i := 145) rfl))⟩
theorem lw_p34 : lw_okq (⟨"HintHouse$Font", "findInGroups", "(I)J"⟩, 17) := ⟨⟨by decide +kernel, by decide +kernel⟩, (tk_1 (List.mem_of_getElem? (i := 26) rfl)), (tk_4 (List.mem_of_getElem? (i := 169) rfl)), (tk_4 (List.mem_of_getElem? (i := 170) rfl))⟩
theorem lw_p35 : lw_okq (⟨"HintHouse$Font", "findInSegments", "(I)I"⟩, 17) := ⟨⟨by decide +kernel, by decide +kernel⟩, (tk_1 (List.mem_of_getElem? (i := 26) rfl)), (tk_4 (List.mem_of_getElem? (i := 174) rfl)), (tk_4 (List.mem_of_getElem? (i := 175) rfl))⟩
theorem lw_p36 : lw_okq (⟨"HintHouse$Font", "findInSegment", "(II)I"⟩, 17) := ⟨⟨by decide +kernel, by decide +kernel⟩, (tk_1 (List.mem_of_getElem? (i := 26) rfl)), (tk_4 (List.mem_of_getElem? (i := 178) rfl)), (tk_4 (List.mem_of_getElem? (i := 179) rfl))⟩
theorem lw_p37 : lw_okq (⟨"HintHouse$Machine", "isAtEnd", "()Z"⟩, 17) := ⟨⟨by decide +kernel, by decide +kernel⟩, (tk_2 (List.mem_of_getElem? (i := 134) rfl)), (tk_5 (List.mem_of_getElem? (i := 37) rfl)), (tk_5 (List.mem_of_getElem? (i := 38) rfl))⟩
theorem lw_p38 : lw_okq (⟨"HintHouse$Machine", "beginStep", "()I"⟩, 17) := ⟨⟨by decide +kernel, by decide +kernel⟩, (tk_2 (List.mem_of_getElem? (i := 134) rfl)), (tk_5 (List.mem_of_getElem? (i := 41) rfl)), (tk_5 (List.mem_of_getElem? (i := 42) rfl))⟩
theorem lw_p39 : lw_okq (⟨"HintHouse$Machine", "vectorCodes", "(I)V"⟩, 17) := ⟨⟨by decide +kernel, by decide +kernel⟩, (tk_2 (List.mem_of_getElem? (i := 134) rfl)), (tk_5 (List.mem_of_getElem? (i := 50) rfl)), (tk_5 (List.mem_of_getElem? (i := 51) rfl))⟩
theorem lw_p40 : lw_okq (⟨"HintHouse$Machine", "goAlongLine", "(I)V"⟩, 17) := ⟨⟨by decide +kernel, by decide +kernel⟩, (tk_2 (List.mem_of_getElem? (i := 134) rfl)), (tk_5 (List.mem_of_getElem? (i := 54) rfl)), (tk_5 (List.mem_of_getElem? (i := 55) rfl))⟩
theorem lw_p41 : lw_okq (⟨"HintHouse$Machine", "pop", "()I"⟩, 17) := ⟨⟨by decide +kernel, by decide +kernel⟩, (tk_2 (List.mem_of_getElem? (i := 134) rfl)), (tk_5 (List.mem_of_getElem? (i := 58) rfl)), (tk_5 (List.mem_of_getElem? (i := 59) rfl))⟩
theorem lw_p42 : lw_okq (⟨"HintHouse$Machine", "zone", "(I)LHintHouse$Points;"⟩, 17) := ⟨⟨by decide +kernel, by decide +kernel⟩, (tk_2 (List.mem_of_getElem? (i := 134) rfl)), (tk_5 (List.mem_of_getElem? (i := 62) rfl)), (tk_5 (List.mem_of_getElem? (i := 63) rfl))⟩
theorem lw_p43 : lw_okq (⟨"HintHouse$Machine", "isThere", "(LHintHouse$Points;I)Z"⟩, 17) := ⟨⟨by decide +kernel, by decide +kernel⟩, (tk_2 (List.mem_of_getElem? (i := 134) rfl)), (tk_5 (List.mem_of_getElem? (i := 66) rfl)), (tk_5 (List.mem_of_getElem? (i := 67) rfl))⟩
theorem lw_p44 : lw_okq (⟨"HintHouse$Machine", "goAlongNumbers", "(I)V"⟩, 17) := ⟨⟨by decide +kernel, by decide +kernel⟩, (tk_2 (List.mem_of_getElem? (i := 134) rfl)), (tk_5 (List.mem_of_getElem? (i := 92) rfl)), (tk_5 (List.mem_of_getElem? (i := 93) rfl))⟩
theorem lw_p45 : lw_okq (⟨"HintHouse$Machine", "push", "(J)V"⟩, 17) := ⟨⟨by decide +kernel, by decide +kernel⟩, (tk_2 (List.mem_of_getElem? (i := 134) rfl)), (tk_5 (List.mem_of_getElem? (i := 96) rfl)), (tk_5 (List.mem_of_getElem? (i := 97) rfl))⟩
theorem lw_p46 : lw_okq (⟨"HintHouse$Machine", "goAlongBothLines", "(I)V"⟩, 17) := ⟨⟨by decide +kernel, by decide +kernel⟩, (tk_2 (List.mem_of_getElem? (i := 134) rfl)), (tk_5 (List.mem_of_getElem? (i := 100) rfl)), (tk_5 (List.mem_of_getElem? (i := 101) rfl))⟩
theorem lw_p47 : lw_okq (⟨"HintHouse$Machine", "settingCodes", "(I)V"⟩, 17) := ⟨⟨by decide +kernel, by decide +kernel⟩, (tk_2 (List.mem_of_getElem? (i := 134) rfl)), (tk_5 (List.mem_of_getElem? (i := 105) rfl)), (tk_5 (List.mem_of_getElem? (i := 106) rfl))⟩
def lw_privs_3 : List (MethodName × Nat) := [(⟨"HintHouse$Loader", "kernHolds", "()Z"⟩, 2), (⟨"HintHouse$Loader", "programsHold", "()Z"⟩, 2), (⟨"HintHouse$Font", "findInGroups", "(I)J"⟩, 17), (⟨"HintHouse$Font", "findInSegments", "(I)I"⟩, 17), (⟨"HintHouse$Font", "findInSegment", "(II)I"⟩, 17), (⟨"HintHouse$Machine", "isAtEnd", "()Z"⟩, 17), (⟨"HintHouse$Machine", "beginStep", "()I"⟩, 17), (⟨"HintHouse$Machine", "vectorCodes", "(I)V"⟩, 17), (⟨"HintHouse$Machine", "goAlongLine", "(I)V"⟩, 17), (⟨"HintHouse$Machine", "pop", "()I"⟩, 17), (⟨"HintHouse$Machine", "zone", "(I)LHintHouse$Points;"⟩, 17), (⟨"HintHouse$Machine", "isThere", "(LHintHouse$Points;I)Z"⟩, 17), (⟨"HintHouse$Machine", "goAlongNumbers", "(I)V"⟩, 17), (⟨"HintHouse$Machine", "push", "(J)V"⟩, 17), (⟨"HintHouse$Machine", "goAlongBothLines", "(I)V"⟩, 17), (⟨"HintHouse$Machine", "settingCodes", "(I)V"⟩, 17)]
theorem lw_r3 : ∀ q ∈ lw_privs_3, lw_okq q := List.forall_mem_cons.mpr ⟨lw_p32, List.forall_mem_cons.mpr ⟨lw_p33, List.forall_mem_cons.mpr ⟨lw_p34, List.forall_mem_cons.mpr ⟨lw_p35, List.forall_mem_cons.mpr ⟨lw_p36, List.forall_mem_cons.mpr ⟨lw_p37, List.forall_mem_cons.mpr ⟨lw_p38, List.forall_mem_cons.mpr ⟨lw_p39, List.forall_mem_cons.mpr ⟨lw_p40, List.forall_mem_cons.mpr ⟨lw_p41, List.forall_mem_cons.mpr ⟨lw_p42, List.forall_mem_cons.mpr ⟨lw_p43, List.forall_mem_cons.mpr ⟨lw_p44, List.forall_mem_cons.mpr ⟨lw_p45, List.forall_mem_cons.mpr ⟨lw_p46, List.forall_mem_cons.mpr ⟨lw_p47, fun _ h => absurd h List.not_mem_nil⟩⟩⟩⟩⟩⟩⟩⟩⟩⟩⟩⟩⟩⟩⟩⟩
theorem lw_p48 : lw_okq (⟨"HintHouse$Machine", "setZones", "(II)V"⟩, 17) := ⟨⟨by decide +kernel, by decide +kernel⟩, (tk_2 (List.mem_of_getElem? (i := 134) rfl)), (tk_5 (List.mem_of_getElem? (i := 109) rfl)), (tk_5 (List.mem_of_getElem? (i := 110) rfl))⟩
theorem lw_p49 : lw_okq (⟨"HintHouse$Machine", "isZone", "(I)Z"⟩, 17) := ⟨⟨by decide +kernel, by decide +kernel⟩, (tk_2 (List.mem_of_getElem? (i := 134) rfl)), (tk_5 (List.mem_of_getElem? (i := 113) rfl)), (tk_5 (List.mem_of_getElem? (i := 114) rfl))⟩
theorem lw_p50 : lw_okq (⟨"HintHouse$Machine", "setLoop", "(I)V"⟩, 17) := ⟨⟨by decide +kernel, by decide +kernel⟩, (tk_2 (List.mem_of_getElem? (i := 134) rfl)), (tk_5 (List.mem_of_getElem? (i := 117) rfl)), (tk_5 (List.mem_of_getElem? (i := 118) rfl))⟩
theorem lw_p51 : lw_okq (⟨"HintHouse$Machine", "setShift", "(I)V"⟩, 17) := ⟨⟨by decide +kernel, by decide +kernel⟩, (tk_2 (List.mem_of_getElem? (i := 134) rfl)), (tk_5 (List.mem_of_getElem? (i := 128) rfl)), (tk_5 (List.mem_of_getElem? (i := 129) rfl))⟩
theorem lw_p52 : lw_okq (⟨"HintHouse$Machine", "flowCodes", "(I)V"⟩, 17) := ⟨⟨by decide +kernel, by decide +kernel⟩, (tk_2 (List.mem_of_getElem? (i := 134) rfl)), (tk_5 (List.mem_of_getElem? (i := 137) rfl)), (tk_5 (List.mem_of_getElem? (i := 138) rfl))⟩
theorem lw_p53 : lw_okq (⟨"HintHouse$Machine", "passBranch", "(Z)V"⟩, 17) := ⟨⟨by decide +kernel, by decide +kernel⟩, (tk_2 (List.mem_of_getElem? (i := 134) rfl)), (tk_5 (List.mem_of_getElem? (i := 141) rfl)), (tk_5 (List.mem_of_getElem? (i := 142) rfl))⟩
theorem lw_p54 : lw_okq (⟨"HintHouse$Machine", "passCode", "()Z"⟩, 17) := ⟨⟨by decide +kernel, by decide +kernel⟩, (tk_2 (List.mem_of_getElem? (i := 134) rfl)), (tk_5 (List.mem_of_getElem? (i := 145) rfl)), (tk_5 (List.mem_of_getElem? (i := 146) rfl))⟩
theorem lw_p55 : lw_okq (⟨"HintHouse$Machine", "jump", "(I)V"⟩, 17) := ⟨⟨by decide +kernel, by decide +kernel⟩, (tk_2 (List.mem_of_getElem? (i := 134) rfl)), (tk_5 (List.mem_of_getElem? (i := 149) rfl)), (tk_5 (List.mem_of_getElem? (i := 150) rfl))⟩
theorem lw_p56 : lw_okq (⟨"HintHouse$Machine", "callTimes", "()V"⟩, 17) := ⟨⟨by decide +kernel, by decide +kernel⟩, (tk_2 (List.mem_of_getElem? (i := 134) rfl)), (tk_5 (List.mem_of_getElem? (i := 153) rfl)), (tk_5 (List.mem_of_getElem? (i := 154) rfl))⟩
theorem lw_p57 : lw_okq (⟨"HintHouse$Machine", "enter", "(II)V"⟩, 17) := ⟨⟨by decide +kernel, by decide +kernel⟩, (tk_2 (List.mem_of_getElem? (i := 134) rfl)), (tk_5 (List.mem_of_getElem? (i := 161) rfl)), (tk_5 (List.mem_of_getElem? (i := 162) rfl))⟩
theorem lw_p58 : lw_okq (⟨"HintHouse$Machine", "callOnce", "()V"⟩, 17) := ⟨⟨by decide +kernel, by decide +kernel⟩, (tk_2 (List.mem_of_getElem? (i := 134) rfl)), (tk_5 (List.mem_of_getElem? (i := 165) rfl)), (tk_5 (List.mem_of_getElem? (i := 166) rfl))⟩
theorem lw_p59 : lw_okq (⟨"HintHouse$Machine", "noteFunction", "()Z"⟩, 17) := ⟨⟨by decide +kernel, by decide +kernel⟩, (tk_2 (List.mem_of_getElem? (i := 134) rfl)), (tk_5 (List.mem_of_getElem? (i := 169) rfl)), (tk_5 (List.mem_of_getElem? (i := 170) rfl))⟩
theorem lw_p60 : lw_okq (⟨"HintHouse$Machine", "isDefining", "()Z"⟩, 17) := ⟨⟨by decide +kernel, by decide +kernel⟩, (tk_2 (List.mem_of_getElem? (i := 134) rfl)), (tk_5 (List.mem_of_getElem? (i := 173) rfl)), (tk_5 (List.mem_of_getElem? (i := 174) rfl))⟩
theorem lw_p61 : lw_okq (⟨"HintHouse$Machine", "noteRoutine", "(I)V"⟩, 17) := ⟨⟨by decide +kernel, by decide +kernel⟩, (tk_2 (List.mem_of_getElem? (i := 134) rfl)), (tk_5 (List.mem_of_getElem? (i := 177) rfl)), (tk_5 (List.mem_of_getElem? (i := 178) rfl))⟩
theorem lw_p62 : lw_okq (⟨"HintHouse$Machine", "passDefinition", "()V"⟩, 17) := ⟨⟨by decide +kernel, by decide +kernel⟩, (tk_2 (List.mem_of_getElem? (i := 134) rfl)), (tk_5 (List.mem_of_getElem? (i := 181) rfl)), (tk_5 (List.mem_of_getElem? (i := 182) rfl))⟩
theorem lw_p63 : lw_okq (⟨"HintHouse$Machine", "endRoutine", "()V"⟩, 17) := ⟨⟨by decide +kernel, by decide +kernel⟩, (tk_2 (List.mem_of_getElem? (i := 134) rfl)), (tk_5 (List.mem_of_getElem? (i := 185) rfl)), (tk_5 (List.mem_of_getElem? (i := 186) rfl))⟩
def lw_privs_4 : List (MethodName × Nat) := [(⟨"HintHouse$Machine", "setZones", "(II)V"⟩, 17), (⟨"HintHouse$Machine", "isZone", "(I)Z"⟩, 17), (⟨"HintHouse$Machine", "setLoop", "(I)V"⟩, 17), (⟨"HintHouse$Machine", "setShift", "(I)V"⟩, 17), (⟨"HintHouse$Machine", "flowCodes", "(I)V"⟩, 17), (⟨"HintHouse$Machine", "passBranch", "(Z)V"⟩, 17), (⟨"HintHouse$Machine", "passCode", "()Z"⟩, 17), (⟨"HintHouse$Machine", "jump", "(I)V"⟩, 17), (⟨"HintHouse$Machine", "callTimes", "()V"⟩, 17), (⟨"HintHouse$Machine", "enter", "(II)V"⟩, 17), (⟨"HintHouse$Machine", "callOnce", "()V"⟩, 17), (⟨"HintHouse$Machine", "noteFunction", "()Z"⟩, 17), (⟨"HintHouse$Machine", "isDefining", "()Z"⟩, 17), (⟨"HintHouse$Machine", "noteRoutine", "(I)V"⟩, 17), (⟨"HintHouse$Machine", "passDefinition", "()V"⟩, 17), (⟨"HintHouse$Machine", "endRoutine", "()V"⟩, 17)]
theorem lw_r4 : ∀ q ∈ lw_privs_4, lw_okq q := List.forall_mem_cons.mpr ⟨lw_p48, List.forall_mem_cons.mpr ⟨lw_p49, List.forall_mem_cons.mpr ⟨lw_p50, List.forall_mem_cons.mpr ⟨lw_p51, List.forall_mem_cons.mpr ⟨lw_p52, List.forall_mem_cons.mpr ⟨lw_p53, List.forall_mem_cons.mpr ⟨lw_p54, List.forall_mem_cons.mpr ⟨lw_p55, List.forall_mem_cons.mpr ⟨lw_p56, List.forall_mem_cons.mpr ⟨lw_p57, List.forall_mem_cons.mpr ⟨lw_p58, List.forall_mem_cons.mpr ⟨lw_p59, List.forall_mem_cons.mpr ⟨lw_p60, List.forall_mem_cons.mpr ⟨lw_p61, List.forall_mem_cons.mpr ⟨lw_p62, List.forall_mem_cons.mpr ⟨lw_p63, fun _ h => absurd h List.not_mem_nil⟩⟩⟩⟩⟩⟩⟩⟩⟩⟩⟩⟩⟩⟩⟩⟩
theorem lw_p64 : lw_okq (⟨"HintHouse$Machine", "jumpIf", "(Z)V"⟩, 17) := ⟨⟨by decide +kernel, by decide +kernel⟩, (tk_2 (List.mem_of_getElem? (i := 134) rfl)), (tk_5 (List.mem_of_getElem? (i := 189) rfl)), (tk_5 (List.mem_of_getElem? (i := 190) rfl))⟩
theorem lw_p65 : lw_okq (⟨"HintHouse$Machine", "noteOwnCode", "()Z"⟩, 17) := ⟨⟨by decide +kernel, by decide +kernel⟩, (tk_2 (List.mem_of_getElem? (i := 134) rfl)), (tk_5 (List.mem_of_getElem? (i := 193) rfl)), (tk_5 (List.mem_of_getElem? (i := 194) rfl))⟩
theorem lw_p66 : lw_okq (⟨"HintHouse$Machine", "stackCodes", "(I)V"⟩, 17) := ⟨⟨by decide +kernel, by decide +kernel⟩, (tk_2 (List.mem_of_getElem? (i := 134) rfl)), (tk_5 (List.mem_of_getElem? (i := 204) rfl)), (tk_5 (List.mem_of_getElem? (i := 205) rfl))⟩
theorem lw_p67 : lw_okq (⟨"HintHouse$Machine", "doubleTop", "()V"⟩, 17) := ⟨⟨by decide +kernel, by decide +kernel⟩, (tk_2 (List.mem_of_getElem? (i := 134) rfl)), (tk_5 (List.mem_of_getElem? (i := 208) rfl)), (tk_5 (List.mem_of_getElem? (i := 209) rfl))⟩
theorem lw_p68 : lw_okq (⟨"HintHouse$Machine", "rollTop", "(I)V"⟩, 17) := ⟨⟨by decide +kernel, by decide +kernel⟩, (tk_2 (List.mem_of_getElem? (i := 134) rfl)), (tk_5 (List.mem_of_getElem? (i := 212) rfl)), (tk_5 (List.mem_of_getElem? (i := 213) rfl))⟩
theorem lw_p69 : lw_okq (⟨"HintHouse$Machine", "reachBelow", "(I)V"⟩, 17) := ⟨⟨by decide +kernel, by decide +kernel⟩, (tk_2 (List.mem_of_getElem? (i := 134) rfl)), (tk_5 (List.mem_of_getElem? (i := 216) rfl)), (tk_5 (List.mem_of_getElem? (i := 217) rfl))⟩
theorem lw_p70 : lw_okq (⟨"HintHouse$Machine", "pushCounted", "(I)V"⟩, 17) := ⟨⟨by decide +kernel, by decide +kernel⟩, (tk_2 (List.mem_of_getElem? (i := 134) rfl)), (tk_5 (List.mem_of_getElem? (i := 220) rfl)), (tk_5 (List.mem_of_getElem? (i := 221) rfl))⟩
theorem lw_p71 : lw_okq (⟨"HintHouse$Machine", "pushBehind", "(II)V"⟩, 17) := ⟨⟨by decide +kernel, by decide +kernel⟩, (tk_2 (List.mem_of_getElem? (i := 134) rfl)), (tk_5 (List.mem_of_getElem? (i := 224) rfl)), (tk_5 (List.mem_of_getElem? (i := 225) rfl))⟩
theorem lw_p72 : lw_okq (⟨"HintHouse$Machine", "memoryCodes", "(I)V"⟩, 17) := ⟨⟨by decide +kernel, by decide +kernel⟩, (tk_2 (List.mem_of_getElem? (i := 134) rfl)), (tk_5 (List.mem_of_getElem? (i := 229) rfl)), (tk_5 (List.mem_of_getElem? (i := 230) rfl))⟩
theorem lw_p73 : lw_okq (⟨"HintHouse$Machine", "write", "(I)V"⟩, 17) := ⟨⟨by decide +kernel, by decide +kernel⟩, (tk_2 (List.mem_of_getElem? (i := 134) rfl)), (tk_5 (List.mem_of_getElem? (i := 233) rfl)), (tk_5 (List.mem_of_getElem? (i := 234) rfl))⟩
theorem lw_p74 : lw_okq (⟨"HintHouse$Machine", "read", "(I)V"⟩, 17) := ⟨⟨by decide +kernel, by decide +kernel⟩, (tk_2 (List.mem_of_getElem? (i := 134) rfl)), (tk_6 (List.mem_of_getElem? (i := 5) rfl)), (tk_6 (List.mem_of_getElem? (i := 6) rfl))⟩
theorem lw_p75 : lw_okq (⟨"HintHouse$Machine", "comparingCodes", "(I)V"⟩, 17) := ⟨⟨by decide +kernel, by decide +kernel⟩, (tk_2 (List.mem_of_getElem? (i := 134) rfl)), (tk_6 (List.mem_of_getElem? (i := 10) rfl)), (tk_6 (List.mem_of_getElem? (i := 11) rfl))⟩
theorem lw_p76 : lw_okq (⟨"HintHouse$Machine", "reckoningCodes", "(I)V"⟩, 17) := ⟨⟨by decide +kernel, by decide +kernel⟩, (tk_2 (List.mem_of_getElem? (i := 134) rfl)), (tk_6 (List.mem_of_getElem? (i := 22) rfl)), (tk_6 (List.mem_of_getElem? (i := 23) rfl))⟩
theorem lw_p77 : lw_okq (⟨"HintHouse$Machine", "singlePointCodes", "(I)V"⟩, 17) := ⟨⟨by decide +kernel, by decide +kernel⟩, (tk_2 (List.mem_of_getElem? (i := 134) rfl)), (tk_6 (List.mem_of_getElem? (i := 29) rfl)), (tk_6 (List.mem_of_getElem? (i := 30) rfl))⟩
theorem lw_p78 : lw_okq (⟨"HintHouse$Machine", "alignPoints", "()V"⟩, 17) := ⟨⟨by decide +kernel, by decide +kernel⟩, (tk_2 (List.mem_of_getElem? (i := 134) rfl)), (tk_6 (List.mem_of_getElem? (i := 33) rfl)), (tk_6 (List.mem_of_getElem? (i := 34) rfl))⟩
theorem lw_p79 : lw_okq (⟨"HintHouse$Machine", "longBetween", "(LHintHouse$Points;ILHintHouse$Points;I)J"⟩, 17) := ⟨⟨by decide +kernel, by decide +kernel⟩, (tk_2 (List.mem_of_getElem? (i := 134) rfl)), (tk_6 (List.mem_of_getElem? (i := 37) rfl)), (tk_6 (List.mem_of_getElem? (i := 38) rfl))⟩
def lw_privs_5 : List (MethodName × Nat) := [(⟨"HintHouse$Machine", "jumpIf", "(Z)V"⟩, 17), (⟨"HintHouse$Machine", "noteOwnCode", "()Z"⟩, 17), (⟨"HintHouse$Machine", "stackCodes", "(I)V"⟩, 17), (⟨"HintHouse$Machine", "doubleTop", "()V"⟩, 17), (⟨"HintHouse$Machine", "rollTop", "(I)V"⟩, 17), (⟨"HintHouse$Machine", "reachBelow", "(I)V"⟩, 17), (⟨"HintHouse$Machine", "pushCounted", "(I)V"⟩, 17), (⟨"HintHouse$Machine", "pushBehind", "(II)V"⟩, 17), (⟨"HintHouse$Machine", "memoryCodes", "(I)V"⟩, 17), (⟨"HintHouse$Machine", "write", "(I)V"⟩, 17), (⟨"HintHouse$Machine", "read", "(I)V"⟩, 17), (⟨"HintHouse$Machine", "comparingCodes", "(I)V"⟩, 17), (⟨"HintHouse$Machine", "reckoningCodes", "(I)V"⟩, 17), (⟨"HintHouse$Machine", "singlePointCodes", "(I)V"⟩, 17), (⟨"HintHouse$Machine", "alignPoints", "()V"⟩, 17), (⟨"HintHouse$Machine", "longBetween", "(LHintHouse$Points;ILHintHouse$Points;I)J"⟩, 17)]
theorem lw_r5 : ∀ q ∈ lw_privs_5, lw_okq q := List.forall_mem_cons.mpr ⟨lw_p64, List.forall_mem_cons.mpr ⟨lw_p65, List.forall_mem_cons.mpr ⟨lw_p66, List.forall_mem_cons.mpr ⟨lw_p67, List.forall_mem_cons.mpr ⟨lw_p68, List.forall_mem_cons.mpr ⟨lw_p69, List.forall_mem_cons.mpr ⟨lw_p70, List.forall_mem_cons.mpr ⟨lw_p71, List.forall_mem_cons.mpr ⟨lw_p72, List.forall_mem_cons.mpr ⟨lw_p73, List.forall_mem_cons.mpr ⟨lw_p74, List.forall_mem_cons.mpr ⟨lw_p75, List.forall_mem_cons.mpr ⟨lw_p76, List.forall_mem_cons.mpr ⟨lw_p77, List.forall_mem_cons.mpr ⟨lw_p78, List.forall_mem_cons.mpr ⟨lw_p79, fun _ h => absurd h List.not_mem_nil⟩⟩⟩⟩⟩⟩⟩⟩⟩⟩⟩⟩⟩⟩⟩⟩
theorem lw_p80 : lw_okq (⟨"HintHouse$Machine", "move", "(LHintHouse$Points;IJ)V"⟩, 17) := ⟨⟨by decide +kernel, by decide +kernel⟩, (tk_2 (List.mem_of_getElem? (i := 134) rfl)), (tk_6 (List.mem_of_getElem? (i := 43) rfl)), (tk_6 (List.mem_of_getElem? (i := 44) rfl))⟩
theorem lw_p81 : lw_okq (⟨"HintHouse$Machine", "touchBits", "()I"⟩, 17) := ⟨⟨by decide +kernel, by decide +kernel⟩, (tk_2 (List.mem_of_getElem? (i := 134) rfl)), (tk_6 (List.mem_of_getElem? (i := 49) rfl)), (tk_6 (List.mem_of_getElem? (i := 50) rfl))⟩
theorem lw_p82 : lw_okq (⟨"HintHouse$Machine", "untouchPoint", "()V"⟩, 17) := ⟨⟨by decide +kernel, by decide +kernel⟩, (tk_2 (List.mem_of_getElem? (i := 134) rfl)), (tk_6 (List.mem_of_getElem? (i := 53) rfl)), (tk_6 (List.mem_of_getElem? (i := 54) rfl))⟩
theorem lw_p83 : lw_okq (⟨"HintHouse$Machine", "touchPoint", "(I)V"⟩, 17) := ⟨⟨by decide +kernel, by decide +kernel⟩, (tk_2 (List.mem_of_getElem? (i := 134) rfl)), (tk_6 (List.mem_of_getElem? (i := 57) rfl)), (tk_6 (List.mem_of_getElem? (i := 58) rfl))⟩
theorem lw_p84 : lw_okq (⟨"HintHouse$Machine", "longByP", "(JJ)J"⟩, 17) := ⟨⟨by decide +kernel, by decide +kernel⟩, (tk_2 (List.mem_of_getElem? (i := 134) rfl)), (tk_6 (List.mem_of_getElem? (i := 61) rfl)), (tk_6 (List.mem_of_getElem? (i := 62) rfl))⟩
theorem lw_p85 : lw_okq (⟨"HintHouse$Machine", "fillUntouched", "([I[II)V"⟩, 17) := ⟨⟨by decide +kernel, by decide +kernel⟩, (tk_2 (List.mem_of_getElem? (i := 134) rfl)), (tk_6 (List.mem_of_getElem? (i := 65) rfl)), (tk_6 (List.mem_of_getElem? (i := 66) rfl))⟩
theorem lw_p86 : lw_okq (⟨"HintHouse$Machine", "firstTouched", "(III)I"⟩, 17) := ⟨⟨by decide +kernel, by decide +kernel⟩, (tk_2 (List.mem_of_getElem? (i := 134) rfl)), (tk_6 (List.mem_of_getElem? (i := 73) rfl)), (tk_6 (List.mem_of_getElem? (i := 74) rfl))⟩
theorem lw_p87 : lw_okq (⟨"HintHouse$Machine", "fillBetween", "([I[IIII)V"⟩, 17) := ⟨⟨by decide +kernel, by decide +kernel⟩, (tk_2 (List.mem_of_getElem? (i := 134) rfl)), (tk_6 (List.mem_of_getElem? (i := 77) rfl)), (tk_6 (List.mem_of_getElem? (i := 78) rfl))⟩
theorem lw_p88 : lw_okq (⟨"HintHouse$Machine", "tellLong", "(I)V"⟩, 17) := ⟨⟨by decide +kernel, by decide +kernel⟩, (tk_2 (List.mem_of_getElem? (i := 134) rfl)), (tk_6 (List.mem_of_getElem? (i := 81) rfl)), (tk_6 (List.mem_of_getElem? (i := 82) rfl))⟩
theorem lw_p89 : lw_okq (⟨"HintHouse$Machine", "longByD", "(JJ)J"⟩, 17) := ⟨⟨by decide +kernel, by decide +kernel⟩, (tk_2 (List.mem_of_getElem? (i := 134) rfl)), (tk_6 (List.mem_of_getElem? (i := 85) rfl)), (tk_6 (List.mem_of_getElem? (i := 86) rfl))⟩
theorem lw_p90 : lw_okq (⟨"HintHouse$Machine", "setLong", "()V"⟩, 17) := ⟨⟨by decide +kernel, by decide +kernel⟩, (tk_2 (List.mem_of_getElem? (i := 134) rfl)), (tk_6 (List.mem_of_getElem? (i := 89) rfl)), (tk_6 (List.mem_of_getElem? (i := 90) rfl))⟩
theorem lw_p91 : lw_okq (⟨"HintHouse$Machine", "tellDistance", "(I)V"⟩, 17) := ⟨⟨by decide +kernel, by decide +kernel⟩, (tk_2 (List.mem_of_getElem? (i := 134) rfl)), (tk_6 (List.mem_of_getElem? (i := 93) rfl)), (tk_6 (List.mem_of_getElem? (i := 94) rfl))⟩
theorem lw_p92 : lw_okq (⟨"HintHouse$Machine", "originalBetween", "(LHintHouse$Points;ILHintHouse$Points;I)J"⟩, 17) := ⟨⟨by decide +kernel, by decide +kernel⟩, (tk_2 (List.mem_of_getElem? (i := 134) rfl)), (tk_6 (List.mem_of_getElem? (i := 97) rfl)), (tk_6 (List.mem_of_getElem? (i := 98) rfl))⟩
theorem lw_p93 : lw_okq (⟨"HintHouse$Machine", "turnRange", "(I)V"⟩, 17) := ⟨⟨by decide +kernel, by decide +kernel⟩, (tk_2 (List.mem_of_getElem? (i := 134) rfl)), (tk_6 (List.mem_of_getElem? (i := 101) rfl)), (tk_6 (List.mem_of_getElem? (i := 102) rfl))⟩
theorem lw_p94 : lw_okq (⟨"HintHouse$Machine", "manyPointCodes", "(I)V"⟩, 17) := ⟨⟨by decide +kernel, by decide +kernel⟩, (tk_2 (List.mem_of_getElem? (i := 134) rfl)), (tk_6 (List.mem_of_getElem? (i := 105) rfl)), (tk_6 (List.mem_of_getElem? (i := 106) rfl))⟩
theorem lw_p95 : lw_okq (⟨"HintHouse$Machine", "shiftByPixels", "()V"⟩, 17) := ⟨⟨by decide +kernel, by decide +kernel⟩, (tk_2 (List.mem_of_getElem? (i := 134) rfl)), (tk_6 (List.mem_of_getElem? (i := 109) rfl)), (tk_6 (List.mem_of_getElem? (i := 110) rfl))⟩
def lw_privs_6 : List (MethodName × Nat) := [(⟨"HintHouse$Machine", "move", "(LHintHouse$Points;IJ)V"⟩, 17), (⟨"HintHouse$Machine", "touchBits", "()I"⟩, 17), (⟨"HintHouse$Machine", "untouchPoint", "()V"⟩, 17), (⟨"HintHouse$Machine", "touchPoint", "(I)V"⟩, 17), (⟨"HintHouse$Machine", "longByP", "(JJ)J"⟩, 17), (⟨"HintHouse$Machine", "fillUntouched", "([I[II)V"⟩, 17), (⟨"HintHouse$Machine", "firstTouched", "(III)I"⟩, 17), (⟨"HintHouse$Machine", "fillBetween", "([I[IIII)V"⟩, 17), (⟨"HintHouse$Machine", "tellLong", "(I)V"⟩, 17), (⟨"HintHouse$Machine", "longByD", "(JJ)J"⟩, 17), (⟨"HintHouse$Machine", "setLong", "()V"⟩, 17), (⟨"HintHouse$Machine", "tellDistance", "(I)V"⟩, 17), (⟨"HintHouse$Machine", "originalBetween", "(LHintHouse$Points;ILHintHouse$Points;I)J"⟩, 17), (⟨"HintHouse$Machine", "turnRange", "(I)V"⟩, 17), (⟨"HintHouse$Machine", "manyPointCodes", "(I)V"⟩, 17), (⟨"HintHouse$Machine", "shiftByPixels", "()V"⟩, 17)]
theorem lw_r6 : ∀ q ∈ lw_privs_6, lw_okq q := List.forall_mem_cons.mpr ⟨lw_p80, List.forall_mem_cons.mpr ⟨lw_p81, List.forall_mem_cons.mpr ⟨lw_p82, List.forall_mem_cons.mpr ⟨lw_p83, List.forall_mem_cons.mpr ⟨lw_p84, List.forall_mem_cons.mpr ⟨lw_p85, List.forall_mem_cons.mpr ⟨lw_p86, List.forall_mem_cons.mpr ⟨lw_p87, List.forall_mem_cons.mpr ⟨lw_p88, List.forall_mem_cons.mpr ⟨lw_p89, List.forall_mem_cons.mpr ⟨lw_p90, List.forall_mem_cons.mpr ⟨lw_p91, List.forall_mem_cons.mpr ⟨lw_p92, List.forall_mem_cons.mpr ⟨lw_p93, List.forall_mem_cons.mpr ⟨lw_p94, List.forall_mem_cons.mpr ⟨lw_p95, fun _ h => absurd h List.not_mem_nil⟩⟩⟩⟩⟩⟩⟩⟩⟩⟩⟩⟩⟩⟩⟩⟩
theorem lw_p96 : lw_okq (⟨"HintHouse$Machine", "interpolate", "()V"⟩, 17) := ⟨⟨by decide +kernel, by decide +kernel⟩, (tk_2 (List.mem_of_getElem? (i := 134) rfl)), (tk_6 (List.mem_of_getElem? (i := 113) rfl)), (tk_6 (List.mem_of_getElem? (i := 114) rfl))⟩
theorem lw_p97 : lw_okq (⟨"HintHouse$Machine", "alignToReference", "()V"⟩, 17) := ⟨⟨by decide +kernel, by decide +kernel⟩, (tk_2 (List.mem_of_getElem? (i := 134) rfl)), (tk_6 (List.mem_of_getElem? (i := 117) rfl)), (tk_6 (List.mem_of_getElem? (i := 118) rfl))⟩
theorem lw_p98 : lw_okq (⟨"HintHouse$Machine", "turnPoints", "()V"⟩, 17) := ⟨⟨by decide +kernel, by decide +kernel⟩, (tk_2 (List.mem_of_getElem? (i := 134) rfl)), (tk_6 (List.mem_of_getElem? (i := 121) rfl)), (tk_6 (List.mem_of_getElem? (i := 122) rfl))⟩
theorem lw_p99 : lw_okq (⟨"HintHouse$Machine", "measuredCodes", "(I)V"⟩, 17) := ⟨⟨by decide +kernel, by decide +kernel⟩, (tk_2 (List.mem_of_getElem? (i := 134) rfl)), (tk_6 (List.mem_of_getElem? (i := 125) rfl)), (tk_6 (List.mem_of_getElem? (i := 126) rfl))⟩
theorem lw_p100 : lw_okq (⟨"HintHouse$Machine", "moveFromReference", "(I)V"⟩, 17) := ⟨⟨by decide +kernel, by decide +kernel⟩, (tk_2 (List.mem_of_getElem? (i := 134) rfl)), (tk_6 (List.mem_of_getElem? (i := 129) rfl)), (tk_6 (List.mem_of_getElem? (i := 130) rfl))⟩
theorem lw_p101 : lw_okq (⟨"HintHouse$Machine", "plant", "(LHintHouse$Points;IIIJ)V"⟩, 17) := ⟨⟨by decide +kernel, by decide +kernel⟩, (tk_2 (List.mem_of_getElem? (i := 134) rfl)), (tk_6 (List.mem_of_getElem? (i := 133) rfl)), (tk_6 (List.mem_of_getElem? (i := 134) rfl))⟩
theorem lw_p102 : lw_okq (⟨"HintHouse$Machine", "noteReferences", "(IZ)V"⟩, 17) := ⟨⟨by decide +kernel, by decide +kernel⟩, (tk_2 (List.mem_of_getElem? (i := 134) rfl)), (tk_6 (List.mem_of_getElem? (i := 137) rfl)), (tk_6 (List.mem_of_getElem? (i := 138) rfl))⟩
theorem lw_p103 : lw_okq (⟨"HintHouse$Machine", "moveToCvt", "(I)V"⟩, 17) := ⟨⟨by decide +kernel, by decide +kernel⟩, (tk_2 (List.mem_of_getElem? (i := 134) rfl)), (tk_6 (List.mem_of_getElem? (i := 141) rfl)), (tk_6 (List.mem_of_getElem? (i := 142) rfl))⟩
theorem lw_p104 : lw_okq (⟨"HintHouse$Machine", "moveAsOriginal", "(I)V"⟩, 17) := ⟨⟨by decide +kernel, by decide +kernel⟩, (tk_2 (List.mem_of_getElem? (i := 134) rfl)), (tk_6 (List.mem_of_getElem? (i := 148) rfl)), (tk_6 (List.mem_of_getElem? (i := 149) rfl))⟩
theorem lw_p105 : lw_okq (⟨"HintHouse$Machine", "orSingle", "(J)J"⟩, 17) := ⟨⟨by decide +kernel, by decide +kernel⟩, (tk_2 (List.mem_of_getElem? (i := 134) rfl)), (tk_6 (List.mem_of_getElem? (i := 152) rfl)), (tk_6 (List.mem_of_getElem? (i := 153) rfl))⟩
theorem lw_p106 : lw_okq (⟨"HintHouse$Machine", "atLeast", "(JJ)J"⟩, 17) := ⟨⟨by decide +kernel, by decide +kernel⟩, (tk_2 (List.mem_of_getElem? (i := 134) rfl)), (tk_6 (List.mem_of_getElem? (i := 156) rfl)), (tk_6 (List.mem_of_getElem? (i := 157) rfl))⟩
theorem lw_p107 : lw_okq (⟨"HintHouse$Machine", "moveAsCvt", "(I)V"⟩, 17) := ⟨⟨by decide +kernel, by decide +kernel⟩, (tk_2 (List.mem_of_getElem? (i := 134) rfl)), (tk_6 (List.mem_of_getElem? (i := 160) rfl)), (tk_6 (List.mem_of_getElem? (i := 161) rfl))⟩
theorem lw_p108 : lw_okq (⟨"HintHouse$Machine", "deltaCodes", "(I)V"⟩, 17) := ⟨⟨by decide +kernel, by decide +kernel⟩, (tk_2 (List.mem_of_getElem? (i := 134) rfl)), (tk_6 (List.mem_of_getElem? (i := 164) rfl)), (tk_6 (List.mem_of_getElem? (i := 165) rfl))⟩
theorem lw_p109 : lw_okq (⟨"HintHouse$Machine", "applyDelta", "(ZII)V"⟩, 17) := ⟨⟨by decide +kernel, by decide +kernel⟩, (tk_2 (List.mem_of_getElem? (i := 134) rfl)), (tk_6 (List.mem_of_getElem? (i := 170) rfl)), (tk_6 (List.mem_of_getElem? (i := 171) rfl))⟩
theorem lw_p110 : lw_okq (⟨"HintHouse$Machine", "shiftByReference", "(I)V"⟩, 17) := ⟨⟨by decide +kernel, by decide +kernel⟩, (tk_2 (List.mem_of_getElem? (i := 134) rfl)), (tk_6 (List.mem_of_getElem? (i := 174) rfl)), (tk_6 (List.mem_of_getElem? (i := 175) rfl))⟩
theorem lw_p111 : lw_okq (⟨"HintHouse$Machine", "shiftPoints", "(J)V"⟩, 17) := ⟨⟨by decide +kernel, by decide +kernel⟩, (tk_2 (List.mem_of_getElem? (i := 134) rfl)), (tk_6 (List.mem_of_getElem? (i := 178) rfl)), (tk_6 (List.mem_of_getElem? (i := 179) rfl))⟩
def lw_privs_7 : List (MethodName × Nat) := [(⟨"HintHouse$Machine", "interpolate", "()V"⟩, 17), (⟨"HintHouse$Machine", "alignToReference", "()V"⟩, 17), (⟨"HintHouse$Machine", "turnPoints", "()V"⟩, 17), (⟨"HintHouse$Machine", "measuredCodes", "(I)V"⟩, 17), (⟨"HintHouse$Machine", "moveFromReference", "(I)V"⟩, 17), (⟨"HintHouse$Machine", "plant", "(LHintHouse$Points;IIIJ)V"⟩, 17), (⟨"HintHouse$Machine", "noteReferences", "(IZ)V"⟩, 17), (⟨"HintHouse$Machine", "moveToCvt", "(I)V"⟩, 17), (⟨"HintHouse$Machine", "moveAsOriginal", "(I)V"⟩, 17), (⟨"HintHouse$Machine", "orSingle", "(J)J"⟩, 17), (⟨"HintHouse$Machine", "atLeast", "(JJ)J"⟩, 17), (⟨"HintHouse$Machine", "moveAsCvt", "(I)V"⟩, 17), (⟨"HintHouse$Machine", "deltaCodes", "(I)V"⟩, 17), (⟨"HintHouse$Machine", "applyDelta", "(ZII)V"⟩, 17), (⟨"HintHouse$Machine", "shiftByReference", "(I)V"⟩, 17), (⟨"HintHouse$Machine", "shiftPoints", "(J)V"⟩, 17)]
theorem lw_r7 : ∀ q ∈ lw_privs_7, lw_okq q := List.forall_mem_cons.mpr ⟨lw_p96, List.forall_mem_cons.mpr ⟨lw_p97, List.forall_mem_cons.mpr ⟨lw_p98, List.forall_mem_cons.mpr ⟨lw_p99, List.forall_mem_cons.mpr ⟨lw_p100, List.forall_mem_cons.mpr ⟨lw_p101, List.forall_mem_cons.mpr ⟨lw_p102, List.forall_mem_cons.mpr ⟨lw_p103, List.forall_mem_cons.mpr ⟨lw_p104, List.forall_mem_cons.mpr ⟨lw_p105, List.forall_mem_cons.mpr ⟨lw_p106, List.forall_mem_cons.mpr ⟨lw_p107, List.forall_mem_cons.mpr ⟨lw_p108, List.forall_mem_cons.mpr ⟨lw_p109, List.forall_mem_cons.mpr ⟨lw_p110, List.forall_mem_cons.mpr ⟨lw_p111, fun _ h => absurd h List.not_mem_nil⟩⟩⟩⟩⟩⟩⟩⟩⟩⟩⟩⟩⟩⟩⟩⟩
theorem lw_p112 : lw_okq (⟨"HintHouse$Machine", "shiftContour", "(JI)V"⟩, 17) := ⟨⟨by decide +kernel, by decide +kernel⟩, (tk_2 (List.mem_of_getElem? (i := 134) rfl)), (tk_6 (List.mem_of_getElem? (i := 182) rfl)), (tk_6 (List.mem_of_getElem? (i := 183) rfl))⟩
theorem lw_p113 : lw_okq (⟨"HintHouse$Machine", "shiftZone", "(JLHintHouse$Points;I)V"⟩, 17) := ⟨⟨by decide +kernel, by decide +kernel⟩, (tk_2 (List.mem_of_getElem? (i := 134) rfl)), (tk_6 (List.mem_of_getElem? (i := 186) rfl)), (tk_6 (List.mem_of_getElem? (i := 187) rfl))⟩
theorem lw_p114 : lw_okq (⟨"HintHouse$Machine", "callOwnCode", "(I)V"⟩, 17) := ⟨⟨by decide +kernel, by decide +kernel⟩, (tk_2 (List.mem_of_getElem? (i := 134) rfl)), (tk_6 (List.mem_of_getElem? (i := 190) rfl)), (tk_6 (List.mem_of_getElem? (i := 191) rfl))⟩
theorem lw_p115 : lw_okq (⟨"HintHouse$Maker", "build", "(II)Z"⟩, 13) := ⟨⟨by decide +kernel, by decide +kernel⟩, (tk_2 (List.mem_of_getElem? (i := 40) rfl)), (tk_6 (List.mem_of_getElem? (i := 203) rfl)), (tk_6 (List.mem_of_getElem? (i := 204) rfl))⟩
theorem lw_p116 : lw_okq (⟨"HintHouse$Maker", "beginOutline", "(ILHintHouse$Points;)V"⟩, 13) := ⟨⟨by decide +kernel, by decide +kernel⟩, (tk_2 (List.mem_of_getElem? (i := 40) rfl)), (tk_6 (List.mem_of_getElem? (i := 212) rfl)), (tk_6 (List.mem_of_getElem? (i := 213) rfl))⟩
theorem lw_p117 : lw_okq (⟨"HintHouse$Maker", "addParts", "(II)Z"⟩, 13) := ⟨⟨by decide +kernel, by decide +kernel⟩, (tk_2 (List.mem_of_getElem? (i := 40) rfl)), (tk_6 (List.mem_of_getElem? (i := 219) rfl)), (tk_6 (List.mem_of_getElem? (i := 220) rfl))⟩
theorem lw_p118 : lw_okq (⟨"HintHouse$Maker", "addPart", "(I)Z"⟩, 13) := ⟨⟨by decide +kernel, by decide +kernel⟩, (tk_2 (List.mem_of_getElem? (i := 40) rfl)), (tk_6 (List.mem_of_getElem? (i := 227) rfl)), (tk_6 (List.mem_of_getElem? (i := 228) rfl))⟩
theorem lw_p119 : lw_okq (⟨"HintHouse$Maker", "append", "(LHintHouse$Points;LHintHouse$Points;)V"⟩, 13) := ⟨⟨by decide +kernel, by decide +kernel⟩, (tk_2 (List.mem_of_getElem? (i := 40) rfl)), (tk_6 (List.mem_of_getElem? (i := 231) rfl)), (tk_6 (List.mem_of_getElem? (i := 232) rfl))⟩
theorem lw_p120 : lw_okq (⟨"HintHouse$Maker", "offset", "(I)I"⟩, 13) := ⟨⟨by decide +kernel, by decide +kernel⟩, (tk_2 (List.mem_of_getElem? (i := 40) rfl)), (tk_6 (List.mem_of_getElem? (i := 237) rfl)), (tk_6 (List.mem_of_getElem? (i := 238) rfl))⟩
theorem lw_p121 : lw_okq (⟨"HintHouse$Maker", "match", "(LHintHouse$Points;I)Z"⟩, 13) := ⟨⟨by decide +kernel, by decide +kernel⟩, (tk_2 (List.mem_of_getElem? (i := 40) rfl)), (tk_7 (List.mem_of_getElem? (i := 11) rfl)), (tk_7 (List.mem_of_getElem? (i := 12) rfl))⟩
theorem lw_p122 : lw_okq (⟨"HintHouse$Maker", "takeOutline", "(ILHintHouse$Points;)V"⟩, 13) := ⟨⟨by decide +kernel, by decide +kernel⟩, (tk_2 (List.mem_of_getElem? (i := 40) rfl)), (tk_7 (List.mem_of_getElem? (i := 16) rfl)), (tk_7 (List.mem_of_getElem? (i := 17) rfl))⟩
theorem lw_p123 : lw_okq (⟨"HintHouse$Shape", "traceContour", "(LHintHouse$Points;II)V"⟩, 13) := ⟨⟨by decide +kernel, by decide +kernel⟩, (tk_2 (List.mem_of_getElem? (i := 87) rfl)), (tk_7 (List.mem_of_getElem? (i := 51) rfl)), (tk_7 (List.mem_of_getElem? (i := 52) rfl))⟩
theorem lw_p124 : lw_okq (⟨"HintHouse$Shape", "addLine", "(LHintHouse$Points;II)V"⟩, 13) := ⟨⟨by decide +kernel, by decide +kernel⟩, (tk_2 (List.mem_of_getElem? (i := 87) rfl)), (tk_7 (List.mem_of_getElem? (i := 55) rfl)), (tk_7 (List.mem_of_getElem? (i := 56) rfl))⟩
theorem lw_p125 : lw_okq (⟨"HintHouse$Shape", "addCurve", "(LHintHouse$Points;III)V"⟩, 13) := ⟨⟨by decide +kernel, by decide +kernel⟩, (tk_2 (List.mem_of_getElem? (i := 87) rfl)), (tk_7 (List.mem_of_getElem? (i := 59) rfl)), (tk_7 (List.mem_of_getElem? (i := 60) rfl))⟩
theorem lw_p126 : lw_okq (⟨"HintHouse$Shape", "meets", "(III)Z"⟩, 13) := ⟨⟨by decide +kernel, by decide +kernel⟩, (tk_2 (List.mem_of_getElem? (i := 87) rfl)), (tk_7 (List.mem_of_getElem? (i := 98) rfl)), (tk_7 (List.mem_of_getElem? (i := 99) rfl))⟩
theorem lw_p127 : lw_okq (⟨"HintHouseModel", "put", "(IJJ)V"⟩, 146) := ⟨⟨by decide +kernel, by decide +kernel⟩, (tk_7 (List.mem_of_getElem? (i := 156) rfl)), (tk_9 (List.mem_of_getElem? (i := 131) rfl)), (tk_9 (List.mem_of_getElem? (i := 132) rfl))⟩
def lw_privs_8 : List (MethodName × Nat) := [(⟨"HintHouse$Machine", "shiftContour", "(JI)V"⟩, 17), (⟨"HintHouse$Machine", "shiftZone", "(JLHintHouse$Points;I)V"⟩, 17), (⟨"HintHouse$Machine", "callOwnCode", "(I)V"⟩, 17), (⟨"HintHouse$Maker", "build", "(II)Z"⟩, 13), (⟨"HintHouse$Maker", "beginOutline", "(ILHintHouse$Points;)V"⟩, 13), (⟨"HintHouse$Maker", "addParts", "(II)Z"⟩, 13), (⟨"HintHouse$Maker", "addPart", "(I)Z"⟩, 13), (⟨"HintHouse$Maker", "append", "(LHintHouse$Points;LHintHouse$Points;)V"⟩, 13), (⟨"HintHouse$Maker", "offset", "(I)I"⟩, 13), (⟨"HintHouse$Maker", "match", "(LHintHouse$Points;I)Z"⟩, 13), (⟨"HintHouse$Maker", "takeOutline", "(ILHintHouse$Points;)V"⟩, 13), (⟨"HintHouse$Shape", "traceContour", "(LHintHouse$Points;II)V"⟩, 13), (⟨"HintHouse$Shape", "addLine", "(LHintHouse$Points;II)V"⟩, 13), (⟨"HintHouse$Shape", "addCurve", "(LHintHouse$Points;III)V"⟩, 13), (⟨"HintHouse$Shape", "meets", "(III)Z"⟩, 13), (⟨"HintHouseModel", "put", "(IJJ)V"⟩, 146)]
theorem lw_r8 : ∀ q ∈ lw_privs_8, lw_okq q := List.forall_mem_cons.mpr ⟨lw_p112, List.forall_mem_cons.mpr ⟨lw_p113, List.forall_mem_cons.mpr ⟨lw_p114, List.forall_mem_cons.mpr ⟨lw_p115, List.forall_mem_cons.mpr ⟨lw_p116, List.forall_mem_cons.mpr ⟨lw_p117, List.forall_mem_cons.mpr ⟨lw_p118, List.forall_mem_cons.mpr ⟨lw_p119, List.forall_mem_cons.mpr ⟨lw_p120, List.forall_mem_cons.mpr ⟨lw_p121, List.forall_mem_cons.mpr ⟨lw_p122, List.forall_mem_cons.mpr ⟨lw_p123, List.forall_mem_cons.mpr ⟨lw_p124, List.forall_mem_cons.mpr ⟨lw_p125, List.forall_mem_cons.mpr ⟨lw_p126, List.forall_mem_cons.mpr ⟨lw_p127, fun _ h => absurd h List.not_mem_nil⟩⟩⟩⟩⟩⟩⟩⟩⟩⟩⟩⟩⟩⟩⟩⟩
theorem lw_p128 : lw_okq (⟨"HintHouseModel", "beginOf", "(I)I"⟩, 146) := ⟨⟨by decide +kernel, by decide +kernel⟩, (tk_7 (List.mem_of_getElem? (i := 156) rfl)), (tk_9 (List.mem_of_getElem? (i := 136) rfl)), (tk_9 (List.mem_of_getElem? (i := 137) rfl))⟩
theorem lw_p129 : lw_okq (⟨"HintHouseModel", "tableOf", "(I)I"⟩, 146) := ⟨⟨by decide +kernel, by decide +kernel⟩, (tk_7 (List.mem_of_getElem? (i := 156) rfl)), (tk_9 (List.mem_of_getElem? (i := 140) rfl)), (tk_9 (List.mem_of_getElem? (i := 141) rfl))⟩
theorem lw_p130 : lw_okq (⟨"HintHouseModel", "s2", "(I)I"⟩, 146) := ⟨⟨by decide +kernel, by decide +kernel⟩, (tk_7 (List.mem_of_getElem? (i := 156) rfl)), (tk_9 (List.mem_of_getElem? (i := 144) rfl)), (tk_9 (List.mem_of_getElem? (i := 145) rfl))⟩
theorem lw_p131 : lw_okq (⟨"HintHouseModel", "u2", "(I)I"⟩, 146) := ⟨⟨by decide +kernel, by decide +kernel⟩, (tk_7 (List.mem_of_getElem? (i := 156) rfl)), (tk_9 (List.mem_of_getElem? (i := 148) rfl)), (tk_9 (List.mem_of_getElem? (i := 149) rfl))⟩
theorem lw_p132 : lw_okq (⟨"HintHouseModel", "u1", "(I)I"⟩, 146) := ⟨⟨by decide +kernel, by decide +kernel⟩, (tk_7 (List.mem_of_getElem? (i := 156) rfl)), (tk_9 (List.mem_of_getElem? (i := 152) rfl)), (tk_9 (List.mem_of_getElem? (i := 153) rfl))⟩
theorem lw_p133 : lw_okq (⟨"HintHouseModel", "scaled", "(J)I"⟩, 146) := ⟨⟨by decide +kernel, by decide +kernel⟩, (tk_7 (List.mem_of_getElem? (i := 156) rfl)), (tk_9 (List.mem_of_getElem? (i := 156) rfl)), (tk_9 (List.mem_of_getElem? (i := 157) rfl))⟩
theorem lw_p134 : lw_okq (⟨"HintHouseModel", "lengthOf", "(I)I"⟩, 146) := ⟨⟨by decide +kernel, by decide +kernel⟩, (tk_7 (List.mem_of_getElem? (i := 156) rfl)), (tk_9 (List.mem_of_getElem? (i := 172) rfl)), (tk_9 (List.mem_of_getElem? (i := 173) rfl))⟩
theorem lw_p135 : lw_okq (⟨"HintHouseModel", "runProgram", "(I)V"⟩, 146) := ⟨⟨by decide +kernel, by decide +kernel⟩, (tk_7 (List.mem_of_getElem? (i := 156) rfl)), (tk_9 (List.mem_of_getElem? (i := 176) rfl)), (tk_9 (List.mem_of_getElem? (i := 177) rfl))⟩
theorem lw_p136 : lw_okq (⟨"HintHouseModel", "settings", "()V"⟩, 146) := ⟨⟨by decide +kernel, by decide +kernel⟩, (tk_7 (List.mem_of_getElem? (i := 156) rfl)), (tk_9 (List.mem_of_getElem? (i := 180) rfl)), (tk_9 (List.mem_of_getElem? (i := 181) rfl))⟩
theorem lw_p137 : lw_okq (⟨"HintHouseModel", "setRounding", "(IIII)V"⟩, 146) := ⟨⟨by decide +kernel, by decide +kernel⟩, (tk_7 (List.mem_of_getElem? (i := 156) rfl)), (tk_9 (List.mem_of_getElem? (i := 184) rfl)), (tk_9 (List.mem_of_getElem? (i := 185) rfl))⟩
theorem lw_p138 : lw_okq (⟨"HintHouseModel", "fail", "(I)V"⟩, 146) := ⟨⟨by decide +kernel, by decide +kernel⟩, (tk_7 (List.mem_of_getElem? (i := 156) rfl)), (tk_9 (List.mem_of_getElem? (i := 188) rfl)), (tk_9 (List.mem_of_getElem? (i := 189) rfl))⟩
theorem lw_p139 : lw_okq (⟨"HintHouseModel", "codeByte", "(I)I"⟩, 146) := ⟨⟨by decide +kernel, by decide +kernel⟩, (tk_7 (List.mem_of_getElem? (i := 156) rfl)), (tk_9 (List.mem_of_getElem? (i := 192) rfl)), (tk_9 (List.mem_of_getElem? (i := 193) rfl))⟩
theorem lw_p140 : lw_okq (⟨"HintHouseModel", "perform", "(I)V"⟩, 146) := ⟨⟨by decide +kernel, by decide +kernel⟩, (tk_7 (List.mem_of_getElem? (i := 156) rfl)), (tk_9 (List.mem_of_getElem? (i := 196) rfl)), (tk_9 (List.mem_of_getElem? (i := 197) rfl))⟩
theorem lw_p141 : lw_okq (⟨"HintHouseModel", "relative", "(I)V"⟩, 146) := ⟨⟨by decide +kernel, by decide +kernel⟩, (tk_7 (List.mem_of_getElem? (i := 156) rfl)), (tk_9 (List.mem_of_getElem? (i := 200) rfl)), (tk_9 (List.mem_of_getElem? (i := 201) rfl))⟩
theorem lw_p142 : lw_okq (⟨"HintHouseModel", "has", "(I)Z"⟩, 146) := ⟨⟨by decide +kernel, by decide +kernel⟩, (tk_7 (List.mem_of_getElem? (i := 156) rfl)), (tk_9 (List.mem_of_getElem? (i := 204) rfl)), (tk_9 (List.mem_of_getElem? (i := 205) rfl))⟩
theorem lw_p143 : lw_okq (⟨"HintHouseModel", "pop", "()I"⟩, 146) := ⟨⟨by decide +kernel, by decide +kernel⟩, (tk_7 (List.mem_of_getElem? (i := 156) rfl)), (tk_9 (List.mem_of_getElem? (i := 208) rfl)), (tk_9 (List.mem_of_getElem? (i := 209) rfl))⟩
def lw_privs_9 : List (MethodName × Nat) := [(⟨"HintHouseModel", "beginOf", "(I)I"⟩, 146), (⟨"HintHouseModel", "tableOf", "(I)I"⟩, 146), (⟨"HintHouseModel", "s2", "(I)I"⟩, 146), (⟨"HintHouseModel", "u2", "(I)I"⟩, 146), (⟨"HintHouseModel", "u1", "(I)I"⟩, 146), (⟨"HintHouseModel", "scaled", "(J)I"⟩, 146), (⟨"HintHouseModel", "lengthOf", "(I)I"⟩, 146), (⟨"HintHouseModel", "runProgram", "(I)V"⟩, 146), (⟨"HintHouseModel", "settings", "()V"⟩, 146), (⟨"HintHouseModel", "setRounding", "(IIII)V"⟩, 146), (⟨"HintHouseModel", "fail", "(I)V"⟩, 146), (⟨"HintHouseModel", "codeByte", "(I)I"⟩, 146), (⟨"HintHouseModel", "perform", "(I)V"⟩, 146), (⟨"HintHouseModel", "relative", "(I)V"⟩, 146), (⟨"HintHouseModel", "has", "(I)Z"⟩, 146), (⟨"HintHouseModel", "pop", "()I"⟩, 146)]
theorem lw_r9 : ∀ q ∈ lw_privs_9, lw_okq q := List.forall_mem_cons.mpr ⟨lw_p128, List.forall_mem_cons.mpr ⟨lw_p129, List.forall_mem_cons.mpr ⟨lw_p130, List.forall_mem_cons.mpr ⟨lw_p131, List.forall_mem_cons.mpr ⟨lw_p132, List.forall_mem_cons.mpr ⟨lw_p133, List.forall_mem_cons.mpr ⟨lw_p134, List.forall_mem_cons.mpr ⟨lw_p135, List.forall_mem_cons.mpr ⟨lw_p136, List.forall_mem_cons.mpr ⟨lw_p137, List.forall_mem_cons.mpr ⟨lw_p138, List.forall_mem_cons.mpr ⟨lw_p139, List.forall_mem_cons.mpr ⟨lw_p140, List.forall_mem_cons.mpr ⟨lw_p141, List.forall_mem_cons.mpr ⟨lw_p142, List.forall_mem_cons.mpr ⟨lw_p143, fun _ h => absurd h List.not_mem_nil⟩⟩⟩⟩⟩⟩⟩⟩⟩⟩⟩⟩⟩⟩⟩⟩
theorem lw_p144 : lw_okq (⟨"HintHouseModel", "pointOf", "(II)I"⟩, 146) := ⟨⟨by decide +kernel, by decide +kernel⟩, (tk_7 (List.mem_of_getElem? (i := 156) rfl)), (tk_9 (List.mem_of_getElem? (i := 212) rfl)), (tk_9 (List.mem_of_getElem? (i := 213) rfl))⟩
theorem lw_p145 : lw_okq (⟨"HintHouseModel", "originally", "(II)I"⟩, 146) := ⟨⟨by decide +kernel, by decide +kernel⟩, (tk_7 (List.mem_of_getElem? (i := 156) rfl)), (tk_9 (List.mem_of_getElem? (i := 216) rfl)), (tk_9 (List.mem_of_getElem? (i := 217) rfl))⟩
theorem lw_p146 : lw_okq (⟨"HintHouseModel", "singled", "(J)J"⟩, 146) := ⟨⟨by decide +kernel, by decide +kernel⟩, (tk_7 (List.mem_of_getElem? (i := 156) rfl)), (tk_9 (List.mem_of_getElem? (i := 224) rfl)), (tk_9 (List.mem_of_getElem? (i := 225) rfl))⟩
theorem lw_p147 : lw_okq (⟨"HintHouseModel", "rounded", "(J)J"⟩, 146) := ⟨⟨by decide +kernel, by decide +kernel⟩, (tk_7 (List.mem_of_getElem? (i := 156) rfl)), (tk_9 (List.mem_of_getElem? (i := 228) rfl)), (tk_9 (List.mem_of_getElem? (i := 229) rfl))⟩
theorem lw_p148 : lw_okq (⟨"HintHouseModel", "atLeast", "(IJJ)J"⟩, 146) := ⟨⟨by decide +kernel, by decide +kernel⟩, (tk_7 (List.mem_of_getElem? (i := 156) rfl)), (tk_9 (List.mem_of_getElem? (i := 233) rfl)), (tk_9 (List.mem_of_getElem? (i := 234) rfl))⟩
theorem lw_p149 : lw_okq (⟨"HintHouseModel", "settle", "(IIIIJ)V"⟩, 146) := ⟨⟨by decide +kernel, by decide +kernel⟩, (tk_7 (List.mem_of_getElem? (i := 156) rfl)), (tk_9 (List.mem_of_getElem? (i := 237) rfl)), (tk_9 (List.mem_of_getElem? (i := 238) rfl))⟩
theorem lw_p150 : lw_okq (⟨"HintHouseModel", "between", "(II)I"⟩, 146) := ⟨⟨by decide +kernel, by decide +kernel⟩, (tk_7 (List.mem_of_getElem? (i := 156) rfl)), (tk_10 (List.mem_of_getElem? (i := 1) rfl)), (tk_10 (List.mem_of_getElem? (i := 2) rfl))⟩
theorem lw_p151 : lw_okq (⟨"HintHouseModel", "move", "(IJ)V"⟩, 146) := ⟨⟨by decide +kernel, by decide +kernel⟩, (tk_7 (List.mem_of_getElem? (i := 156) rfl)), (tk_10 (List.mem_of_getElem? (i := 5) rfl)), (tk_10 (List.mem_of_getElem? (i := 6) rfl))⟩
theorem lw_p152 : lw_okq (⟨"HintHouseModel", "shiftBy", "(IJZ)V"⟩, 146) := ⟨⟨by decide +kernel, by decide +kernel⟩, (tk_7 (List.mem_of_getElem? (i := 156) rfl)), (tk_10 (List.mem_of_getElem? (i := 9) rfl)), (tk_10 (List.mem_of_getElem? (i := 10) rfl))⟩
theorem lw_p153 : lw_okq (⟨"HintHouseModel", "touch", "(I)V"⟩, 146) := ⟨⟨by decide +kernel, by decide +kernel⟩, (tk_7 (List.mem_of_getElem? (i := 156) rfl)), (tk_10 (List.mem_of_getElem? (i := 14) rfl)), (tk_10 (List.mem_of_getElem? (i := 15) rfl))⟩
theorem lw_p154 : lw_okq (⟨"HintHouseModel", "indirect", "(I)V"⟩, 146) := ⟨⟨by decide +kernel, by decide +kernel⟩, (tk_7 (List.mem_of_getElem? (i := 156) rfl)), (tk_10 (List.mem_of_getElem? (i := 18) rfl)), (tk_10 (List.mem_of_getElem? (i := 19) rfl))⟩
theorem lw_p155 : lw_okq (⟨"HintHouseModel", "cvtOf", "(I)I"⟩, 146) := ⟨⟨by decide +kernel, by decide +kernel⟩, (tk_7 (List.mem_of_getElem? (i := 156) rfl)), (tk_10 (List.mem_of_getElem? (i := 22) rfl)), (tk_10 (List.mem_of_getElem? (i := 23) rfl))⟩
theorem lw_p156 : lw_okq (⟨"HintHouseModel", "pushBytes", "(IZI)V"⟩, 146) := ⟨⟨by decide +kernel, by decide +kernel⟩, (tk_7 (List.mem_of_getElem? (i := 156) rfl)), (tk_10 (List.mem_of_getElem? (i := 26) rfl)), (tk_10 (List.mem_of_getElem? (i := 27) rfl))⟩
theorem lw_p157 : lw_okq (⟨"HintHouseModel", "push", "(J)V"⟩, 146) := ⟨⟨by decide +kernel, by decide +kernel⟩, (tk_7 (List.mem_of_getElem? (i := 156) rfl)), (tk_10 (List.mem_of_getElem? (i := 30) rfl)), (tk_10 (List.mem_of_getElem? (i := 31) rfl))⟩
theorem lw_p158 : lw_okq (⟨"HintHouseModel", "low", "(I)V"⟩, 146) := ⟨⟨by decide +kernel, by decide +kernel⟩, (tk_7 (List.mem_of_getElem? (i := 156) rfl)), (tk_10 (List.mem_of_getElem? (i := 34) rfl)), (tk_10 (List.mem_of_getElem? (i := 35) rfl))⟩
theorem lw_p159 : lw_okq (⟨"HintHouseModel", "setVectors", "(IIZZ)V"⟩, 146) := ⟨⟨by decide +kernel, by decide +kernel⟩, (tk_7 (List.mem_of_getElem? (i := 156) rfl)), (tk_10 (List.mem_of_getElem? (i := 38) rfl)), (tk_10 (List.mem_of_getElem? (i := 39) rfl))⟩
def lw_privs_10 : List (MethodName × Nat) := [(⟨"HintHouseModel", "pointOf", "(II)I"⟩, 146), (⟨"HintHouseModel", "originally", "(II)I"⟩, 146), (⟨"HintHouseModel", "singled", "(J)J"⟩, 146), (⟨"HintHouseModel", "rounded", "(J)J"⟩, 146), (⟨"HintHouseModel", "atLeast", "(IJJ)J"⟩, 146), (⟨"HintHouseModel", "settle", "(IIIIJ)V"⟩, 146), (⟨"HintHouseModel", "between", "(II)I"⟩, 146), (⟨"HintHouseModel", "move", "(IJ)V"⟩, 146), (⟨"HintHouseModel", "shiftBy", "(IJZ)V"⟩, 146), (⟨"HintHouseModel", "touch", "(I)V"⟩, 146), (⟨"HintHouseModel", "indirect", "(I)V"⟩, 146), (⟨"HintHouseModel", "cvtOf", "(I)I"⟩, 146), (⟨"HintHouseModel", "pushBytes", "(IZI)V"⟩, 146), (⟨"HintHouseModel", "push", "(J)V"⟩, 146), (⟨"HintHouseModel", "low", "(I)V"⟩, 146), (⟨"HintHouseModel", "setVectors", "(IIZZ)V"⟩, 146)]
theorem lw_r10 : ∀ q ∈ lw_privs_10, lw_okq q := List.forall_mem_cons.mpr ⟨lw_p144, List.forall_mem_cons.mpr ⟨lw_p145, List.forall_mem_cons.mpr ⟨lw_p146, List.forall_mem_cons.mpr ⟨lw_p147, List.forall_mem_cons.mpr ⟨lw_p148, List.forall_mem_cons.mpr ⟨lw_p149, List.forall_mem_cons.mpr ⟨lw_p150, List.forall_mem_cons.mpr ⟨lw_p151, List.forall_mem_cons.mpr ⟨lw_p152, List.forall_mem_cons.mpr ⟨lw_p153, List.forall_mem_cons.mpr ⟨lw_p154, List.forall_mem_cons.mpr ⟨lw_p155, List.forall_mem_cons.mpr ⟨lw_p156, List.forall_mem_cons.mpr ⟨lw_p157, List.forall_mem_cons.mpr ⟨lw_p158, List.forall_mem_cons.mpr ⟨lw_p159, fun _ h => absurd h List.not_mem_nil⟩⟩⟩⟩⟩⟩⟩⟩⟩⟩⟩⟩⟩⟩⟩⟩
theorem lw_p160 : lw_okq (⟨"HintHouseModel", "direction", "(II)V"⟩, 146) := ⟨⟨by decide +kernel, by decide +kernel⟩, (tk_7 (List.mem_of_getElem? (i := 156) rfl)), (tk_10 (List.mem_of_getElem? (i := 42) rfl)), (tk_10 (List.mem_of_getElem? (i := 43) rfl))⟩
theorem lw_p161 : lw_okq (⟨"HintHouseModel", "setZone", "(I)V"⟩, 146) := ⟨⟨by decide +kernel, by decide +kernel⟩, (tk_7 (List.mem_of_getElem? (i := 156) rfl)), (tk_10 (List.mem_of_getElem? (i := 51) rfl)), (tk_10 (List.mem_of_getElem? (i := 52) rfl))⟩
theorem lw_p162 : lw_okq (⟨"HintHouseModel", "isZone", "(I)Z"⟩, 146) := ⟨⟨by decide +kernel, by decide +kernel⟩, (tk_7 (List.mem_of_getElem? (i := 156) rfl)), (tk_10 (List.mem_of_getElem? (i := 55) rfl)), (tk_10 (List.mem_of_getElem? (i := 56) rfl))⟩
theorem lw_p163 : lw_okq (⟨"HintHouseModel", "pass", "(IIIZ)I"⟩, 146) := ⟨⟨by decide +kernel, by decide +kernel⟩, (tk_7 (List.mem_of_getElem? (i := 156) rfl)), (tk_10 (List.mem_of_getElem? (i := 60) rfl)), (tk_10 (List.mem_of_getElem? (i := 61) rfl))⟩
theorem lw_p164 : lw_okq (⟨"HintHouseModel", "codeLength", "(I)I"⟩, 146) := ⟨⟨by decide +kernel, by decide +kernel⟩, (tk_7 (List.mem_of_getElem? (i := 156) rfl)), (tk_10 (List.mem_of_getElem? (i := 64) rfl)), (tk_10 (List.mem_of_getElem? (i := 65) rfl))⟩
theorem lw_p165 : lw_okq (⟨"HintHouseModel", "jump", "(J)V"⟩, 146) := ⟨⟨by decide +kernel, by decide +kernel⟩, (tk_7 (List.mem_of_getElem? (i := 156) rfl)), (tk_10 (List.mem_of_getElem? (i := 68) rfl)), (tk_10 (List.mem_of_getElem? (i := 69) rfl))⟩
theorem lw_p166 : lw_okq (⟨"HintHouseModel", "stacks", "(I)V"⟩, 146) := ⟨⟨by decide +kernel, by decide +kernel⟩, (tk_7 (List.mem_of_getElem? (i := 156) rfl)), (tk_10 (List.mem_of_getElem? (i := 72) rfl)), (tk_10 (List.mem_of_getElem? (i := 73) rfl))⟩
theorem lw_p167 : lw_okq (⟨"HintHouseModel", "callFunction", "(Z)V"⟩, 146) := ⟨⟨by decide +kernel, by decide +kernel⟩, (tk_7 (List.mem_of_getElem? (i := 156) rfl)), (tk_10 (List.mem_of_getElem? (i := 76) rfl)), (tk_10 (List.mem_of_getElem? (i := 77) rfl))⟩
theorem lw_p168 : lw_okq (⟨"HintHouseModel", "call", "(III)V"⟩, 146) := ⟨⟨by decide +kernel, by decide +kernel⟩, (tk_7 (List.mem_of_getElem? (i := 156) rfl)), (tk_10 (List.mem_of_getElem? (i := 80) rfl)), (tk_10 (List.mem_of_getElem? (i := 81) rfl))⟩
theorem lw_p169 : lw_okq (⟨"HintHouseModel", "defineFunction", "()V"⟩, 146) := ⟨⟨by decide +kernel, by decide +kernel⟩, (tk_7 (List.mem_of_getElem? (i := 156) rfl)), (tk_10 (List.mem_of_getElem? (i := 84) rfl)), (tk_10 (List.mem_of_getElem? (i := 85) rfl))⟩
theorem lw_p170 : lw_okq (⟨"HintHouseModel", "endFunction", "()V"⟩, 146) := ⟨⟨by decide +kernel, by decide +kernel⟩, (tk_7 (List.mem_of_getElem? (i := 156) rfl)), (tk_10 (List.mem_of_getElem? (i := 88) rfl)), (tk_10 (List.mem_of_getElem? (i := 89) rfl))⟩
theorem lw_p171 : lw_okq (⟨"HintHouseModel", "longOf", "(I)I"⟩, 146) := ⟨⟨by decide +kernel, by decide +kernel⟩, (tk_7 (List.mem_of_getElem? (i := 156) rfl)), (tk_10 (List.mem_of_getElem? (i := 92) rfl)), (tk_10 (List.mem_of_getElem? (i := 93) rfl))⟩
theorem lw_p172 : lw_okq (⟨"HintHouseModel", "unknown", "(I)V"⟩, 146) := ⟨⟨by decide +kernel, by decide +kernel⟩, (tk_7 (List.mem_of_getElem? (i := 156) rfl)), (tk_10 (List.mem_of_getElem? (i := 96) rfl)), (tk_10 (List.mem_of_getElem? (i := 97) rfl))⟩
theorem lw_p173 : lw_okq (⟨"HintHouseModel", "middle", "(I)V"⟩, 146) := ⟨⟨by decide +kernel, by decide +kernel⟩, (tk_7 (List.mem_of_getElem? (i := 156) rfl)), (tk_10 (List.mem_of_getElem? (i := 100) rfl)), (tk_10 (List.mem_of_getElem? (i := 101) rfl))⟩
theorem lw_p174 : lw_okq (⟨"HintHouseModel", "followAll", "([I[II)V"⟩, 146) := ⟨⟨by decide +kernel, by decide +kernel⟩, (tk_7 (List.mem_of_getElem? (i := 156) rfl)), (tk_10 (List.mem_of_getElem? (i := 104) rfl)), (tk_10 (List.mem_of_getElem? (i := 105) rfl))⟩
theorem lw_p175 : lw_okq (⟨"HintHouseModel", "likeReference", "(I)V"⟩, 146) := ⟨⟨by decide +kernel, by decide +kernel⟩, (tk_7 (List.mem_of_getElem? (i := 156) rfl)), (tk_10 (List.mem_of_getElem? (i := 111) rfl)), (tk_10 (List.mem_of_getElem? (i := 112) rfl))⟩
def lw_privs_11 : List (MethodName × Nat) := [(⟨"HintHouseModel", "direction", "(II)V"⟩, 146), (⟨"HintHouseModel", "setZone", "(I)V"⟩, 146), (⟨"HintHouseModel", "isZone", "(I)Z"⟩, 146), (⟨"HintHouseModel", "pass", "(IIIZ)I"⟩, 146), (⟨"HintHouseModel", "codeLength", "(I)I"⟩, 146), (⟨"HintHouseModel", "jump", "(J)V"⟩, 146), (⟨"HintHouseModel", "stacks", "(I)V"⟩, 146), (⟨"HintHouseModel", "callFunction", "(Z)V"⟩, 146), (⟨"HintHouseModel", "call", "(III)V"⟩, 146), (⟨"HintHouseModel", "defineFunction", "()V"⟩, 146), (⟨"HintHouseModel", "endFunction", "()V"⟩, 146), (⟨"HintHouseModel", "longOf", "(I)I"⟩, 146), (⟨"HintHouseModel", "unknown", "(I)V"⟩, 146), (⟨"HintHouseModel", "middle", "(I)V"⟩, 146), (⟨"HintHouseModel", "followAll", "([I[II)V"⟩, 146), (⟨"HintHouseModel", "likeReference", "(I)V"⟩, 146)]
theorem lw_r11 : ∀ q ∈ lw_privs_11, lw_okq q := List.forall_mem_cons.mpr ⟨lw_p160, List.forall_mem_cons.mpr ⟨lw_p161, List.forall_mem_cons.mpr ⟨lw_p162, List.forall_mem_cons.mpr ⟨lw_p163, List.forall_mem_cons.mpr ⟨lw_p164, List.forall_mem_cons.mpr ⟨lw_p165, List.forall_mem_cons.mpr ⟨lw_p166, List.forall_mem_cons.mpr ⟨lw_p167, List.forall_mem_cons.mpr ⟨lw_p168, List.forall_mem_cons.mpr ⟨lw_p169, List.forall_mem_cons.mpr ⟨lw_p170, List.forall_mem_cons.mpr ⟨lw_p171, List.forall_mem_cons.mpr ⟨lw_p172, List.forall_mem_cons.mpr ⟨lw_p173, List.forall_mem_cons.mpr ⟨lw_p174, List.forall_mem_cons.mpr ⟨lw_p175, fun _ h => absurd h List.not_mem_nil⟩⟩⟩⟩⟩⟩⟩⟩⟩⟩⟩⟩⟩⟩⟩⟩
theorem lw_p176 : lw_okq (⟨"HintHouseModel", "loops", "(I)V"⟩, 146) := ⟨⟨by decide +kernel, by decide +kernel⟩, (tk_7 (List.mem_of_getElem? (i := 156) rfl)), (tk_10 (List.mem_of_getElem? (i := 115) rfl)), (tk_10 (List.mem_of_getElem? (i := 116) rfl))⟩
theorem lw_p177 : lw_okq (⟨"HintHouseModel", "inBetween", "(I)V"⟩, 146) := ⟨⟨by decide +kernel, by decide +kernel⟩, (tk_7 (List.mem_of_getElem? (i := 156) rfl)), (tk_10 (List.mem_of_getElem? (i := 119) rfl)), (tk_10 (List.mem_of_getElem? (i := 120) rfl))⟩
theorem lw_p178 : lw_okq (⟨"HintHouseModel", "toDistance", "(I)V"⟩, 146) := ⟨⟨by decide +kernel, by decide +kernel⟩, (tk_7 (List.mem_of_getElem? (i := 156) rfl)), (tk_10 (List.mem_of_getElem? (i := 123) rfl)), (tk_10 (List.mem_of_getElem? (i := 124) rfl))⟩
theorem lw_p179 : lw_okq (⟨"HintHouseModel", "toCvt", "(I)V"⟩, 146) := ⟨⟨by decide +kernel, by decide +kernel⟩, (tk_7 (List.mem_of_getElem? (i := 156) rfl)), (tk_10 (List.mem_of_getElem? (i := 127) rfl)), (tk_10 (List.mem_of_getElem? (i := 128) rfl))⟩
theorem lw_p180 : lw_okq (⟨"HintHouseModel", "setCvt", "(Z)V"⟩, 146) := ⟨⟨by decide +kernel, by decide +kernel⟩, (tk_7 (List.mem_of_getElem? (i := 156) rfl)), (tk_10 (List.mem_of_getElem? (i := 131) rfl)), (tk_10 (List.mem_of_getElem? (i := 132) rfl))⟩
theorem lw_p181 : lw_okq (⟨"HintHouseModel", "tests", "(I)V"⟩, 146) := ⟨⟨by decide +kernel, by decide +kernel⟩, (tk_7 (List.mem_of_getElem? (i := 156) rfl)), (tk_10 (List.mem_of_getElem? (i := 135) rfl)), (tk_10 (List.mem_of_getElem? (i := 136) rfl))⟩
theorem lw_p182 : lw_okq (⟨"HintHouseModel", "deltas", "(IZ)V"⟩, 146) := ⟨⟨by decide +kernel, by decide +kernel⟩, (tk_7 (List.mem_of_getElem? (i := 156) rfl)), (tk_10 (List.mem_of_getElem? (i := 143) rfl)), (tk_10 (List.mem_of_getElem? (i := 144) rfl))⟩
theorem lw_p183 : lw_okq (⟨"HintHouseModel", "high", "(I)V"⟩, 146) := ⟨⟨by decide +kernel, by decide +kernel⟩, (tk_7 (List.mem_of_getElem? (i := 156) rfl)), (tk_10 (List.mem_of_getElem? (i := 148) rfl)), (tk_10 (List.mem_of_getElem? (i := 149) rfl))⟩
theorem lw_p184 : lw_okq (⟨"HintHouseModel", "ownRounding", "(I)V"⟩, 146) := ⟨⟨by decide +kernel, by decide +kernel⟩, (tk_7 (List.mem_of_getElem? (i := 156) rfl)), (tk_10 (List.mem_of_getElem? (i := 154) rfl)), (tk_10 (List.mem_of_getElem? (i := 155) rfl))⟩
theorem lw_p185 : lw_okq (⟨"HintHouseModel", "more", "(I)V"⟩, 146) := ⟨⟨by decide +kernel, by decide +kernel⟩, (tk_7 (List.mem_of_getElem? (i := 156) rfl)), (tk_10 (List.mem_of_getElem? (i := 158) rfl)), (tk_10 (List.mem_of_getElem? (i := 159) rfl))⟩
theorem lw_p186 : lw_okq (⟨"HintHouseModel", "defineOwn", "()V"⟩, 146) := ⟨⟨by decide +kernel, by decide +kernel⟩, (tk_7 (List.mem_of_getElem? (i := 156) rfl)), (tk_10 (List.mem_of_getElem? (i := 163) rfl)), (tk_10 (List.mem_of_getElem? (i := 164) rfl))⟩
theorem lw_p187 : lw_okq (⟨"HintHouseModel", "failedNow", "()I"⟩, 146) := ⟨⟨by decide +kernel, by decide +kernel⟩, (tk_7 (List.mem_of_getElem? (i := 156) rfl)), (tk_10 (List.mem_of_getElem? (i := 168) rfl)), (tk_10 (List.mem_of_getElem? (i := 169) rfl))⟩
theorem lw_p188 : lw_okq (⟨"HintHouseModel", "keep", "()V"⟩, 146) := ⟨⟨by decide +kernel, by decide +kernel⟩, (tk_7 (List.mem_of_getElem? (i := 156) rfl)), (tk_10 (List.mem_of_getElem? (i := 172) rfl)), (tk_10 (List.mem_of_getElem? (i := 173) rfl))⟩
theorem lw_p189 : lw_okq (⟨"HintHouseModel", "makeIt", "(I)I"⟩, 146) := ⟨⟨by decide +kernel, by decide +kernel⟩, (tk_7 (List.mem_of_getElem? (i := 156) rfl)), (tk_10 (List.mem_of_getElem? (i := 180) rfl)), (tk_10 (List.mem_of_getElem? (i := 181) rfl))⟩
theorem lw_p190 : lw_okq (⟨"HintHouseModel", "makeGlyph", "(II)V"⟩, 146) := ⟨⟨by decide +kernel, by decide +kernel⟩, (tk_7 (List.mem_of_getElem? (i := 156) rfl)), (tk_10 (List.mem_of_getElem? (i := 184) rfl)), (tk_10 (List.mem_of_getElem? (i := 185) rfl))⟩
theorem lw_p191 : lw_okq (⟨"HintHouseModel", "leftOf", "(I)I"⟩, 146) := ⟨⟨by decide +kernel, by decide +kernel⟩, (tk_7 (List.mem_of_getElem? (i := 156) rfl)), (tk_10 (List.mem_of_getElem? (i := 188) rfl)), (tk_10 (List.mem_of_getElem? (i := 189) rfl))⟩
def lw_privs_12 : List (MethodName × Nat) := [(⟨"HintHouseModel", "loops", "(I)V"⟩, 146), (⟨"HintHouseModel", "inBetween", "(I)V"⟩, 146), (⟨"HintHouseModel", "toDistance", "(I)V"⟩, 146), (⟨"HintHouseModel", "toCvt", "(I)V"⟩, 146), (⟨"HintHouseModel", "setCvt", "(Z)V"⟩, 146), (⟨"HintHouseModel", "tests", "(I)V"⟩, 146), (⟨"HintHouseModel", "deltas", "(IZ)V"⟩, 146), (⟨"HintHouseModel", "high", "(I)V"⟩, 146), (⟨"HintHouseModel", "ownRounding", "(I)V"⟩, 146), (⟨"HintHouseModel", "more", "(I)V"⟩, 146), (⟨"HintHouseModel", "defineOwn", "()V"⟩, 146), (⟨"HintHouseModel", "failedNow", "()I"⟩, 146), (⟨"HintHouseModel", "keep", "()V"⟩, 146), (⟨"HintHouseModel", "makeIt", "(I)I"⟩, 146), (⟨"HintHouseModel", "makeGlyph", "(II)V"⟩, 146), (⟨"HintHouseModel", "leftOf", "(I)I"⟩, 146)]
theorem lw_r12 : ∀ q ∈ lw_privs_12, lw_okq q := List.forall_mem_cons.mpr ⟨lw_p176, List.forall_mem_cons.mpr ⟨lw_p177, List.forall_mem_cons.mpr ⟨lw_p178, List.forall_mem_cons.mpr ⟨lw_p179, List.forall_mem_cons.mpr ⟨lw_p180, List.forall_mem_cons.mpr ⟨lw_p181, List.forall_mem_cons.mpr ⟨lw_p182, List.forall_mem_cons.mpr ⟨lw_p183, List.forall_mem_cons.mpr ⟨lw_p184, List.forall_mem_cons.mpr ⟨lw_p185, List.forall_mem_cons.mpr ⟨lw_p186, List.forall_mem_cons.mpr ⟨lw_p187, List.forall_mem_cons.mpr ⟨lw_p188, List.forall_mem_cons.mpr ⟨lw_p189, List.forall_mem_cons.mpr ⟨lw_p190, List.forall_mem_cons.mpr ⟨lw_p191, fun _ h => absurd h List.not_mem_nil⟩⟩⟩⟩⟩⟩⟩⟩⟩⟩⟩⟩⟩⟩⟩⟩
theorem lw_p192 : lw_okq (⟨"HintHouseModel", "bytesOf", "(I)V"⟩, 146) := ⟨⟨by decide +kernel, by decide +kernel⟩, (tk_7 (List.mem_of_getElem? (i := 156) rfl)), (tk_10 (List.mem_of_getElem? (i := 192) rfl)), (tk_10 (List.mem_of_getElem? (i := 193) rfl))⟩
theorem lw_p193 : lw_okq (⟨"HintHouseModel", "loca", "(I)J"⟩, 146) := ⟨⟨by decide +kernel, by decide +kernel⟩, (tk_7 (List.mem_of_getElem? (i := 156) rfl)), (tk_10 (List.mem_of_getElem? (i := 197) rfl)), (tk_10 (List.mem_of_getElem? (i := 198) rfl))⟩
theorem lw_p194 : lw_okq (⟨"HintHouseModel", "u4", "(I)J"⟩, 146) := ⟨⟨by decide +kernel, by decide +kernel⟩, (tk_7 (List.mem_of_getElem? (i := 156) rfl)), (tk_10 (List.mem_of_getElem? (i := 202) rfl)), (tk_10 (List.mem_of_getElem? (i := 203) rfl))⟩
theorem lw_p195 : lw_okq (⟨"HintHouseModel", "bearingOf", "(I)I"⟩, 146) := ⟨⟨by decide +kernel, by decide +kernel⟩, (tk_7 (List.mem_of_getElem? (i := 156) rfl)), (tk_10 (List.mem_of_getElem? (i := 206) rfl)), (tk_10 (List.mem_of_getElem? (i := 207) rfl))⟩
theorem lw_p196 : lw_okq (⟨"HintHouseModel", "advanceOf", "(I)I"⟩, 146) := ⟨⟨by decide +kernel, by decide +kernel⟩, (tk_7 (List.mem_of_getElem? (i := 156) rfl)), (tk_10 (List.mem_of_getElem? (i := 211) rfl)), (tk_10 (List.mem_of_getElem? (i := 212) rfl))⟩
theorem lw_p197 : lw_okq (⟨"HintHouseModel", "isGlyph", "(I)Z"⟩, 146) := ⟨⟨by decide +kernel, by decide +kernel⟩, (tk_7 (List.mem_of_getElem? (i := 156) rfl)), (tk_10 (List.mem_of_getElem? (i := 215) rfl)), (tk_10 (List.mem_of_getElem? (i := 216) rfl))⟩
theorem lw_p198 : lw_okq (⟨"HintHouseModel", "simple", "()Z"⟩, 146) := ⟨⟨by decide +kernel, by decide +kernel⟩, (tk_7 (List.mem_of_getElem? (i := 156) rfl)), (tk_10 (List.mem_of_getElem? (i := 220) rfl)), (tk_10 (List.mem_of_getElem? (i := 221) rfl))⟩
theorem lw_p199 : lw_okq (⟨"HintHouseModel", "coordinates", "(I[III)I"⟩, 146) := ⟨⟨by decide +kernel, by decide +kernel⟩, (tk_7 (List.mem_of_getElem? (i := 156) rfl)), (tk_10 (List.mem_of_getElem? (i := 224) rfl)), (tk_10 (List.mem_of_getElem? (i := 225) rfl))⟩
theorem lw_p200 : lw_okq (⟨"HintHouseModel", "composed", "()Z"⟩, 146) := ⟨⟨by decide +kernel, by decide +kernel⟩, (tk_7 (List.mem_of_getElem? (i := 156) rfl)), (tk_10 (List.mem_of_getElem? (i := 228) rfl)), (tk_10 (List.mem_of_getElem? (i := 229) rfl))⟩
theorem lw_p201 : lw_okq (⟨"HintHouseModel", "s1", "(I)I"⟩, 146) := ⟨⟨by decide +kernel, by decide +kernel⟩, (tk_7 (List.mem_of_getElem? (i := 156) rfl)), (tk_10 (List.mem_of_getElem? (i := 232) rfl)), (tk_10 (List.mem_of_getElem? (i := 233) rfl))⟩
theorem lw_p202 : lw_okq (⟨"HintHouseModel", "makePart", "(III)V"⟩, 146) := ⟨⟨by decide +kernel, by decide +kernel⟩, (tk_7 (List.mem_of_getElem? (i := 156) rfl)), (tk_10 (List.mem_of_getElem? (i := 236) rfl)), (tk_10 (List.mem_of_getElem? (i := 237) rfl))⟩
theorem lw_p203 : lw_okq (⟨"HintHouseModel", "failOutside", "(I)V"⟩, 146) := ⟨⟨by decide +kernel, by decide +kernel⟩, (tk_7 (List.mem_of_getElem? (i := 156) rfl)), (tk_11 (List.mem_of_getElem? (i := 0) rfl)), (tk_11 (List.mem_of_getElem? (i := 1) rfl))⟩
theorem lw_p204 : lw_okq (⟨"HintHouseModel", "hint", "(I)V"⟩, 146) := ⟨⟨by decide +kernel, by decide +kernel⟩, (tk_7 (List.mem_of_getElem? (i := 156) rfl)), (tk_11 (List.mem_of_getElem? (i := 10) rfl)), (tk_11 (List.mem_of_getElem? (i := 11) rfl))⟩
theorem lw_p205 : lw_okq (⟨"HintHouseModel", "bring", "()V"⟩, 146) := ⟨⟨by decide +kernel, by decide +kernel⟩, (tk_7 (List.mem_of_getElem? (i := 156) rfl)), (tk_11 (List.mem_of_getElem? (i := 14) rfl)), (tk_11 (List.mem_of_getElem? (i := 15) rfl))⟩
theorem lw_p206 : lw_okq (⟨"HintHouseModel", "isInside", "(II)Z"⟩, 146) := ⟨⟨by decide +kernel, by decide +kernel⟩, (tk_7 (List.mem_of_getElem? (i := 156) rfl)), (tk_11 (List.mem_of_getElem? (i := 26) rfl)), (tk_11 (List.mem_of_getElem? (i := 27) rfl))⟩
theorem lw_p207 : lw_okq (⟨"HintHouseModel", "contour", "(IIJJ)V"⟩, 146) := ⟨⟨by decide +kernel, by decide +kernel⟩, (tk_7 (List.mem_of_getElem? (i := 156) rfl)), (tk_11 (List.mem_of_getElem? (i := 30) rfl)), (tk_11 (List.mem_of_getElem? (i := 31) rfl))⟩
def lw_privs_13 : List (MethodName × Nat) := [(⟨"HintHouseModel", "bytesOf", "(I)V"⟩, 146), (⟨"HintHouseModel", "loca", "(I)J"⟩, 146), (⟨"HintHouseModel", "u4", "(I)J"⟩, 146), (⟨"HintHouseModel", "bearingOf", "(I)I"⟩, 146), (⟨"HintHouseModel", "advanceOf", "(I)I"⟩, 146), (⟨"HintHouseModel", "isGlyph", "(I)Z"⟩, 146), (⟨"HintHouseModel", "simple", "()Z"⟩, 146), (⟨"HintHouseModel", "coordinates", "(I[III)I"⟩, 146), (⟨"HintHouseModel", "composed", "()Z"⟩, 146), (⟨"HintHouseModel", "s1", "(I)I"⟩, 146), (⟨"HintHouseModel", "makePart", "(III)V"⟩, 146), (⟨"HintHouseModel", "failOutside", "(I)V"⟩, 146), (⟨"HintHouseModel", "hint", "(I)V"⟩, 146), (⟨"HintHouseModel", "bring", "()V"⟩, 146), (⟨"HintHouseModel", "isInside", "(II)Z"⟩, 146), (⟨"HintHouseModel", "contour", "(IIJJ)V"⟩, 146)]
theorem lw_r13 : ∀ q ∈ lw_privs_13, lw_okq q := List.forall_mem_cons.mpr ⟨lw_p192, List.forall_mem_cons.mpr ⟨lw_p193, List.forall_mem_cons.mpr ⟨lw_p194, List.forall_mem_cons.mpr ⟨lw_p195, List.forall_mem_cons.mpr ⟨lw_p196, List.forall_mem_cons.mpr ⟨lw_p197, List.forall_mem_cons.mpr ⟨lw_p198, List.forall_mem_cons.mpr ⟨lw_p199, List.forall_mem_cons.mpr ⟨lw_p200, List.forall_mem_cons.mpr ⟨lw_p201, List.forall_mem_cons.mpr ⟨lw_p202, List.forall_mem_cons.mpr ⟨lw_p203, List.forall_mem_cons.mpr ⟨lw_p204, List.forall_mem_cons.mpr ⟨lw_p205, List.forall_mem_cons.mpr ⟨lw_p206, List.forall_mem_cons.mpr ⟨lw_p207, fun _ h => absurd h List.not_mem_nil⟩⟩⟩⟩⟩⟩⟩⟩⟩⟩⟩⟩⟩⟩⟩⟩
theorem lw_p208 : lw_okq (⟨"HintHouseModel", "node", "(IIZ)V"⟩, 146) := ⟨⟨by decide +kernel, by decide +kernel⟩, (tk_7 (List.mem_of_getElem? (i := 156) rfl)), (tk_11 (List.mem_of_getElem? (i := 34) rfl)), (tk_11 (List.mem_of_getElem? (i := 35) rfl))⟩
theorem lw_p209 : lw_okq (⟨"HintHouseModel", "straight", "(JJJJ)V"⟩, 146) := ⟨⟨by decide +kernel, by decide +kernel⟩, (tk_7 (List.mem_of_getElem? (i := 156) rfl)), (tk_11 (List.mem_of_getElem? (i := 38) rfl)), (tk_11 (List.mem_of_getElem? (i := 39) rfl))⟩
theorem lw_p210 : lw_okq (⟨"HintHouseModel", "curve", "(JJJJJJ)V"⟩, 146) := ⟨⟨by decide +kernel, by decide +kernel⟩, (tk_7 (List.mem_of_getElem? (i := 156) rfl)), (tk_11 (List.mem_of_getElem? (i := 48) rfl)), (tk_11 (List.mem_of_getElem? (i := 49) rfl))⟩
theorem lw_p211 : lw_okq (⟨"HintHouseModel", "drawIt", "(II)I"⟩, 146) := ⟨⟨by decide +kernel, by decide +kernel⟩, (tk_7 (List.mem_of_getElem? (i := 156) rfl)), (tk_11 (List.mem_of_getElem? (i := 66) rfl)), (tk_11 (List.mem_of_getElem? (i := 67) rfl))⟩
theorem lw_p212 : lw_okq (⟨"HintHouseModel", "glyphAt", "(I)I"⟩, 146) := ⟨⟨by decide +kernel, by decide +kernel⟩, (tk_7 (List.mem_of_getElem? (i := 156) rfl)), (tk_11 (List.mem_of_getElem? (i := 83) rfl)), (tk_11 (List.mem_of_getElem? (i := 84) rfl))⟩
theorem lw_p213 : lw_okq (⟨"HintHouseModel", "mapped", "(I)J"⟩, 146) := ⟨⟨by decide +kernel, by decide +kernel⟩, (tk_7 (List.mem_of_getElem? (i := 156) rfl)), (tk_11 (List.mem_of_getElem? (i := 87) rfl)), (tk_11 (List.mem_of_getElem? (i := 88) rfl))⟩
theorem lw_p214 : lw_okq (⟨"HintHouseModel", "kernOf", "(II)I"⟩, 146) := ⟨⟨by decide +kernel, by decide +kernel⟩, (tk_7 (List.mem_of_getElem? (i := 156) rfl)), (tk_11 (List.mem_of_getElem? (i := 92) rfl)), (tk_11 (List.mem_of_getElem? (i := 93) rfl))⟩
theorem lw_p215 : lw_okq (⟨"HintHouseModel", "check", "()I"⟩, 146) := ⟨⟨by decide +kernel, by decide +kernel⟩, (tk_7 (List.mem_of_getElem? (i := 156) rfl)), (tk_11 (List.mem_of_getElem? (i := 112) rfl)), (tk_11 (List.mem_of_getElem? (i := 113) rfl))⟩
theorem lw_p216 : lw_okq (⟨"HintHouseModel", "directory", "()Z"⟩, 146) := ⟨⟨by decide +kernel, by decide +kernel⟩, (tk_7 (List.mem_of_getElem? (i := 156) rfl)), (tk_11 (List.mem_of_getElem? (i := 116) rfl)), (tk_11 (List.mem_of_getElem? (i := 117) rfl))⟩
theorem lw_p217 : lw_okq (⟨"HintHouseModel", "sumOf", "(III)I"⟩, 146) := ⟨⟨by decide +kernel, by decide +kernel⟩, (tk_7 (List.mem_of_getElem? (i := 156) rfl)), (tk_11 (List.mem_of_getElem? (i := 124) rfl)), (tk_11 (List.mem_of_getElem? (i := 125) rfl))⟩
theorem lw_p218 : lw_okq (⟨"HintHouseModel", "head", "()Z"⟩, 146) := ⟨⟨by decide +kernel, by decide +kernel⟩, (tk_7 (List.mem_of_getElem? (i := 156) rfl)), (tk_11 (List.mem_of_getElem? (i := 131) rfl)), (tk_11 (List.mem_of_getElem? (i := 132) rfl))⟩
theorem lw_p219 : lw_okq (⟨"HintHouseModel", "maxp", "()Z"⟩, 146) := ⟨⟨by decide +kernel, by decide +kernel⟩, (tk_7 (List.mem_of_getElem? (i := 156) rfl)), (tk_11 (List.mem_of_getElem? (i := 137) rfl)), (tk_11 (List.mem_of_getElem? (i := 138) rfl))⟩
theorem lw_p220 : lw_okq (⟨"HintHouseModel", "checkGlyphs", "()I"⟩, 146) := ⟨⟨by decide +kernel, by decide +kernel⟩, (tk_7 (List.mem_of_getElem? (i := 156) rfl)), (tk_11 (List.mem_of_getElem? (i := 143) rfl)), (tk_11 (List.mem_of_getElem? (i := 144) rfl))⟩
theorem lw_p221 : lw_okq (⟨"HintHouseModel", "areWithin", "()Z"⟩, 146) := ⟨⟨by decide +kernel, by decide +kernel⟩, (tk_7 (List.mem_of_getElem? (i := 156) rfl)), (tk_11 (List.mem_of_getElem? (i := 147) rfl)), (tk_11 (List.mem_of_getElem? (i := 148) rfl))⟩
theorem lw_p222 : lw_okq (⟨"HintHouseModel", "map", "()Z"⟩, 146) := ⟨⟨by decide +kernel, by decide +kernel⟩, (tk_7 (List.mem_of_getElem? (i := 156) rfl)), (tk_11 (List.mem_of_getElem? (i := 151) rfl)), (tk_11 (List.mem_of_getElem? (i := 152) rfl))⟩
theorem lw_p223 : lw_okq (⟨"HintHouseModel", "setMany", "(I)Z"⟩, 146) := ⟨⟨by decide +kernel, by decide +kernel⟩, (tk_7 (List.mem_of_getElem? (i := 156) rfl)), (tk_11 (List.mem_of_getElem? (i := 155) rfl)), (tk_11 (List.mem_of_getElem? (i := 156) rfl))⟩
def lw_privs_14 : List (MethodName × Nat) := [(⟨"HintHouseModel", "node", "(IIZ)V"⟩, 146), (⟨"HintHouseModel", "straight", "(JJJJ)V"⟩, 146), (⟨"HintHouseModel", "curve", "(JJJJJJ)V"⟩, 146), (⟨"HintHouseModel", "drawIt", "(II)I"⟩, 146), (⟨"HintHouseModel", "glyphAt", "(I)I"⟩, 146), (⟨"HintHouseModel", "mapped", "(I)J"⟩, 146), (⟨"HintHouseModel", "kernOf", "(II)I"⟩, 146), (⟨"HintHouseModel", "check", "()I"⟩, 146), (⟨"HintHouseModel", "directory", "()Z"⟩, 146), (⟨"HintHouseModel", "sumOf", "(III)I"⟩, 146), (⟨"HintHouseModel", "head", "()Z"⟩, 146), (⟨"HintHouseModel", "maxp", "()Z"⟩, 146), (⟨"HintHouseModel", "checkGlyphs", "()I"⟩, 146), (⟨"HintHouseModel", "areWithin", "()Z"⟩, 146), (⟨"HintHouseModel", "map", "()Z"⟩, 146), (⟨"HintHouseModel", "setMany", "(I)Z"⟩, 146)]
theorem lw_r14 : ∀ q ∈ lw_privs_14, lw_okq q := List.forall_mem_cons.mpr ⟨lw_p208, List.forall_mem_cons.mpr ⟨lw_p209, List.forall_mem_cons.mpr ⟨lw_p210, List.forall_mem_cons.mpr ⟨lw_p211, List.forall_mem_cons.mpr ⟨lw_p212, List.forall_mem_cons.mpr ⟨lw_p213, List.forall_mem_cons.mpr ⟨lw_p214, List.forall_mem_cons.mpr ⟨lw_p215, List.forall_mem_cons.mpr ⟨lw_p216, List.forall_mem_cons.mpr ⟨lw_p217, List.forall_mem_cons.mpr ⟨lw_p218, List.forall_mem_cons.mpr ⟨lw_p219, List.forall_mem_cons.mpr ⟨lw_p220, List.forall_mem_cons.mpr ⟨lw_p221, List.forall_mem_cons.mpr ⟨lw_p222, List.forall_mem_cons.mpr ⟨lw_p223, fun _ h => absurd h List.not_mem_nil⟩⟩⟩⟩⟩⟩⟩⟩⟩⟩⟩⟩⟩⟩⟩⟩
theorem lw_p224 : lw_okq (⟨"HintHouseModel", "segments", "(I)Z"⟩, 146) := ⟨⟨by decide +kernel, by decide +kernel⟩, (tk_7 (List.mem_of_getElem? (i := 156) rfl)), (tk_11 (List.mem_of_getElem? (i := 159) rfl)), (tk_11 (List.mem_of_getElem? (i := 160) rfl))⟩
theorem lw_p225 : lw_okq (⟨"HintHouseModel", "groups", "(I)Z"⟩, 146) := ⟨⟨by decide +kernel, by decide +kernel⟩, (tk_7 (List.mem_of_getElem? (i := 156) rfl)), (tk_11 (List.mem_of_getElem? (i := 164) rfl)), (tk_11 (List.mem_of_getElem? (i := 165) rfl))⟩
theorem lw_p226 : lw_okq (⟨"HintHouseModel", "kerns", "()Z"⟩, 146) := ⟨⟨by decide +kernel, by decide +kernel⟩, (tk_7 (List.mem_of_getElem? (i := 156) rfl)), (tk_11 (List.mem_of_getElem? (i := 168) rfl)), (tk_11 (List.mem_of_getElem? (i := 169) rfl))⟩
def lw_privs_15 : List (MethodName × Nat) := [(⟨"HintHouseModel", "segments", "(I)Z"⟩, 146), (⟨"HintHouseModel", "groups", "(I)Z"⟩, 146), (⟨"HintHouseModel", "kerns", "()Z"⟩, 146)]
theorem lw_r15 : ∀ q ∈ lw_privs_15, lw_okq q := List.forall_mem_cons.mpr ⟨lw_p224, List.forall_mem_cons.mpr ⟨lw_p225, List.forall_mem_cons.mpr ⟨lw_p226, fun _ h => absurd h List.not_mem_nil⟩⟩⟩
def lw_privs : List (MethodName × Nat) := lw_privs_1 ++ (lw_privs_2 ++ (lw_privs_3 ++ (lw_privs_4 ++ (lw_privs_5 ++ (lw_privs_6 ++ (lw_privs_7 ++ (lw_privs_8 ++ (lw_privs_9 ++ (lw_privs_10 ++ (lw_privs_11 ++ (lw_privs_12 ++ (lw_privs_13 ++ (lw_privs_14 ++ (lw_privs_15))))))))))))))
def lw_tbl : List Cond := k2_sels lw_privs ++ tables_1
theorem lw_privs_ok : ∀ q ∈ lw_privs, lw_okq q := by
  show ∀ q ∈ lw_privs_1 ++ (lw_privs_2 ++ (lw_privs_3 ++ (lw_privs_4 ++ (lw_privs_5 ++ (lw_privs_6 ++ (lw_privs_7 ++ (lw_privs_8 ++ (lw_privs_9 ++ (lw_privs_10 ++ (lw_privs_11 ++ (lw_privs_12 ++ (lw_privs_13 ++ (lw_privs_14 ++ (lw_privs_15)))))))))))))), lw_okq q
  exact List.forall_mem_append.mpr ⟨lw_r1, List.forall_mem_append.mpr ⟨lw_r2, List.forall_mem_append.mpr ⟨lw_r3, List.forall_mem_append.mpr ⟨lw_r4, List.forall_mem_append.mpr ⟨lw_r5, List.forall_mem_append.mpr ⟨lw_r6, List.forall_mem_append.mpr ⟨lw_r7, List.forall_mem_append.mpr ⟨lw_r8, List.forall_mem_append.mpr ⟨lw_r9, List.forall_mem_append.mpr ⟨lw_r10, List.forall_mem_append.mpr ⟨lw_r11, List.forall_mem_append.mpr ⟨lw_r12, List.forall_mem_append.mpr ⟨lw_r13, List.forall_mem_append.mpr ⟨lw_r14, lw_r15⟩⟩⟩⟩⟩⟩⟩⟩⟩⟩⟩⟩⟩⟩
def RX0 : String := "HintHouse$Calls"
def TX0 : u_T := fun k => match k with
  | 0 => ("HintHouse$Calls", "bases", "[I", true)
  | 1 => ("HintHouse$Calls", "ends", "[I", true)
  | 2 => ("HintHouse$Calls", "starts", "[I", true)
  | 3 => ("HintHouse$Calls", "ownCount", "I", false)
  | 4 => ("HintHouse$Calls", "routines", "[I", true)
  | 5 => ("HintHouse$Calls", "timesLeft", "[I", true)
  | 6 => ("HintHouse$Calls", "backBases", "[I", true)
  | 7 => ("HintHouse$Calls", "backEnds", "[I", true)
  | 8 => ("HintHouse$Calls", "backs", "[I", true)
  | _ => ("HintHouse$Calls", "open", "I", false)
def tyX0 : Nat → FieldType := fun k => match k with
  | 0 => .array .int
  | 1 => .array .int
  | 2 => .array .int
  | 3 => .int
  | 4 => .array .int
  | 5 => .array .int
  | 6 => .array .int
  | 7 => .array .int
  | 8 => .array .int
  | _ => .int
theorem nmX0 : ∀ a, a < 10 → ∀ b, b < 10 → a ≠ b → (TX0 a).2.1 ≠ (TX0 b).2.1 := by decide +kernel
theorem tyX0_ok : ∀ k, k < 10 → parseFieldDescriptor (TX0 k).2.2.1 = some (tyX0 k) := by decide +kernel
abbrev cX0_init : ByteArray := prog_2_method_1_code
def yX0_init : MethodName := ⟨RX0, "<init>", "()V"⟩
abbrev cX0_forgetAll : ByteArray := prog_2_method_2_code
def yX0_forgetAll : MethodName := ⟨RX0, "forgetAll", "()V"⟩
abbrev cX0_ownCode : ByteArray := prog_2_method_3_code
def yX0_ownCode : MethodName := ⟨RX0, "ownCode", "(I)I"⟩
abbrev cX0_has : ByteArray := prog_2_method_4_code
def yX0_has : MethodName := ⟨RX0, "has", "(I)Z"⟩
abbrev cX0_hasFunction : ByteArray := prog_2_method_5_code
def yX0_hasFunction : MethodName := ⟨RX0, "hasFunction", "(I)Z"⟩
def RX1 : String := "HintHouse$Canvas"
def TX1 : u_T := fun k => match k with
  | 0 => ("HintHouse$Canvas", "pixels", "[B", true)
  | 1 => ("HintHouse$Canvas", "width", "I", false)
  | _ => ("HintHouse$Canvas", "height", "I", false)
def tyX1 : Nat → FieldType := fun k => match k with
  | 0 => .array .byte
  | 1 => .int
  | _ => .int
theorem nmX1 : ∀ a, a < 3 → ∀ b, b < 3 → a ≠ b → (TX1 a).2.1 ≠ (TX1 b).2.1 := by decide +kernel
theorem tyX1_ok : ∀ k, k < 3 → parseFieldDescriptor (TX1 k).2.2.1 = some (tyX1 k) := by decide +kernel
abbrev cX1_init : ByteArray := prog_3_method_1_code
def yX1_init : MethodName := ⟨RX1, "<init>", "()V"⟩
abbrev cX1_renew : ByteArray := prog_3_method_2_code
def yX1_renew : MethodName := ⟨RX1, "renew", "(II)V"⟩
abbrev cX1_fillIn : ByteArray := prog_3_method_3_code
def yX1_fillIn : MethodName := ⟨RX1, "fillIn", "(LHintHouse$Shape;II)I"⟩
def RX2 : String := "HintHouse$Font"
def TX2 : u_T := fun k => match k with
  | 0 => ("HintHouse$Font", "data", "[B", true)
  | 1 => ("HintHouse$Font", "length", "I", false)
  | 2 => ("HintHouse$Font", "loaded", "Z", false)
  | 3 => ("HintHouse$Font", "begins", "[I", true)
  | 4 => ("HintHouse$Font", "lengths", "[I", true)
  | 5 => ("HintHouse$Font", "tables", "I", false)
  | 6 => ("HintHouse$Font", "units", "I", false)
  | 7 => ("HintHouse$Font", "glyphs", "I", false)
  | 8 => ("HintHouse$Font", "metrics", "I", false)
  | 9 => ("HintHouse$Font", "locaForm", "I", false)
  | 10 => ("HintHouse$Font", "limits", "[I", true)
  | 11 => ("HintHouse$Font", "mapForm", "I", false)
  | 12 => ("HintHouse$Font", "mapBegin", "I", false)
  | 13 => ("HintHouse$Font", "mapLength", "I", false)
  | 14 => ("HintHouse$Font", "mapCount", "I", false)
  | 15 => ("HintHouse$Font", "pairs", "I", false)
  | _ => ("HintHouse$Font", "facts", "[[I", true)
def tyX2 : Nat → FieldType := fun k => match k with
  | 0 => .array .byte
  | 1 => .int
  | 2 => .boolean
  | 3 => .array .int
  | 4 => .array .int
  | 5 => .int
  | 6 => .int
  | 7 => .int
  | 8 => .int
  | 9 => .int
  | 10 => .array .int
  | 11 => .int
  | 12 => .int
  | 13 => .int
  | 14 => .int
  | 15 => .int
  | _ => .array (.array .int)
theorem nmX2 : ∀ a, a < 17 → ∀ b, b < 17 → a ≠ b → (TX2 a).2.1 ≠ (TX2 b).2.1 := by decide +kernel
theorem tyX2_ok : ∀ k, k < 17 → parseFieldDescriptor (TX2 k).2.2.1 = some (tyX2 k) := by decide +kernel
abbrev cX2_init : ByteArray := prog_4_method_1_code
def yX2_init : MethodName := ⟨RX2, "<init>", "()V"⟩
abbrev cX2_take : ByteArray := prog_4_method_2_code
def yX2_take : MethodName := ⟨RX2, "take", "([BI)V"⟩
abbrev cX2_u1 : ByteArray := prog_4_method_3_code
def yX2_u1 : MethodName := ⟨RX2, "u1", "(I)I"⟩
abbrev cX2_u2 : ByteArray := prog_4_method_4_code
def yX2_u2 : MethodName := ⟨RX2, "u2", "(I)I"⟩
abbrev cX2_s2 : ByteArray := prog_4_method_5_code
def yX2_s2 : MethodName := ⟨RX2, "s2", "(I)I"⟩
abbrev cX2_u4 : ByteArray := prog_4_method_6_code
def yX2_u4 : MethodName := ⟨RX2, "u4", "(I)J"⟩
abbrev cX2_hasTable : ByteArray := prog_4_method_7_code
def yX2_hasTable : MethodName := ⟨RX2, "hasTable", "(I)Z"⟩
abbrev cX2_hasGlyph : ByteArray := prog_4_method_8_code
def yX2_hasGlyph : MethodName := ⟨RX2, "hasGlyph", "(I)Z"⟩
abbrev cX2_advanceOf : ByteArray := prog_4_method_9_code
def yX2_advanceOf : MethodName := ⟨RX2, "advanceOf", "(I)I"⟩
abbrev cX2_bearingOf : ByteArray := prog_4_method_10_code
def yX2_bearingOf : MethodName := ⟨RX2, "bearingOf", "(I)I"⟩
abbrev cX2_kernOf : ByteArray := prog_4_method_11_code
def yX2_kernOf : MethodName := ⟨RX2, "kernOf", "(II)I"⟩
abbrev cX2_findGlyph : ByteArray := prog_4_method_12_code
def yX2_findGlyph : MethodName := ⟨RX2, "findGlyph", "(I)I"⟩
abbrev cX2_findInGroups : ByteArray := prog_4_method_13_code
def yX2_findInGroups : MethodName := ⟨RX2, "findInGroups", "(I)J"⟩
abbrev cX2_findInSegments : ByteArray := prog_4_method_14_code
def yX2_findInSegments : MethodName := ⟨RX2, "findInSegments", "(I)I"⟩
abbrev cX2_findInSegment : ByteArray := prog_4_method_15_code
def yX2_findInSegment : MethodName := ⟨RX2, "findInSegment", "(II)I"⟩
def RX3 : String := "HintHouse$GlyphReader"
def TX3 : u_T := fun k => match k with
  | 0 => ("HintHouse$GlyphReader", "font", "LHintHouse$Font;", true)
  | 1 => ("HintHouse$GlyphReader", "scratch", "LHintHouse$Points;", true)
  | 2 => ("HintHouse$GlyphReader", "flags", "[I", true)
  | 3 => ("HintHouse$GlyphReader", "depths", "[I", true)
  | 4 => ("HintHouse$GlyphReader", "at", "I", false)
  | 5 => ("HintHouse$GlyphReader", "end", "I", false)
  | 6 => ("HintHouse$GlyphReader", "torn", "Z", false)
  | 7 => ("HintHouse$GlyphReader", "partFlags", "I", false)
  | 8 => ("HintHouse$GlyphReader", "partGlyph", "I", false)
  | 9 => ("HintHouse$GlyphReader", "firstNumber", "I", false)
  | 10 => ("HintHouse$GlyphReader", "secondNumber", "I", false)
  | 11 => ("HintHouse$GlyphReader", "a", "I", false)
  | 12 => ("HintHouse$GlyphReader", "b", "I", false)
  | 13 => ("HintHouse$GlyphReader", "c", "I", false)
  | _ => ("HintHouse$GlyphReader", "d", "I", false)
def tyX3 : Nat → FieldType := fun k => match k with
  | 0 => .object "HintHouse$Font"
  | 1 => .object "HintHouse$Points"
  | 2 => .array .int
  | 3 => .array .int
  | 4 => .int
  | 5 => .int
  | 6 => .boolean
  | 7 => .int
  | 8 => .int
  | 9 => .int
  | 10 => .int
  | 11 => .int
  | 12 => .int
  | 13 => .int
  | _ => .int
theorem nmX3 : ∀ a, a < 15 → ∀ b, b < 15 → a ≠ b → (TX3 a).2.1 ≠ (TX3 b).2.1 := by decide +kernel
theorem tyX3_ok : ∀ k, k < 15 → parseFieldDescriptor (TX3 k).2.2.1 = some (tyX3 k) := by decide +kernel
abbrev cX3_init : ByteArray := prog_5_method_1_code
def yX3_init : MethodName := ⟨RX3, "<init>", "(LHintHouse$Font;)V"⟩
abbrev cX3_glyphsHold : ByteArray := prog_5_method_2_code
def yX3_glyphsHold : MethodName := ⟨RX3, "glyphsHold", "()Z"⟩
abbrev cX3_glyphHolds : ByteArray := prog_5_method_3_code
def yX3_glyphHolds : MethodName := ⟨RX3, "glyphHolds", "(I)Z"⟩
abbrev cX3_goTo : ByteArray := prog_5_method_4_code
def yX3_goTo : MethodName := ⟨RX3, "goTo", "(I)V"⟩
abbrev cX3_takeU1 : ByteArray := prog_5_method_5_code
def yX3_takeU1 : MethodName := ⟨RX3, "takeU1", "()I"⟩
abbrev cX3_takeU2 : ByteArray := prog_5_method_6_code
def yX3_takeU2 : MethodName := ⟨RX3, "takeU2", "()I"⟩
abbrev cX3_takeS2 : ByteArray := prog_5_method_7_code
def yX3_takeS2 : MethodName := ⟨RX3, "takeS2", "()I"⟩
abbrev cX3_readOutline : ByteArray := prog_5_method_8_code
def yX3_readOutline : MethodName := ⟨RX3, "readOutline", "(ILHintHouse$Points;)Z"⟩
abbrev cX3_takeProgram : ByteArray := prog_5_method_9_code
def yX3_takeProgram : MethodName := ⟨RX3, "takeProgram", "(I)Z"⟩
abbrev cX3_takeFlags : ByteArray := prog_5_method_10_code
def yX3_takeFlags : MethodName := ⟨RX3, "takeFlags", "(I)Z"⟩
abbrev cX3_takePlaces : ByteArray := prog_5_method_11_code
def yX3_takePlaces : MethodName := ⟨RX3, "takePlaces", "([IIII)V"⟩
abbrev cX3_partsHold : ByteArray := prog_5_method_12_code
def yX3_partsHold : MethodName := ⟨RX3, "partsHold", "(I)Z"⟩
abbrev cX3_readPart : ByteArray := prog_5_method_13_code
def yX3_readPart : MethodName := ⟨RX3, "readPart", "(II)V"⟩
abbrev cX3_takePart : ByteArray := prog_5_method_14_code
def yX3_takePart : MethodName := ⟨RX3, "takePart", "()V"⟩
abbrev cX3_depthsHold : ByteArray := prog_5_method_15_code
def yX3_depthsHold : MethodName := ⟨RX3, "depthsHold", "()Z"⟩
abbrev cX3_deepestPart : ByteArray := prog_5_method_16_code
def yX3_deepestPart : MethodName := ⟨RX3, "deepestPart", "(I)I"⟩
def RX4 : String := "HintHouse$Loader"
def TX4 : u_T := fun k => match k with
  | 0 => ("HintHouse$Loader", "font", "LHintHouse$Font;", true)
  | _ => ("HintHouse$Loader", "reader", "LHintHouse$GlyphReader;", true)
def tyX4 : Nat → FieldType := fun k => match k with
  | 0 => .object "HintHouse$Font"
  | _ => .object "HintHouse$GlyphReader"
theorem nmX4 : ∀ a, a < 2 → ∀ b, b < 2 → a ≠ b → (TX4 a).2.1 ≠ (TX4 b).2.1 := by decide +kernel
theorem tyX4_ok : ∀ k, k < 2 → parseFieldDescriptor (TX4 k).2.2.1 = some (tyX4 k) := by decide +kernel
abbrev cX4_init : ByteArray := prog_6_method_1_code
def yX4_init : MethodName := ⟨RX4, "<init>", "(LHintHouse$Font;LHintHouse$GlyphReader;)V"⟩
abbrev cX4_findFault : ByteArray := prog_6_method_2_code
def yX4_findFault : MethodName := ⟨RX4, "findFault", "()I"⟩
abbrev cX4_directoryHolds : ByteArray := prog_6_method_3_code
def yX4_directoryHolds : MethodName := ⟨RX4, "directoryHolds", "()Z"⟩
abbrev cX4_entry : ByteArray := prog_6_method_4_code
def yX4_entry : MethodName := ⟨RX4, "entry", "(II)J"⟩
abbrev cX4_tagsRise : ByteArray := prog_6_method_5_code
def yX4_tagsRise : MethodName := ⟨RX4, "tagsRise", "()Z"⟩
abbrev cX4_tablesLieRight : ByteArray := prog_6_method_6_code
def yX4_tablesLieRight : MethodName := ⟨RX4, "tablesLieRight", "()Z"⟩
abbrev cX4_shareBytes : ByteArray := prog_6_method_7_code
def yX4_shareBytes : MethodName := ⟨RX4, "shareBytes", "(II)Z"⟩
abbrev cX4_sumsHold : ByteArray := prog_6_method_8_code
def yX4_sumsHold : MethodName := ⟨RX4, "sumsHold", "()Z"⟩
abbrev cX4_sumOf : ByteArray := prog_6_method_9_code
def yX4_sumOf : MethodName := ⟨RX4, "sumOf", "(IIZ)J"⟩
abbrev cX4_findTables : ByteArray := prog_6_method_10_code
def yX4_findTables : MethodName := ⟨RX4, "findTables", "()Z"⟩
abbrev cX4_headHolds : ByteArray := prog_6_method_11_code
def yX4_headHolds : MethodName := ⟨RX4, "headHolds", "()Z"⟩
abbrev cX4_maxpHolds : ByteArray := prog_6_method_12_code
def yX4_maxpHolds : MethodName := ⟨RX4, "maxpHolds", "()Z"⟩
abbrev cX4_hheaHolds : ByteArray := prog_6_method_13_code
def yX4_hheaHolds : MethodName := ⟨RX4, "hheaHolds", "()Z"⟩
abbrev cX4_hmtxHolds : ByteArray := prog_6_method_14_code
def yX4_hmtxHolds : MethodName := ⟨RX4, "hmtxHolds", "()Z"⟩
abbrev cX4_placeInGlyf : ByteArray := prog_6_method_15_code
def yX4_placeInGlyf : MethodName := ⟨RX4, "placeInGlyf", "(I)J"⟩
abbrev cX4_locaHolds : ByteArray := prog_6_method_16_code
def yX4_locaHolds : MethodName := ⟨RX4, "locaHolds", "()Z"⟩
abbrev cX4_cmapHolds : ByteArray := prog_6_method_17_code
def yX4_cmapHolds : MethodName := ⟨RX4, "cmapHolds", "()Z"⟩
abbrev cX4_mapPlace : ByteArray := prog_6_method_18_code
def yX4_mapPlace : MethodName := ⟨RX4, "mapPlace", "(III)J"⟩
abbrev cX4_noteMap : ByteArray := prog_6_method_19_code
def yX4_noteMap : MethodName := ⟨RX4, "noteMap", "(JII)Z"⟩
abbrev cX4_byteMapHolds : ByteArray := prog_6_method_20_code
def yX4_byteMapHolds : MethodName := ⟨RX4, "byteMapHolds", "(J)Z"⟩
abbrev cX4_segmentsHold : ByteArray := prog_6_method_21_code
def yX4_segmentsHold : MethodName := ⟨RX4, "segmentsHold", "(J)Z"⟩
abbrev cX4_groupsHold : ByteArray := prog_6_method_22_code
def yX4_groupsHold : MethodName := ⟨RX4, "groupsHold", "(J)Z"⟩
abbrev cX4_kernHolds : ByteArray := prog_6_method_23_code
def yX4_kernHolds : MethodName := ⟨RX4, "kernHolds", "()Z"⟩
abbrev cX4_programsHold : ByteArray := prog_6_method_24_code
def yX4_programsHold : MethodName := ⟨RX4, "programsHold", "()Z"⟩
def RX5 : String := "HintHouse$Machine"
def TX5 : u_T := fun k => match k with
  | 0 => ("HintHouse$Machine", "font", "LHintHouse$Font;", true)
  | 1 => ("HintHouse$Machine", "settings", "LHintHouse$Settings;", true)
  | 2 => ("HintHouse$Machine", "calls", "LHintHouse$Calls;", true)
  | 3 => ("HintHouse$Machine", "nowhere", "LHintHouse$Points;", true)
  | 4 => ("HintHouse$Machine", "stack", "[I", true)
  | 5 => ("HintHouse$Machine", "height", "I", false)
  | 6 => ("HintHouse$Machine", "memory", "LHintHouse$Memory;", false)
  | 7 => ("HintHouse$Machine", "outline", "LHintHouse$Points;", false)
  | 8 => ("HintHouse$Machine", "mayDefine", "Z", false)
  | 9 => ("HintHouse$Machine", "base", "I", false)
  | 10 => ("HintHouse$Machine", "end", "I", false)
  | 11 => ("HintHouse$Machine", "pc", "I", false)
  | 12 => ("HintHouse$Machine", "ppem", "I", false)
  | 13 => ("HintHouse$Machine", "steps", "I", false)
  | 14 => ("HintHouse$Machine", "failure", "I", false)
  | 15 => ("HintHouse$Machine", "place", "I", false)
  | _ => ("HintHouse$Machine", "peak", "I", false)
def tyX5 : Nat → FieldType := fun k => match k with
  | 0 => .object "HintHouse$Font"
  | 1 => .object "HintHouse$Settings"
  | 2 => .object "HintHouse$Calls"
  | 3 => .object "HintHouse$Points"
  | 4 => .array .int
  | 5 => .int
  | 6 => .object "HintHouse$Memory"
  | 7 => .object "HintHouse$Points"
  | 8 => .boolean
  | 9 => .int
  | 10 => .int
  | 11 => .int
  | 12 => .int
  | 13 => .int
  | 14 => .int
  | 15 => .int
  | _ => .int
theorem nmX5 : ∀ a, a < 17 → ∀ b, b < 17 → a ≠ b → (TX5 a).2.1 ≠ (TX5 b).2.1 := by decide +kernel
theorem tyX5_ok : ∀ k, k < 17 → parseFieldDescriptor (TX5 k).2.2.1 = some (tyX5 k) := by decide +kernel
abbrev cX5_init : ByteArray := prog_7_method_1_code
def yX5_init : MethodName := ⟨RX5, "<init>", "(LHintHouse$Font;LHintHouse$Memory;)V"⟩
abbrev cX5_beginCount : ByteArray := prog_7_method_2_code
def yX5_beginCount : MethodName := ⟨RX5, "beginCount", "()V"⟩
abbrev cX5_beginSize : ByteArray := prog_7_method_3_code
def yX5_beginSize : MethodName := ⟨RX5, "beginSize", "(I)V"⟩
abbrev cX5_failOutside : ByteArray := prog_7_method_4_code
def yX5_failOutside : MethodName := ⟨RX5, "failOutside", "(I)V"⟩
abbrev cX5_scaled : ByteArray := prog_7_method_5_code
def yX5_scaled : MethodName := ⟨RX5, "scaled", "(J)J"⟩
abbrev cX5_runForSize : ByteArray := prog_7_method_6_code
def yX5_runForSize : MethodName := ⟨RX5, "runForSize", "(IILHintHouse$Memory;)V"⟩
abbrev cX5_run : ByteArray := prog_7_method_7_code
def yX5_run : MethodName := ⟨RX5, "run", "(IILHintHouse$Memory;LHintHouse$Points;)V"⟩
abbrev cX5_isAtEnd : ByteArray := prog_7_method_8_code
def yX5_isAtEnd : MethodName := ⟨RX5, "isAtEnd", "()Z"⟩
abbrev cX5_beginStep : ByteArray := prog_7_method_9_code
def yX5_beginStep : MethodName := ⟨RX5, "beginStep", "()I"⟩
abbrev cX5_pop : ByteArray := prog_7_method_10_code
def yX5_pop : MethodName := ⟨RX5, "pop", "()I"⟩
abbrev cX5_push : ByteArray := prog_7_method_11_code
def yX5_push : MethodName := ⟨RX5, "push", "(J)V"⟩
abbrev cX5_zone : ByteArray := prog_7_method_12_code
def yX5_zone : MethodName := ⟨RX5, "zone", "(I)LHintHouse$Points;"⟩
abbrev cX5_isThere : ByteArray := prog_7_method_13_code
def yX5_isThere : MethodName := ⟨RX5, "isThere", "(LHintHouse$Points;I)Z"⟩
abbrev cX5_longByP : ByteArray := prog_7_method_14_code
def yX5_longByP : MethodName := ⟨RX5, "longByP", "(JJ)J"⟩
abbrev cX5_longByD : ByteArray := prog_7_method_15_code
def yX5_longByD : MethodName := ⟨RX5, "longByD", "(JJ)J"⟩
abbrev cX5_longBetween : ByteArray := prog_7_method_16_code
def yX5_longBetween : MethodName := ⟨RX5, "longBetween", "(LHintHouse$Points;ILHintHouse$Points;I)J"⟩
abbrev cX5_originalBetween : ByteArray := prog_7_method_17_code
def yX5_originalBetween : MethodName := ⟨RX5, "originalBetween", "(LHintHouse$Points;ILHintHouse$Points;I)J"⟩
abbrev cX5_move : ByteArray := prog_7_method_18_code
def yX5_move : MethodName := ⟨RX5, "move", "(LHintHouse$Points;IJ)V"⟩
abbrev cX5_touchBits : ByteArray := prog_7_method_19_code
def yX5_touchBits : MethodName := ⟨RX5, "touchBits", "()I"⟩
abbrev cX5_vectorCodes : ByteArray := prog_7_method_20_code
def yX5_vectorCodes : MethodName := ⟨RX5, "vectorCodes", "(I)V"⟩
abbrev cX5_goAlongNumbers : ByteArray := prog_7_method_21_code
def yX5_goAlongNumbers : MethodName := ⟨RX5, "goAlongNumbers", "(I)V"⟩
abbrev cX5_goAlongLine : ByteArray := prog_7_method_22_code
def yX5_goAlongLine : MethodName := ⟨RX5, "goAlongLine", "(I)V"⟩
abbrev cX5_goAlongBothLines : ByteArray := prog_7_method_23_code
def yX5_goAlongBothLines : MethodName := ⟨RX5, "goAlongBothLines", "(I)V"⟩
abbrev cX5_settingCodes : ByteArray := prog_7_method_24_code
def yX5_settingCodes : MethodName := ⟨RX5, "settingCodes", "(I)V"⟩
abbrev cX5_isZone : ByteArray := prog_7_method_25_code
def yX5_isZone : MethodName := ⟨RX5, "isZone", "(I)Z"⟩
abbrev cX5_setZones : ByteArray := prog_7_method_26_code
def yX5_setZones : MethodName := ⟨RX5, "setZones", "(II)V"⟩
abbrev cX5_setLoop : ByteArray := prog_7_method_27_code
def yX5_setLoop : MethodName := ⟨RX5, "setLoop", "(I)V"⟩
abbrev cX5_setShift : ByteArray := prog_7_method_28_code
def yX5_setShift : MethodName := ⟨RX5, "setShift", "(I)V"⟩
abbrev cX5_flowCodes : ByteArray := prog_7_method_29_code
def yX5_flowCodes : MethodName := ⟨RX5, "flowCodes", "(I)V"⟩
abbrev cX5_jumpIf : ByteArray := prog_7_method_30_code
def yX5_jumpIf : MethodName := ⟨RX5, "jumpIf", "(Z)V"⟩
abbrev cX5_jump : ByteArray := prog_7_method_31_code
def yX5_jump : MethodName := ⟨RX5, "jump", "(I)V"⟩
abbrev cX5_passCode : ByteArray := prog_7_method_32_code
def yX5_passCode : MethodName := ⟨RX5, "passCode", "()Z"⟩
abbrev cX5_passBranch : ByteArray := prog_7_method_33_code
def yX5_passBranch : MethodName := ⟨RX5, "passBranch", "(Z)V"⟩
abbrev cX5_passDefinition : ByteArray := prog_7_method_34_code
def yX5_passDefinition : MethodName := ⟨RX5, "passDefinition", "()V"⟩
abbrev cX5_isDefining : ByteArray := prog_7_method_35_code
def yX5_isDefining : MethodName := ⟨RX5, "isDefining", "()Z"⟩
abbrev cX5_noteFunction : ByteArray := prog_7_method_36_code
def yX5_noteFunction : MethodName := ⟨RX5, "noteFunction", "()Z"⟩
abbrev cX5_noteOwnCode : ByteArray := prog_7_method_37_code
def yX5_noteOwnCode : MethodName := ⟨RX5, "noteOwnCode", "()Z"⟩
abbrev cX5_noteRoutine : ByteArray := prog_7_method_38_code
def yX5_noteRoutine : MethodName := ⟨RX5, "noteRoutine", "(I)V"⟩
abbrev cX5_callOnce : ByteArray := prog_7_method_39_code
def yX5_callOnce : MethodName := ⟨RX5, "callOnce", "()V"⟩
abbrev cX5_callTimes : ByteArray := prog_7_method_40_code
def yX5_callTimes : MethodName := ⟨RX5, "callTimes", "()V"⟩
abbrev cX5_callOwnCode : ByteArray := prog_7_method_41_code
def yX5_callOwnCode : MethodName := ⟨RX5, "callOwnCode", "(I)V"⟩
abbrev cX5_enter : ByteArray := prog_7_method_42_code
def yX5_enter : MethodName := ⟨RX5, "enter", "(II)V"⟩
abbrev cX5_endRoutine : ByteArray := prog_7_method_43_code
def yX5_endRoutine : MethodName := ⟨RX5, "endRoutine", "()V"⟩
abbrev cX5_stackCodes : ByteArray := prog_7_method_44_code
def yX5_stackCodes : MethodName := ⟨RX5, "stackCodes", "(I)V"⟩
abbrev cX5_doubleTop : ByteArray := prog_7_method_45_code
def yX5_doubleTop : MethodName := ⟨RX5, "doubleTop", "()V"⟩
abbrev cX5_rollTop : ByteArray := prog_7_method_46_code
def yX5_rollTop : MethodName := ⟨RX5, "rollTop", "(I)V"⟩
abbrev cX5_reachBelow : ByteArray := prog_7_method_47_code
def yX5_reachBelow : MethodName := ⟨RX5, "reachBelow", "(I)V"⟩
abbrev cX5_pushCounted : ByteArray := prog_7_method_48_code
def yX5_pushCounted : MethodName := ⟨RX5, "pushCounted", "(I)V"⟩
abbrev cX5_pushBehind : ByteArray := prog_7_method_49_code
def yX5_pushBehind : MethodName := ⟨RX5, "pushBehind", "(II)V"⟩
abbrev cX5_memoryCodes : ByteArray := prog_7_method_50_code
def yX5_memoryCodes : MethodName := ⟨RX5, "memoryCodes", "(I)V"⟩
abbrev cX5_read : ByteArray := prog_7_method_51_code
def yX5_read : MethodName := ⟨RX5, "read", "(I)V"⟩
abbrev cX5_write : ByteArray := prog_7_method_52_code
def yX5_write : MethodName := ⟨RX5, "write", "(I)V"⟩
abbrev cX5_comparingCodes : ByteArray := prog_7_method_53_code
def yX5_comparingCodes : MethodName := ⟨RX5, "comparingCodes", "(I)V"⟩
abbrev cX5_reckoningCodes : ByteArray := prog_7_method_54_code
def yX5_reckoningCodes : MethodName := ⟨RX5, "reckoningCodes", "(I)V"⟩
abbrev cX5_singlePointCodes : ByteArray := prog_7_method_55_code
def yX5_singlePointCodes : MethodName := ⟨RX5, "singlePointCodes", "(I)V"⟩
abbrev cX5_untouchPoint : ByteArray := prog_7_method_56_code
def yX5_untouchPoint : MethodName := ⟨RX5, "untouchPoint", "()V"⟩
abbrev cX5_alignPoints : ByteArray := prog_7_method_57_code
def yX5_alignPoints : MethodName := ⟨RX5, "alignPoints", "()V"⟩
abbrev cX5_touchPoint : ByteArray := prog_7_method_58_code
def yX5_touchPoint : MethodName := ⟨RX5, "touchPoint", "(I)V"⟩
abbrev cX5_tellLong : ByteArray := prog_7_method_59_code
def yX5_tellLong : MethodName := ⟨RX5, "tellLong", "(I)V"⟩
abbrev cX5_setLong : ByteArray := prog_7_method_60_code
def yX5_setLong : MethodName := ⟨RX5, "setLong", "()V"⟩
abbrev cX5_tellDistance : ByteArray := prog_7_method_61_code
def yX5_tellDistance : MethodName := ⟨RX5, "tellDistance", "(I)V"⟩
abbrev cX5_turnRange : ByteArray := prog_7_method_62_code
def yX5_turnRange : MethodName := ⟨RX5, "turnRange", "(I)V"⟩
abbrev cX5_fillUntouched : ByteArray := prog_7_method_63_code
def yX5_fillUntouched : MethodName := ⟨RX5, "fillUntouched", "([I[II)V"⟩
abbrev cX5_firstTouched : ByteArray := prog_7_method_64_code
def yX5_firstTouched : MethodName := ⟨RX5, "firstTouched", "(III)I"⟩
abbrev cX5_fillBetween : ByteArray := prog_7_method_65_code
def yX5_fillBetween : MethodName := ⟨RX5, "fillBetween", "([I[IIII)V"⟩
abbrev cX5_manyPointCodes : ByteArray := prog_7_method_66_code
def yX5_manyPointCodes : MethodName := ⟨RX5, "manyPointCodes", "(I)V"⟩
abbrev cX5_shiftByReference : ByteArray := prog_7_method_67_code
def yX5_shiftByReference : MethodName := ⟨RX5, "shiftByReference", "(I)V"⟩
abbrev cX5_shiftPoints : ByteArray := prog_7_method_68_code
def yX5_shiftPoints : MethodName := ⟨RX5, "shiftPoints", "(J)V"⟩
abbrev cX5_shiftContour : ByteArray := prog_7_method_69_code
def yX5_shiftContour : MethodName := ⟨RX5, "shiftContour", "(JI)V"⟩
abbrev cX5_shiftZone : ByteArray := prog_7_method_70_code
def yX5_shiftZone : MethodName := ⟨RX5, "shiftZone", "(JLHintHouse$Points;I)V"⟩
abbrev cX5_shiftByPixels : ByteArray := prog_7_method_71_code
def yX5_shiftByPixels : MethodName := ⟨RX5, "shiftByPixels", "()V"⟩
abbrev cX5_interpolate : ByteArray := prog_7_method_72_code
def yX5_interpolate : MethodName := ⟨RX5, "interpolate", "()V"⟩
abbrev cX5_alignToReference : ByteArray := prog_7_method_73_code
def yX5_alignToReference : MethodName := ⟨RX5, "alignToReference", "()V"⟩
abbrev cX5_turnPoints : ByteArray := prog_7_method_74_code
def yX5_turnPoints : MethodName := ⟨RX5, "turnPoints", "()V"⟩
abbrev cX5_measuredCodes : ByteArray := prog_7_method_75_code
def yX5_measuredCodes : MethodName := ⟨RX5, "measuredCodes", "(I)V"⟩
abbrev cX5_plant : ByteArray := prog_7_method_76_code
def yX5_plant : MethodName := ⟨RX5, "plant", "(LHintHouse$Points;IIIJ)V"⟩
abbrev cX5_moveFromReference : ByteArray := prog_7_method_77_code
def yX5_moveFromReference : MethodName := ⟨RX5, "moveFromReference", "(I)V"⟩
abbrev cX5_noteReferences : ByteArray := prog_7_method_78_code
def yX5_noteReferences : MethodName := ⟨RX5, "noteReferences", "(IZ)V"⟩
abbrev cX5_moveToCvt : ByteArray := prog_7_method_79_code
def yX5_moveToCvt : MethodName := ⟨RX5, "moveToCvt", "(I)V"⟩
abbrev cX5_orSingle : ByteArray := prog_7_method_80_code
def yX5_orSingle : MethodName := ⟨RX5, "orSingle", "(J)J"⟩
abbrev cX5_atLeast : ByteArray := prog_7_method_81_code
def yX5_atLeast : MethodName := ⟨RX5, "atLeast", "(JJ)J"⟩
abbrev cX5_moveAsOriginal : ByteArray := prog_7_method_82_code
def yX5_moveAsOriginal : MethodName := ⟨RX5, "moveAsOriginal", "(I)V"⟩
abbrev cX5_moveAsCvt : ByteArray := prog_7_method_83_code
def yX5_moveAsCvt : MethodName := ⟨RX5, "moveAsCvt", "(I)V"⟩
abbrev cX5_deltaCodes : ByteArray := prog_7_method_84_code
def yX5_deltaCodes : MethodName := ⟨RX5, "deltaCodes", "(I)V"⟩
abbrev cX5_applyDelta : ByteArray := prog_7_method_85_code
def yX5_applyDelta : MethodName := ⟨RX5, "applyDelta", "(ZII)V"⟩
def RX6 : String := "HintHouse$Maker"
def TX6 : u_T := fun k => match k with
  | 0 => ("HintHouse$Maker", "font", "LHintHouse$Font;", true)
  | 1 => ("HintHouse$Maker", "reader", "LHintHouse$GlyphReader;", true)
  | 2 => ("HintHouse$Maker", "machine", "LHintHouse$Machine;", true)
  | 3 => ("HintHouse$Maker", "sized", "LHintHouse$Memory;", true)
  | 4 => ("HintHouse$Maker", "working", "LHintHouse$Memory;", true)
  | 5 => ("HintHouse$Maker", "levels", "[LHintHouse$Points;", true)
  | 6 => ("HintHouse$Maker", "shape", "LHintHouse$Shape;", true)
  | 7 => ("HintHouse$Maker", "ppem", "I", false)
  | 8 => ("HintHouse$Maker", "made", "Z", false)
  | 9 => ("HintHouse$Maker", "ranOwnProgram", "Z", false)
  | 10 => ("HintHouse$Maker", "advance", "I", false)
  | 11 => ("HintHouse$Maker", "failedCount", "I", false)
  | _ => ("HintHouse$Maker", "partsBegun", "I", false)
def tyX6 : Nat → FieldType := fun k => match k with
  | 0 => .object "HintHouse$Font"
  | 1 => .object "HintHouse$GlyphReader"
  | 2 => .object "HintHouse$Machine"
  | 3 => .object "HintHouse$Memory"
  | 4 => .object "HintHouse$Memory"
  | 5 => .array (.object "HintHouse$Points")
  | 6 => .object "HintHouse$Shape"
  | 7 => .int
  | 8 => .boolean
  | 9 => .boolean
  | 10 => .int
  | 11 => .int
  | _ => .int
theorem nmX6 : ∀ a, a < 13 → ∀ b, b < 13 → a ≠ b → (TX6 a).2.1 ≠ (TX6 b).2.1 := by decide +kernel
theorem tyX6_ok : ∀ k, k < 13 → parseFieldDescriptor (TX6 k).2.2.1 = some (tyX6 k) := by decide +kernel
abbrev cX6_init : ByteArray := prog_8_method_1_code
def yX6_init : MethodName := ⟨RX6, "<init>", "(LHintHouse$Font;LHintHouse$GlyphReader;)V"⟩
abbrev cX6_forgetAll : ByteArray := prog_8_method_2_code
def yX6_forgetAll : MethodName := ⟨RX6, "forgetAll", "()V"⟩
abbrev cX6_keptOf : ByteArray := prog_8_method_3_code
def yX6_keptOf : MethodName := ⟨RX6, "keptOf", "(I)I"⟩
abbrev cX6_setSize : ByteArray := prog_8_method_4_code
def yX6_setSize : MethodName := ⟨RX6, "setSize", "(I)I"⟩
abbrev cX6_makeGlyph : ByteArray := prog_8_method_5_code
def yX6_makeGlyph : MethodName := ⟨RX6, "makeGlyph", "(I)I"⟩
abbrev cX6_build : ByteArray := prog_8_method_6_code
def yX6_build : MethodName := ⟨RX6, "build", "(II)Z"⟩
abbrev cX6_beginOutline : ByteArray := prog_8_method_7_code
def yX6_beginOutline : MethodName := ⟨RX6, "beginOutline", "(ILHintHouse$Points;)V"⟩
abbrev cX6_takeOutline : ByteArray := prog_8_method_8_code
def yX6_takeOutline : MethodName := ⟨RX6, "takeOutline", "(ILHintHouse$Points;)V"⟩
abbrev cX6_addParts : ByteArray := prog_8_method_9_code
def yX6_addParts : MethodName := ⟨RX6, "addParts", "(II)Z"⟩
abbrev cX6_addPart : ByteArray := prog_8_method_10_code
def yX6_addPart : MethodName := ⟨RX6, "addPart", "(I)Z"⟩
abbrev cX6_append : ByteArray := prog_8_method_11_code
def yX6_append : MethodName := ⟨RX6, "append", "(LHintHouse$Points;LHintHouse$Points;)V"⟩
abbrev cX6_offset : ByteArray := prog_8_method_12_code
def yX6_offset : MethodName := ⟨RX6, "offset", "(I)I"⟩
abbrev cX6_match : ByteArray := prog_8_method_13_code
def yX6_match : MethodName := ⟨RX6, "match", "(LHintHouse$Points;I)Z"⟩
def RX7 : String := "HintHouse$Memory"
def TX7 : u_T := fun k => match k with
  | 0 => ("HintHouse$Memory", "cvt", "[I", true)
  | 1 => ("HintHouse$Memory", "cvtCount", "I", false)
  | 2 => ("HintHouse$Memory", "storage", "[I", true)
  | 3 => ("HintHouse$Memory", "storageCount", "I", false)
  | 4 => ("HintHouse$Memory", "twilight", "LHintHouse$Points;", true)
  | _ => ("HintHouse$Memory", "kept", "[I", true)
def tyX7 : Nat → FieldType := fun k => match k with
  | 0 => .array .int
  | 1 => .int
  | 2 => .array .int
  | 3 => .int
  | 4 => .object "HintHouse$Points"
  | _ => .array .int
theorem nmX7 : ∀ a, a < 6 → ∀ b, b < 6 → a ≠ b → (TX7 a).2.1 ≠ (TX7 b).2.1 := by decide +kernel
theorem tyX7_ok : ∀ k, k < 6 → parseFieldDescriptor (TX7 k).2.2.1 = some (tyX7 k) := by decide +kernel
abbrev cX7_init : ByteArray := prog_9_method_1_code
def yX7_init : MethodName := ⟨RX7, "<init>", "()V"⟩
abbrev cX7_renew : ByteArray := prog_9_method_2_code
def yX7_renew : MethodName := ⟨RX7, "renew", "(LHintHouse$Font;I)V"⟩
abbrev cX7_copyFrom : ByteArray := prog_9_method_3_code
def yX7_copyFrom : MethodName := ⟨RX7, "copyFrom", "(LHintHouse$Memory;)V"⟩
abbrev cX7_hasCvt : ByteArray := prog_9_method_4_code
def yX7_hasCvt : MethodName := ⟨RX7, "hasCvt", "(I)Z"⟩
abbrev cX7_hasStorage : ByteArray := prog_9_method_5_code
def yX7_hasStorage : MethodName := ⟨RX7, "hasStorage", "(I)Z"⟩
def RX8 : String := "HintHouse$Points"
def TX8 : u_T := fun k => match k with
  | 0 => ("HintHouse$Points", "x", "[I", true)
  | 1 => ("HintHouse$Points", "y", "[I", true)
  | 2 => ("HintHouse$Points", "ox", "[I", true)
  | 3 => ("HintHouse$Points", "oy", "[I", true)
  | 4 => ("HintHouse$Points", "touched", "[I", true)
  | 5 => ("HintHouse$Points", "on", "[I", true)
  | 6 => ("HintHouse$Points", "ends", "[I", true)
  | 7 => ("HintHouse$Points", "phantomX", "[I", true)
  | 8 => ("HintHouse$Points", "phantomY", "[I", true)
  | 9 => ("HintHouse$Points", "count", "I", false)
  | 10 => ("HintHouse$Points", "contours", "I", false)
  | _ => ("HintHouse$Points", "phantoms", "I", false)
def tyX8 : Nat → FieldType := fun k => match k with
  | 0 => .array .int
  | 1 => .array .int
  | 2 => .array .int
  | 3 => .array .int
  | 4 => .array .int
  | 5 => .array .int
  | 6 => .array .int
  | 7 => .array .int
  | 8 => .array .int
  | 9 => .int
  | 10 => .int
  | _ => .int
theorem nmX8 : ∀ a, a < 12 → ∀ b, b < 12 → a ≠ b → (TX8 a).2.1 ≠ (TX8 b).2.1 := by decide +kernel
theorem tyX8_ok : ∀ k, k < 12 → parseFieldDescriptor (TX8 k).2.2.1 = some (tyX8 k) := by decide +kernel
abbrev cX8_init : ByteArray := prog_10_method_1_code
def yX8_init : MethodName := ⟨RX8, "<init>", "(II)V"⟩
abbrev cX8_has : ByteArray := prog_10_method_2_code
def yX8_has : MethodName := ⟨RX8, "has", "(I)Z"⟩
abbrev cX8_firstOf : ByteArray := prog_10_method_3_code
def yX8_firstOf : MethodName := ⟨RX8, "firstOf", "(I)I"⟩
abbrev cX8_contourOf : ByteArray := prog_10_method_4_code
def yX8_contourOf : MethodName := ⟨RX8, "contourOf", "(I)I"⟩
abbrev cX8_clearTo : ByteArray := prog_10_method_5_code
def yX8_clearTo : MethodName := ⟨RX8, "clearTo", "(I)V"⟩
abbrev cX8_copyFrom : ByteArray := prog_10_method_6_code
def yX8_copyFrom : MethodName := ⟨RX8, "copyFrom", "(LHintHouse$Points;)V"⟩
abbrev cX8_beginProgram : ByteArray := prog_10_method_7_code
def yX8_beginProgram : MethodName := ⟨RX8, "beginProgram", "()V"⟩
abbrev cX8_endProgram : ByteArray := prog_10_method_8_code
def yX8_endProgram : MethodName := ⟨RX8, "endProgram", "()V"⟩
abbrev cX8_liesWithin : ByteArray := prog_10_method_9_code
def yX8_liesWithin : MethodName := ⟨RX8, "liesWithin", "(I)Z"⟩
abbrev cX8_shift : ByteArray := prog_10_method_10_code
def yX8_shift : MethodName := ⟨RX8, "shift", "(III)V"⟩
def RX9 : String := "HintHouse$Settings"
def TX9 : u_T := fun k => match k with
  | 0 => ("HintHouse$Settings", "fx", "I", false)
  | 1 => ("HintHouse$Settings", "fy", "I", false)
  | 2 => ("HintHouse$Settings", "px", "I", false)
  | 3 => ("HintHouse$Settings", "py", "I", false)
  | 4 => ("HintHouse$Settings", "dx", "I", false)
  | 5 => ("HintHouse$Settings", "dy", "I", false)
  | 6 => ("HintHouse$Settings", "rp", "[I", true)
  | 7 => ("HintHouse$Settings", "zp", "[I", true)
  | 8 => ("HintHouse$Settings", "loop", "I", false)
  | 9 => ("HintHouse$Settings", "period", "I", false)
  | 10 => ("HintHouse$Settings", "phase", "I", false)
  | 11 => ("HintHouse$Settings", "threshold", "I", false)
  | 12 => ("HintHouse$Settings", "wayX", "I", false)
  | _ => ("HintHouse$Settings", "wayY", "I", false)
def tyX9 : Nat → FieldType := fun k => match k with
  | 0 => .int
  | 1 => .int
  | 2 => .int
  | 3 => .int
  | 4 => .int
  | 5 => .int
  | 6 => .array .int
  | 7 => .array .int
  | 8 => .int
  | 9 => .int
  | 10 => .int
  | 11 => .int
  | 12 => .int
  | _ => .int
theorem nmX9 : ∀ a, a < 14 → ∀ b, b < 14 → a ≠ b → (TX9 a).2.1 ≠ (TX9 b).2.1 := by decide +kernel
theorem tyX9_ok : ∀ k, k < 14 → parseFieldDescriptor (TX9 k).2.2.1 = some (tyX9 k) := by decide +kernel
abbrev cX9_init : ByteArray := prog_11_method_1_code
def yX9_init : MethodName := ⟨RX9, "<init>", "()V"⟩
abbrev cX9_renew : ByteArray := prog_11_method_2_code
def yX9_renew : MethodName := ⟨RX9, "renew", "()V"⟩
abbrev cX9_goAlong : ByteArray := prog_11_method_3_code
def yX9_goAlong : MethodName := ⟨RX9, "goAlong", "(I)V"⟩
abbrev cX9_useWayForP : ByteArray := prog_11_method_4_code
def yX9_useWayForP : MethodName := ⟨RX9, "useWayForP", "()V"⟩
abbrev cX9_useWayForF : ByteArray := prog_11_method_5_code
def yX9_useWayForF : MethodName := ⟨RX9, "useWayForF", "()V"⟩
abbrev cX9_turnWayLeft : ByteArray := prog_11_method_6_code
def yX9_turnWayLeft : MethodName := ⟨RX9, "turnWayLeft", "()V"⟩
abbrev cX9_findWay : ByteArray := prog_11_method_7_code
def yX9_findWay : MethodName := ⟨RX9, "findWay", "(JJ)V"⟩
abbrev cX9_shareOf : ByteArray := prog_11_method_8_code
def yX9_shareOf : MethodName := ⟨RX9, "shareOf", "(JJ)I"⟩
abbrev cX9_roundBy : ByteArray := prog_11_method_9_code
def yX9_roundBy : MethodName := ⟨RX9, "roundBy", "(I)V"⟩
abbrev cX9_roundFinely : ByteArray := prog_11_method_10_code
def yX9_roundFinely : MethodName := ⟨RX9, "roundFinely", "(II)Z"⟩
abbrev cX9_rounded : ByteArray := prog_11_method_11_code
def yX9_rounded : MethodName := ⟨RX9, "rounded", "(J)J"⟩
def RX10 : String := "HintHouse$Shape"
def TX10 : u_T := fun k => match k with
  | 0 => ("HintHouse$Shape", "ax", "[I", true)
  | 1 => ("HintHouse$Shape", "ay", "[I", true)
  | 2 => ("HintHouse$Shape", "bx", "[I", true)
  | 3 => ("HintHouse$Shape", "by", "[I", true)
  | 4 => ("HintHouse$Shape", "cx", "[I", true)
  | 5 => ("HintHouse$Shape", "cy", "[I", true)
  | 6 => ("HintHouse$Shape", "curved", "[Z", true)
  | 7 => ("HintHouse$Shape", "pieces", "I", false)
  | 8 => ("HintHouse$Shape", "chosen", "[I", true)
  | 9 => ("HintHouse$Shape", "chosenCount", "I", false)
  | 10 => ("HintHouse$Shape", "winding", "I", false)
  | 11 => ("HintHouse$Shape", "left", "I", false)
  | _ => ("HintHouse$Shape", "right", "I", false)
def tyX10 : Nat → FieldType := fun k => match k with
  | 0 => .array .int
  | 1 => .array .int
  | 2 => .array .int
  | 3 => .array .int
  | 4 => .array .int
  | 5 => .array .int
  | 6 => .array .boolean
  | 7 => .int
  | 8 => .array .int
  | 9 => .int
  | 10 => .int
  | 11 => .int
  | _ => .int
theorem nmX10 : ∀ a, a < 13 → ∀ b, b < 13 → a ≠ b → (TX10 a).2.1 ≠ (TX10 b).2.1 := by decide +kernel
theorem tyX10_ok : ∀ k, k < 13 → parseFieldDescriptor (TX10 k).2.2.1 = some (tyX10 k) := by decide +kernel
abbrev cX10_init : ByteArray := prog_12_method_1_code
def yX10_init : MethodName := ⟨RX10, "<init>", "()V"⟩
abbrev cX10_trace : ByteArray := prog_12_method_2_code
def yX10_trace : MethodName := ⟨RX10, "trace", "(LHintHouse$Points;)V"⟩
abbrev cX10_traceContour : ByteArray := prog_12_method_3_code
def yX10_traceContour : MethodName := ⟨RX10, "traceContour", "(LHintHouse$Points;II)V"⟩
abbrev cX10_addLine : ByteArray := prog_12_method_4_code
def yX10_addLine : MethodName := ⟨RX10, "addLine", "(LHintHouse$Points;II)V"⟩
abbrev cX10_addCurve : ByteArray := prog_12_method_5_code
def yX10_addCurve : MethodName := ⟨RX10, "addCurve", "(LHintHouse$Points;III)V"⟩
abbrev cX10_spans : ByteArray := prog_12_method_6_code
def yX10_spans : MethodName := ⟨RX10, "spans", "(I)Z"⟩
abbrev cX10_chooseRow : ByteArray := prog_12_method_7_code
def yX10_chooseRow : MethodName := ⟨RX10, "chooseRow", "(I)V"⟩
abbrev cX10_hasRow : ByteArray := prog_12_method_8_code
def yX10_hasRow : MethodName := ⟨RX10, "hasRow", "()Z"⟩
abbrev cX10_holds : ByteArray := prog_12_method_9_code
def yX10_holds : MethodName := ⟨RX10, "holds", "(II)Z"⟩
abbrev cX10_meets : ByteArray := prog_12_method_10_code
def yX10_meets : MethodName := ⟨RX10, "meets", "(III)Z"⟩
abbrev cX10_reaches : ByteArray := prog_12_method_11_code
def yX10_reaches : MethodName := ⟨RX10, "reaches", "(JJJ)Z"⟩
abbrev cX10_sideOf : ByteArray := prog_12_method_12_code
def yX10_sideOf : MethodName := ⟨RX10, "sideOf", "(JJJJ)I"⟩
abbrev cX10_crossing : ByteArray := prog_12_method_13_code
def yX10_crossing : MethodName := ⟨RX10, "crossing", "(JJJJ)I"⟩
def RX11 : String := "HintHouse"
def TX11 : u_T := fun k => match k with
  | 0 => ("HintHouse", "bytes", "[B", true)
  | 1 => ("HintHouse", "byteCount", "I", false)
  | 2 => ("HintHouse", "font", "LHintHouse$Font;", true)
  | 3 => ("HintHouse", "loader", "LHintHouse$Loader;", true)
  | 4 => ("HintHouse", "maker", "LHintHouse$Maker;", true)
  | 5 => ("HintHouse", "canvas", "LHintHouse$Canvas;", true)
  | 6 => ("HintHouse", "codes", "[I", true)
  | _ => ("HintHouse", "codeCount", "I", false)
def tyX11 : Nat → FieldType := fun k => match k with
  | 0 => .array .byte
  | 1 => .int
  | 2 => .object "HintHouse$Font"
  | 3 => .object "HintHouse$Loader"
  | 4 => .object "HintHouse$Maker"
  | 5 => .object "HintHouse$Canvas"
  | 6 => .array .int
  | _ => .int
theorem nmX11 : ∀ a, a < 8 → ∀ b, b < 8 → a ≠ b → (TX11 a).2.1 ≠ (TX11 b).2.1 := by decide +kernel
theorem tyX11_ok : ∀ k, k < 8 → parseFieldDescriptor (TX11 k).2.2.1 = some (tyX11 k) := by decide +kernel
abbrev cX11_init : ByteArray := prog_1_method_1_code
def yX11_init : MethodName := ⟨RX11, "<init>", "()V"⟩
abbrev cX11_feed : ByteArray := prog_1_method_2_code
def yX11_feed : MethodName := ⟨RX11, "feed", "(IJ)I"⟩
abbrev cX11_wipe : ByteArray := prog_1_method_3_code
def yX11_wipe : MethodName := ⟨RX11, "wipe", "()I"⟩
abbrev cX11_load : ByteArray := prog_1_method_4_code
def yX11_load : MethodName := ⟨RX11, "load", "()I"⟩
abbrev cX11_font : ByteArray := prog_1_method_5_code
def yX11_font : MethodName := ⟨RX11, "font", "(I)I"⟩
abbrev cX11_table : ByteArray := prog_1_method_6_code
def yX11_table : MethodName := ⟨RX11, "table", "(II)J"⟩
abbrev cX11_glyphOf : ByteArray := prog_1_method_7_code
def yX11_glyphOf : MethodName := ⟨RX11, "glyphOf", "(I)I"⟩
abbrev cX11_glyph : ByteArray := prog_1_method_8_code
def yX11_glyph : MethodName := ⟨RX11, "glyph", "(II)I"⟩
abbrev cX11_kern : ByteArray := prog_1_method_9_code
def yX11_kern : MethodName := ⟨RX11, "kern", "(II)I"⟩
abbrev cX11_size : ByteArray := prog_1_method_10_code
def yX11_size : MethodName := ⟨RX11, "size", "(I)I"⟩
abbrev cX11_make : ByteArray := prog_1_method_11_code
def yX11_make : MethodName := ⟨RX11, "make", "(I)I"⟩
abbrev cX11_point : ByteArray := prog_1_method_12_code
def yX11_point : MethodName := ⟨RX11, "point", "(II)I"⟩
abbrev cX11_told : ByteArray := prog_1_method_13_code
def yX11_told : MethodName := ⟨RX11, "told", "(I)I"⟩
abbrev cX11_held : ByteArray := prog_1_method_14_code
def yX11_held : MethodName := ⟨RX11, "held", "(II)I"⟩
abbrev cX11_isIn : ByteArray := prog_1_method_15_code
def yX11_isIn : MethodName := ⟨RX11, "isIn", "(II)I"⟩
abbrev cX11_canvas : ByteArray := prog_1_method_16_code
def yX11_canvas : MethodName := ⟨RX11, "canvas", "(II)I"⟩
abbrev cX11_draw : ByteArray := prog_1_method_17_code
def yX11_draw : MethodName := ⟨RX11, "draw", "(II)I"⟩
abbrev cX11_pixel : ByteArray := prog_1_method_18_code
def yX11_pixel : MethodName := ⟨RX11, "pixel", "(II)I"⟩
abbrev cX11_type : ByteArray := prog_1_method_19_code
def yX11_type : MethodName := ⟨RX11, "type", "(I)I"⟩
abbrev cX11_line : ByteArray := prog_1_method_20_code
def yX11_line : MethodName := ⟨RX11, "line", "(II)I"⟩
abbrev cX11_isBeyond : ByteArray := prog_1_method_21_code
def yX11_isBeyond : MethodName := ⟨RX11, "isBeyond", "(JI)Z"⟩
abbrev cX11_nearest : ByteArray := prog_1_method_22_code
def yX11_nearest : MethodName := ⟨RX11, "nearest", "(JJ)J"⟩
abbrev cX11_toWholePixel : ByteArray := prog_1_method_23_code
def yX11_toWholePixel : MethodName := ⟨RX11, "toWholePixel", "(J)J"⟩
def RX12 : String := "HintHouseModel"
def TX12 : u_T := fun k => match k with
  | 0 => ("HintHouseModel", "typed", "[B", false)
  | 1 => ("HintHouseModel", "typedMany", "I", false)
  | 2 => ("HintHouseModel", "font", "[B", false)
  | 3 => ("HintHouseModel", "fontMany", "I", false)
  | 4 => ("HintHouseModel", "isLoaded", "Z", false)
  | 5 => ("HintHouseModel", "tables", "I", false)
  | 6 => ("HintHouseModel", "tag", "[I", false)
  | 7 => ("HintHouseModel", "sum", "[J", false)
  | 8 => ("HintHouseModel", "begin", "[J", false)
  | 9 => ("HintHouseModel", "length", "[J", false)
  | 10 => ("HintHouseModel", "units", "I", false)
  | 11 => ("HintHouseModel", "form", "I", false)
  | 12 => ("HintHouseModel", "glyphs", "I", false)
  | 13 => ("HintHouseModel", "zones", "I", false)
  | 14 => ("HintHouseModel", "twilight", "I", false)
  | 15 => ("HintHouseModel", "storages", "I", false)
  | 16 => ("HintHouseModel", "functions", "I", false)
  | 17 => ("HintHouseModel", "ownCodes", "I", false)
  | 18 => ("HintHouseModel", "stackMost", "I", false)
  | 19 => ("HintHouseModel", "depthMost", "I", false)
  | 20 => ("HintHouseModel", "metrics", "I", false)
  | 21 => ("HintHouseModel", "mapAt", "I", false)
  | 22 => ("HintHouseModel", "mapForm", "I", false)
  | 23 => ("HintHouseModel", "mapMany", "I", false)
  | 24 => ("HintHouseModel", "pairs", "I", false)
  | 25 => ("HintHouseModel", "cvts", "I", false)
  | 26 => ("HintHouseModel", "gBegin", "I", false)
  | 27 => ("HintHouseModel", "gEnd", "I", false)
  | 28 => ("HintHouseModel", "gContours", "I", false)
  | 29 => ("HintHouseModel", "gPoints", "I", false)
  | 30 => ("HintHouseModel", "gParts", "I", false)
  | 31 => ("HintHouseModel", "gProgram", "I", false)
  | 32 => ("HintHouseModel", "gProgramMany", "I", false)
  | 33 => ("HintHouseModel", "gEnds", "[I", false)
  | 34 => ("HintHouseModel", "gX", "[I", false)
  | 35 => ("HintHouseModel", "gY", "[I", false)
  | 36 => ("HintHouseModel", "gFlag", "[I", false)
  | 37 => ("HintHouseModel", "pFlags", "[I", false)
  | 38 => ("HintHouseModel", "pGlyph", "[I", false)
  | 39 => ("HintHouseModel", "pOne", "[I", false)
  | 40 => ("HintHouseModel", "pTwo", "[I", false)
  | 41 => ("HintHouseModel", "pScale", "[I", false)
  | 42 => ("HintHouseModel", "within", "[Z", false)
  | 43 => ("HintHouseModel", "withinNow", "[Z", false)
  | 44 => ("HintHouseModel", "cvt", "[I", false)
  | 45 => ("HintHouseModel", "storage", "[I", false)
  | 46 => ("HintHouseModel", "ox", "[I", false)
  | 47 => ("HintHouseModel", "oy", "[I", false)
  | 48 => ("HintHouseModel", "cx", "[I", false)
  | 49 => ("HintHouseModel", "cy", "[I", false)
  | 50 => ("HintHouseModel", "touched", "[I", false)
  | 51 => ("HintHouseModel", "on", "[Z", false)
  | 52 => ("HintHouseModel", "zoneMany", "I", false)
  | 53 => ("HintHouseModel", "contours", "I", false)
  | 54 => ("HintHouseModel", "ends", "[I", false)
  | 55 => ("HintHouseModel", "stack", "[I", false)
  | 56 => ("HintHouseModel", "top", "I", false)
  | 57 => ("HintHouseModel", "peak", "I", false)
  | 58 => ("HintHouseModel", "steps", "I", false)
  | 59 => ("HintHouseModel", "failure", "I", false)
  | 60 => ("HintHouseModel", "failurePlace", "I", false)
  | 61 => ("HintHouseModel", "codeAt", "I", false)
  | 62 => ("HintHouseModel", "ppem", "I", false)
  | 63 => ("HintHouseModel", "fx", "I", false)
  | 64 => ("HintHouseModel", "fy", "I", false)
  | 65 => ("HintHouseModel", "px", "I", false)
  | 66 => ("HintHouseModel", "py", "I", false)
  | 67 => ("HintHouseModel", "dx", "I", false)
  | 68 => ("HintHouseModel", "dy", "I", false)
  | 69 => ("HintHouseModel", "rp0", "I", false)
  | 70 => ("HintHouseModel", "rp1", "I", false)
  | 71 => ("HintHouseModel", "rp2", "I", false)
  | 72 => ("HintHouseModel", "zp0", "I", false)
  | 73 => ("HintHouseModel", "zp1", "I", false)
  | 74 => ("HintHouseModel", "zp2", "I", false)
  | 75 => ("HintHouseModel", "loop", "I", false)
  | 76 => ("HintHouseModel", "rounding", "I", false)
  | 77 => ("HintHouseModel", "period", "I", false)
  | 78 => ("HintHouseModel", "phase", "I", false)
  | 79 => ("HintHouseModel", "threshold", "I", false)
  | 80 => ("HintHouseModel", "cut", "I", false)
  | 81 => ("HintHouseModel", "single", "I", false)
  | 82 => ("HintHouseModel", "singleCut", "I", false)
  | 83 => ("HintHouseModel", "least", "I", false)
  | 84 => ("HintHouseModel", "flip", "Z", false)
  | 85 => ("HintHouseModel", "base", "I", false)
  | 86 => ("HintHouseModel", "shift", "I", false)
  | 87 => ("HintHouseModel", "scan", "I", false)
  | 88 => ("HintHouseModel", "scanKind", "I", false)
  | 89 => ("HintHouseModel", "programAt", "[I", false)
  | 90 => ("HintHouseModel", "programMany", "[I", false)
  | 91 => ("HintHouseModel", "running", "I", false)
  | 92 => ("HintHouseModel", "now", "I", false)
  | 93 => ("HintHouseModel", "pc", "I", false)
  | 94 => ("HintHouseModel", "functionAt", "[I", false)
  | 95 => ("HintHouseModel", "functionIn", "[I", false)
  | 96 => ("HintHouseModel", "ownAt", "[I", false)
  | 97 => ("HintHouseModel", "ownIn", "[I", false)
  | 98 => ("HintHouseModel", "ownMany", "I", false)
  | 99 => ("HintHouseModel", "frames", "I", false)
  | 100 => ("HintHouseModel", "frameIn", "[I", false)
  | 101 => ("HintHouseModel", "framePc", "[I", false)
  | 102 => ("HintHouseModel", "frameOf", "[I", false)
  | 103 => ("HintHouseModel", "frameAt", "[I", false)
  | 104 => ("HintHouseModel", "frameLeft", "[I", false)
  | 105 => ("HintHouseModel", "directionX", "I", false)
  | 106 => ("HintHouseModel", "directionY", "I", false)
  | 107 => ("HintHouseModel", "hasSize", "Z", false)
  | 108 => ("HintHouseModel", "isMade", "Z", false)
  | 109 => ("HintHouseModel", "lastSteps", "I", false)
  | 110 => ("HintHouseModel", "failed", "I", false)
  | 111 => ("HintHouseModel", "lastFailure", "I", false)
  | 112 => ("HintHouseModel", "lastPlace", "I", false)
  | 113 => ("HintHouseModel", "sizeCvt", "[I", false)
  | 114 => ("HintHouseModel", "sizeStorage", "[I", false)
  | 115 => ("HintHouseModel", "sizeZone", "[I", false)
  | 116 => ("HintHouseModel", "kept", "[I", false)
  | 117 => ("HintHouseModel", "sizeTouched", "[I", false)
  | 118 => ("HintHouseModel", "lMany", "[I", false)
  | 119 => ("HintHouseModel", "lContours", "[I", false)
  | 120 => ("HintHouseModel", "lx", "[I", false)
  | 121 => ("HintHouseModel", "ly", "[I", false)
  | 122 => ("HintHouseModel", "lOn", "[Z", false)
  | 123 => ("HintHouseModel", "lEnds", "[I", false)
  | 124 => ("HintHouseModel", "lPhantom", "[I", false)
  | 125 => ("HintHouseModel", "parts", "I", false)
  | 126 => ("HintHouseModel", "madeScan", "I", false)
  | 127 => ("HintHouseModel", "madeKind", "I", false)
  | 128 => ("HintHouseModel", "mMany", "I", false)
  | 129 => ("HintHouseModel", "mContours", "I", false)
  | 130 => ("HintHouseModel", "mx", "[I", false)
  | 131 => ("HintHouseModel", "my", "[I", false)
  | 132 => ("HintHouseModel", "mOn", "[Z", false)
  | 133 => ("HintHouseModel", "mEnds", "[I", false)
  | 134 => ("HintHouseModel", "mAdvance", "I", false)
  | 135 => ("HintHouseModel", "nodes", "I", false)
  | 136 => ("HintHouseModel", "nx", "[I", false)
  | 137 => ("HintHouseModel", "ny", "[I", false)
  | 138 => ("HintHouseModel", "nOn", "[Z", false)
  | 139 => ("HintHouseModel", "turns", "I", false)
  | 140 => ("HintHouseModel", "isOn", "Z", false)
  | 141 => ("HintHouseModel", "wide", "I", false)
  | 142 => ("HintHouseModel", "tall", "I", false)
  | 143 => ("HintHouseModel", "pixel", "[Z", false)
  | 144 => ("HintHouseModel", "codes", "I", false)
  | _ => ("HintHouseModel", "code", "[I", false)
def tyX12 : Nat → FieldType := fun k => match k with
  | 0 => .array .byte
  | 1 => .int
  | 2 => .array .byte
  | 3 => .int
  | 4 => .boolean
  | 5 => .int
  | 6 => .array .int
  | 7 => .array .long
  | 8 => .array .long
  | 9 => .array .long
  | 10 => .int
  | 11 => .int
  | 12 => .int
  | 13 => .int
  | 14 => .int
  | 15 => .int
  | 16 => .int
  | 17 => .int
  | 18 => .int
  | 19 => .int
  | 20 => .int
  | 21 => .int
  | 22 => .int
  | 23 => .int
  | 24 => .int
  | 25 => .int
  | 26 => .int
  | 27 => .int
  | 28 => .int
  | 29 => .int
  | 30 => .int
  | 31 => .int
  | 32 => .int
  | 33 => .array .int
  | 34 => .array .int
  | 35 => .array .int
  | 36 => .array .int
  | 37 => .array .int
  | 38 => .array .int
  | 39 => .array .int
  | 40 => .array .int
  | 41 => .array .int
  | 42 => .array .boolean
  | 43 => .array .boolean
  | 44 => .array .int
  | 45 => .array .int
  | 46 => .array .int
  | 47 => .array .int
  | 48 => .array .int
  | 49 => .array .int
  | 50 => .array .int
  | 51 => .array .boolean
  | 52 => .int
  | 53 => .int
  | 54 => .array .int
  | 55 => .array .int
  | 56 => .int
  | 57 => .int
  | 58 => .int
  | 59 => .int
  | 60 => .int
  | 61 => .int
  | 62 => .int
  | 63 => .int
  | 64 => .int
  | 65 => .int
  | 66 => .int
  | 67 => .int
  | 68 => .int
  | 69 => .int
  | 70 => .int
  | 71 => .int
  | 72 => .int
  | 73 => .int
  | 74 => .int
  | 75 => .int
  | 76 => .int
  | 77 => .int
  | 78 => .int
  | 79 => .int
  | 80 => .int
  | 81 => .int
  | 82 => .int
  | 83 => .int
  | 84 => .boolean
  | 85 => .int
  | 86 => .int
  | 87 => .int
  | 88 => .int
  | 89 => .array .int
  | 90 => .array .int
  | 91 => .int
  | 92 => .int
  | 93 => .int
  | 94 => .array .int
  | 95 => .array .int
  | 96 => .array .int
  | 97 => .array .int
  | 98 => .int
  | 99 => .int
  | 100 => .array .int
  | 101 => .array .int
  | 102 => .array .int
  | 103 => .array .int
  | 104 => .array .int
  | 105 => .int
  | 106 => .int
  | 107 => .boolean
  | 108 => .boolean
  | 109 => .int
  | 110 => .int
  | 111 => .int
  | 112 => .int
  | 113 => .array .int
  | 114 => .array .int
  | 115 => .array .int
  | 116 => .array .int
  | 117 => .array .int
  | 118 => .array .int
  | 119 => .array .int
  | 120 => .array .int
  | 121 => .array .int
  | 122 => .array .boolean
  | 123 => .array .int
  | 124 => .array .int
  | 125 => .int
  | 126 => .int
  | 127 => .int
  | 128 => .int
  | 129 => .int
  | 130 => .array .int
  | 131 => .array .int
  | 132 => .array .boolean
  | 133 => .array .int
  | 134 => .int
  | 135 => .int
  | 136 => .array .int
  | 137 => .array .int
  | 138 => .array .boolean
  | 139 => .int
  | 140 => .boolean
  | 141 => .int
  | 142 => .int
  | 143 => .array .boolean
  | 144 => .int
  | _ => .array .int
theorem nmX12_lt : ∀ a, a < 146 → ∀ b, b < a → (TX12 a).2.1 ≠ (TX12 b).2.1 := by decide +kernel
theorem nmX12 : ∀ a, a < 146 → ∀ b, b < 146 → a ≠ b → (TX12 a).2.1 ≠ (TX12 b).2.1 := fun a ha b hb h => (Nat.lt_or_gt_of_ne h).elim (fun e => Ne.symm (nmX12_lt b hb a e)) (fun e => nmX12_lt a ha b e)
theorem tyX12_ok : ∀ k, k < 146 → parseFieldDescriptor (TX12 k).2.2.1 = some (tyX12 k) := by decide +kernel
abbrev cX12_init : ByteArray := prog_14_method_1_code
def yX12_init : MethodName := ⟨RX12, "<init>", "()V"⟩
abbrev cX12_in : ByteArray := prog_14_method_3_code
def yX12_in : MethodName := ⟨RX12, "in", "(JJJ)Z"⟩
abbrev cX12_over : ByteArray := prog_14_method_4_code
def yX12_over : MethodName := ⟨RX12, "over", "(JJ)J"⟩
abbrev cX12_nearest : ByteArray := prog_14_method_5_code
def yX12_nearest : MethodName := ⟨RX12, "nearest", "(JJ)J"⟩
abbrev cX12_sizeOf : ByteArray := prog_14_method_6_code
def yX12_sizeOf : MethodName := ⟨RX12, "sizeOf", "(J)J"⟩
abbrev cX12_toPixel : ByteArray := prog_14_method_7_code
def yX12_toPixel : MethodName := ⟨RX12, "toPixel", "(J)I"⟩
abbrev cX12_u1 : ByteArray := prog_14_method_8_code
def yX12_u1 : MethodName := ⟨RX12, "u1", "(I)I"⟩
abbrev cX12_u2 : ByteArray := prog_14_method_9_code
def yX12_u2 : MethodName := ⟨RX12, "u2", "(I)I"⟩
abbrev cX12_s2 : ByteArray := prog_14_method_10_code
def yX12_s2 : MethodName := ⟨RX12, "s2", "(I)I"⟩
abbrev cX12_s1 : ByteArray := prog_14_method_11_code
def yX12_s1 : MethodName := ⟨RX12, "s1", "(I)I"⟩
abbrev cX12_u4 : ByteArray := prog_14_method_12_code
def yX12_u4 : MethodName := ⟨RX12, "u4", "(I)J"⟩
abbrev cX12_tableOf : ByteArray := prog_14_method_13_code
def yX12_tableOf : MethodName := ⟨RX12, "tableOf", "(I)I"⟩
abbrev cX12_beginOf : ByteArray := prog_14_method_14_code
def yX12_beginOf : MethodName := ⟨RX12, "beginOf", "(I)I"⟩
abbrev cX12_lengthOf : ByteArray := prog_14_method_15_code
def yX12_lengthOf : MethodName := ⟨RX12, "lengthOf", "(I)I"⟩
abbrev cX12_sumOf : ByteArray := prog_14_method_16_code
def yX12_sumOf : MethodName := ⟨RX12, "sumOf", "(III)I"⟩
abbrev cX12_check : ByteArray := prog_14_method_17_code
def yX12_check : MethodName := ⟨RX12, "check", "()I"⟩
abbrev cX12_checkGlyphs : ByteArray := prog_14_method_18_code
def yX12_checkGlyphs : MethodName := ⟨RX12, "checkGlyphs", "()I"⟩
abbrev cX12_directory : ByteArray := prog_14_method_19_code
def yX12_directory : MethodName := ⟨RX12, "directory", "()Z"⟩
abbrev cX12_head : ByteArray := prog_14_method_20_code
def yX12_head : MethodName := ⟨RX12, "head", "()Z"⟩
abbrev cX12_maxp : ByteArray := prog_14_method_21_code
def yX12_maxp : MethodName := ⟨RX12, "maxp", "()Z"⟩
abbrev cX12_loca : ByteArray := prog_14_method_22_code
def yX12_loca : MethodName := ⟨RX12, "loca", "(I)J"⟩
abbrev cX12_bytesOf : ByteArray := prog_14_method_23_code
def yX12_bytesOf : MethodName := ⟨RX12, "bytesOf", "(I)V"⟩
abbrev cX12_isGlyph : ByteArray := prog_14_method_24_code
def yX12_isGlyph : MethodName := ⟨RX12, "isGlyph", "(I)Z"⟩
abbrev cX12_simple : ByteArray := prog_14_method_25_code
def yX12_simple : MethodName := ⟨RX12, "simple", "()Z"⟩
abbrev cX12_coordinates : ByteArray := prog_14_method_26_code
def yX12_coordinates : MethodName := ⟨RX12, "coordinates", "(I[III)I"⟩
abbrev cX12_composed : ByteArray := prog_14_method_27_code
def yX12_composed : MethodName := ⟨RX12, "composed", "()Z"⟩
abbrev cX12_areWithin : ByteArray := prog_14_method_28_code
def yX12_areWithin : MethodName := ⟨RX12, "areWithin", "()Z"⟩
abbrev cX12_map : ByteArray := prog_14_method_29_code
def yX12_map : MethodName := ⟨RX12, "map", "()Z"⟩
abbrev cX12_setMany : ByteArray := prog_14_method_30_code
def yX12_setMany : MethodName := ⟨RX12, "setMany", "(I)Z"⟩
abbrev cX12_segments : ByteArray := prog_14_method_31_code
def yX12_segments : MethodName := ⟨RX12, "segments", "(I)Z"⟩
abbrev cX12_groups : ByteArray := prog_14_method_32_code
def yX12_groups : MethodName := ⟨RX12, "groups", "(I)Z"⟩
abbrev cX12_mapped : ByteArray := prog_14_method_33_code
def yX12_mapped : MethodName := ⟨RX12, "mapped", "(I)J"⟩
abbrev cX12_kerns : ByteArray := prog_14_method_34_code
def yX12_kerns : MethodName := ⟨RX12, "kerns", "()Z"⟩
abbrev cX12_kernOf : ByteArray := prog_14_method_35_code
def yX12_kernOf : MethodName := ⟨RX12, "kernOf", "(II)I"⟩
abbrev cX12_advanceOf : ByteArray := prog_14_method_36_code
def yX12_advanceOf : MethodName := ⟨RX12, "advanceOf", "(I)I"⟩
abbrev cX12_bearingOf : ByteArray := prog_14_method_37_code
def yX12_bearingOf : MethodName := ⟨RX12, "bearingOf", "(I)I"⟩
abbrev cX12_leftOf : ByteArray := prog_14_method_38_code
def yX12_leftOf : MethodName := ⟨RX12, "leftOf", "(I)I"⟩
abbrev cX12_fail : ByteArray := prog_14_method_39_code
def yX12_fail : MethodName := ⟨RX12, "fail", "(I)V"⟩
abbrev cX12_has : ByteArray := prog_14_method_40_code
def yX12_has : MethodName := ⟨RX12, "has", "(I)Z"⟩
abbrev cX12_pop : ByteArray := prog_14_method_41_code
def yX12_pop : MethodName := ⟨RX12, "pop", "()I"⟩
abbrev cX12_push : ByteArray := prog_14_method_42_code
def yX12_push : MethodName := ⟨RX12, "push", "(J)V"⟩
abbrev cX12_codeByte : ByteArray := prog_14_method_43_code
def yX12_codeByte : MethodName := ⟨RX12, "codeByte", "(I)I"⟩
abbrev cX12_codeLength : ByteArray := prog_14_method_44_code
def yX12_codeLength : MethodName := ⟨RX12, "codeLength", "(I)I"⟩
abbrev cX12_settings : ByteArray := prog_14_method_45_code
def yX12_settings : MethodName := ⟨RX12, "settings", "()V"⟩
abbrev cX12_setRounding : ByteArray := prog_14_method_46_code
def yX12_setRounding : MethodName := ⟨RX12, "setRounding", "(IIII)V"⟩
abbrev cX12_rounded : ByteArray := prog_14_method_47_code
def yX12_rounded : MethodName := ⟨RX12, "rounded", "(J)J"⟩
abbrev cX12_runProgram : ByteArray := prog_14_method_48_code
def yX12_runProgram : MethodName := ⟨RX12, "runProgram", "(I)V"⟩
abbrev cX12_pass : ByteArray := prog_14_method_49_code
def yX12_pass : MethodName := ⟨RX12, "pass", "(IIIZ)I"⟩
abbrev cX12_call : ByteArray := prog_14_method_50_code
def yX12_call : MethodName := ⟨RX12, "call", "(III)V"⟩
abbrev cX12_endFunction : ByteArray := prog_14_method_51_code
def yX12_endFunction : MethodName := ⟨RX12, "endFunction", "()V"⟩
abbrev cX12_jump : ByteArray := prog_14_method_52_code
def yX12_jump : MethodName := ⟨RX12, "jump", "(J)V"⟩
abbrev cX12_pointOf : ByteArray := prog_14_method_53_code
def yX12_pointOf : MethodName := ⟨RX12, "pointOf", "(II)I"⟩
abbrev cX12_by : ByteArray := prog_14_method_54_code
def yX12_by : MethodName := ⟨RX12, "by", "(IIII)I"⟩
abbrev cX12_longOf : ByteArray := prog_14_method_55_code
def yX12_longOf : MethodName := ⟨RX12, "longOf", "(I)I"⟩
abbrev cX12_between : ByteArray := prog_14_method_56_code
def yX12_between : MethodName := ⟨RX12, "between", "(II)I"⟩
abbrev cX12_originally : ByteArray := prog_14_method_57_code
def yX12_originally : MethodName := ⟨RX12, "originally", "(II)I"⟩
abbrev cX12_touch : ByteArray := prog_14_method_58_code
def yX12_touch : MethodName := ⟨RX12, "touch", "(I)V"⟩
abbrev cX12_shiftBy : ByteArray := prog_14_method_59_code
def yX12_shiftBy : MethodName := ⟨RX12, "shiftBy", "(IJZ)V"⟩
abbrev cX12_move : ByteArray := prog_14_method_60_code
def yX12_move : MethodName := ⟨RX12, "move", "(IJ)V"⟩
abbrev cX12_direction : ByteArray := prog_14_method_61_code
def yX12_direction : MethodName := ⟨RX12, "direction", "(II)V"⟩
abbrev cX12_part : ByteArray := prog_14_method_62_code
def yX12_part : MethodName := ⟨RX12, "part", "(IJ)I"⟩
abbrev cX12_put : ByteArray := prog_14_method_63_code
def yX12_put : MethodName := ⟨RX12, "put", "(IJJ)V"⟩
abbrev cX12_cvtOf : ByteArray := prog_14_method_64_code
def yX12_cvtOf : MethodName := ⟨RX12, "cvtOf", "(I)I"⟩
abbrev cX12_perform : ByteArray := prog_14_method_65_code
def yX12_perform : MethodName := ⟨RX12, "perform", "(I)V"⟩
abbrev cX12_pushBytes : ByteArray := prog_14_method_66_code
def yX12_pushBytes : MethodName := ⟨RX12, "pushBytes", "(IZI)V"⟩
abbrev cX12_setVectors : ByteArray := prog_14_method_67_code
def yX12_setVectors : MethodName := ⟨RX12, "setVectors", "(IIZZ)V"⟩
abbrev cX12_unknown : ByteArray := prog_14_method_68_code
def yX12_unknown : MethodName := ⟨RX12, "unknown", "(I)V"⟩
abbrev cX12_low : ByteArray := prog_14_method_69_code
def yX12_low : MethodName := ⟨RX12, "low", "(I)V"⟩
abbrev cX12_scaled : ByteArray := prog_14_method_70_code
def yX12_scaled : MethodName := ⟨RX12, "scaled", "(J)I"⟩
abbrev cX12_isZone : ByteArray := prog_14_method_71_code
def yX12_isZone : MethodName := ⟨RX12, "isZone", "(I)Z"⟩
abbrev cX12_setZone : ByteArray := prog_14_method_72_code
def yX12_setZone : MethodName := ⟨RX12, "setZone", "(I)V"⟩
abbrev cX12_stacks : ByteArray := prog_14_method_73_code
def yX12_stacks : MethodName := ⟨RX12, "stacks", "(I)V"⟩
abbrev cX12_callFunction : ByteArray := prog_14_method_74_code
def yX12_callFunction : MethodName := ⟨RX12, "callFunction", "(Z)V"⟩
abbrev cX12_defineFunction : ByteArray := prog_14_method_75_code
def yX12_defineFunction : MethodName := ⟨RX12, "defineFunction", "()V"⟩
abbrev cX12_defineOwn : ByteArray := prog_14_method_76_code
def yX12_defineOwn : MethodName := ⟨RX12, "defineOwn", "()V"⟩
abbrev cX12_middle : ByteArray := prog_14_method_77_code
def yX12_middle : MethodName := ⟨RX12, "middle", "(I)V"⟩
abbrev cX12_setCvt : ByteArray := prog_14_method_78_code
def yX12_setCvt : MethodName := ⟨RX12, "setCvt", "(Z)V"⟩
abbrev cX12_one : ByteArray := prog_14_method_79_code
def yX12_one : MethodName := ⟨RX12, "one", "(Z)I"⟩
abbrev cX12_tests : ByteArray := prog_14_method_80_code
def yX12_tests : MethodName := ⟨RX12, "tests", "(I)V"⟩
abbrev cX12_followAll : ByteArray := prog_14_method_81_code
def yX12_followAll : MethodName := ⟨RX12, "followAll", "([I[II)V"⟩
abbrev cX12_follow : ByteArray := prog_14_method_82_code
def yX12_follow : MethodName := ⟨RX12, "follow", "([I[IIII)V"⟩
abbrev cX12_likeReference : ByteArray := prog_14_method_83_code
def yX12_likeReference : MethodName := ⟨RX12, "likeReference", "(I)V"⟩
abbrev cX12_loops : ByteArray := prog_14_method_84_code
def yX12_loops : MethodName := ⟨RX12, "loops", "(I)V"⟩
abbrev cX12_inBetween : ByteArray := prog_14_method_85_code
def yX12_inBetween : MethodName := ⟨RX12, "inBetween", "(I)V"⟩
abbrev cX12_toDistance : ByteArray := prog_14_method_86_code
def yX12_toDistance : MethodName := ⟨RX12, "toDistance", "(I)V"⟩
abbrev cX12_toCvt : ByteArray := prog_14_method_87_code
def yX12_toCvt : MethodName := ⟨RX12, "toCvt", "(I)V"⟩
abbrev cX12_singled : ByteArray := prog_14_method_88_code
def yX12_singled : MethodName := ⟨RX12, "singled", "(J)J"⟩
abbrev cX12_atLeast : ByteArray := prog_14_method_89_code
def yX12_atLeast : MethodName := ⟨RX12, "atLeast", "(IJJ)J"⟩
abbrev cX12_settle : ByteArray := prog_14_method_90_code
def yX12_settle : MethodName := ⟨RX12, "settle", "(IIIIJ)V"⟩
abbrev cX12_relative : ByteArray := prog_14_method_91_code
def yX12_relative : MethodName := ⟨RX12, "relative", "(I)V"⟩
abbrev cX12_indirect : ByteArray := prog_14_method_92_code
def yX12_indirect : MethodName := ⟨RX12, "indirect", "(I)V"⟩
abbrev cX12_deltas : ByteArray := prog_14_method_93_code
def yX12_deltas : MethodName := ⟨RX12, "deltas", "(IZ)V"⟩
abbrev cX12_high : ByteArray := prog_14_method_94_code
def yX12_high : MethodName := ⟨RX12, "high", "(I)V"⟩
abbrev cX12_ownRounding : ByteArray := prog_14_method_95_code
def yX12_ownRounding : MethodName := ⟨RX12, "ownRounding", "(I)V"⟩
abbrev cX12_more : ByteArray := prog_14_method_96_code
def yX12_more : MethodName := ⟨RX12, "more", "(I)V"⟩
abbrev cX12_keep : ByteArray := prog_14_method_97_code
def yX12_keep : MethodName := ⟨RX12, "keep", "()V"⟩
abbrev cX12_bring : ByteArray := prog_14_method_98_code
def yX12_bring : MethodName := ⟨RX12, "bring", "()V"⟩
abbrev cX12_failedNow : ByteArray := prog_14_method_99_code
def yX12_failedNow : MethodName := ⟨RX12, "failedNow", "()I"⟩
abbrev cX12_size : ByteArray := prog_14_method_100_code
def yX12_size : MethodName := ⟨RX12, "size", "(I)I"⟩
abbrev cX12_failOutside : ByteArray := prog_14_method_101_code
def yX12_failOutside : MethodName := ⟨RX12, "failOutside", "(I)V"⟩
abbrev cX12_makeGlyph : ByteArray := prog_14_method_102_code
def yX12_makeGlyph : MethodName := ⟨RX12, "makeGlyph", "(II)V"⟩
abbrev cX12_makePart : ByteArray := prog_14_method_103_code
def yX12_makePart : MethodName := ⟨RX12, "makePart", "(III)V"⟩
abbrev cX12_hint : ByteArray := prog_14_method_104_code
def yX12_hint : MethodName := ⟨RX12, "hint", "(I)V"⟩
abbrev cX12_makeIt : ByteArray := prog_14_method_105_code
def yX12_makeIt : MethodName := ⟨RX12, "makeIt", "(I)I"⟩
abbrev cX12_make : ByteArray := prog_14_method_106_code
def yX12_make : MethodName := ⟨RX12, "make", "(I)I"⟩
abbrev cX12_node : ByteArray := prog_14_method_107_code
def yX12_node : MethodName := ⟨RX12, "node", "(IIZ)V"⟩
abbrev cX12_cross : ByteArray := prog_14_method_108_code
def yX12_cross : MethodName := ⟨RX12, "cross", "(JJJJ)J"⟩
abbrev cX12_between0 : ByteArray := prog_14_method_109_code
def yX12_between0 : MethodName := ⟨RX12, "between0", "(JJ)Z"⟩
abbrev cX12_straight : ByteArray := prog_14_method_110_code
def yX12_straight : MethodName := ⟨RX12, "straight", "(JJJJ)V"⟩
abbrev cX12_meetsZero : ByteArray := prog_14_method_111_code
def yX12_meetsZero : MethodName := ⟨RX12, "meetsZero", "(JJJ)Z"⟩
abbrev cX12_curve : ByteArray := prog_14_method_112_code
def yX12_curve : MethodName := ⟨RX12, "curve", "(JJJJJJ)V"⟩
abbrev cX12_contour : ByteArray := prog_14_method_113_code
def yX12_contour : MethodName := ⟨RX12, "contour", "(IIJJ)V"⟩
abbrev cX12_isInside : ByteArray := prog_14_method_114_code
def yX12_isInside : MethodName := ⟨RX12, "isInside", "(II)Z"⟩
abbrev cX12_isIn : ByteArray := prog_14_method_115_code
def yX12_isIn : MethodName := ⟨RX12, "isIn", "(II)I"⟩
abbrev cX12_canvas : ByteArray := prog_14_method_116_code
def yX12_canvas : MethodName := ⟨RX12, "canvas", "(II)I"⟩
abbrev cX12_drawIt : ByteArray := prog_14_method_117_code
def yX12_drawIt : MethodName := ⟨RX12, "drawIt", "(II)I"⟩
abbrev cX12_draw : ByteArray := prog_14_method_118_code
def yX12_draw : MethodName := ⟨RX12, "draw", "(II)I"⟩
abbrev cX12_pixel : ByteArray := prog_14_method_119_code
def yX12_pixel : MethodName := ⟨RX12, "pixel", "(II)I"⟩
abbrev cX12_type : ByteArray := prog_14_method_120_code
def yX12_type : MethodName := ⟨RX12, "type", "(I)I"⟩
abbrev cX12_glyphAt : ByteArray := prog_14_method_121_code
def yX12_glyphAt : MethodName := ⟨RX12, "glyphAt", "(I)I"⟩
abbrev cX12_line : ByteArray := prog_14_method_122_code
def yX12_line : MethodName := ⟨RX12, "line", "(II)I"⟩
abbrev cX12_feed : ByteArray := prog_14_method_123_code
def yX12_feed : MethodName := ⟨RX12, "feed", "(IJ)I"⟩
abbrev cX12_wipe : ByteArray := prog_14_method_124_code
def yX12_wipe : MethodName := ⟨RX12, "wipe", "()I"⟩
abbrev cX12_load : ByteArray := prog_14_method_125_code
def yX12_load : MethodName := ⟨RX12, "load", "()I"⟩
abbrev cX12_font : ByteArray := prog_14_method_126_code
def yX12_font : MethodName := ⟨RX12, "font", "(I)I"⟩
abbrev cX12_table : ByteArray := prog_14_method_127_code
def yX12_table : MethodName := ⟨RX12, "table", "(II)J"⟩
abbrev cX12_glyphOf : ByteArray := prog_14_method_128_code
def yX12_glyphOf : MethodName := ⟨RX12, "glyphOf", "(I)I"⟩
abbrev cX12_glyph : ByteArray := prog_14_method_129_code
def yX12_glyph : MethodName := ⟨RX12, "glyph", "(II)I"⟩
abbrev cX12_kern : ByteArray := prog_14_method_130_code
def yX12_kern : MethodName := ⟨RX12, "kern", "(II)I"⟩
abbrev cX12_point : ByteArray := prog_14_method_131_code
def yX12_point : MethodName := ⟨RX12, "point", "(II)I"⟩
abbrev cX12_told : ByteArray := prog_14_method_132_code
def yX12_told : MethodName := ⟨RX12, "told", "(I)I"⟩
abbrev cX12_held : ByteArray := prog_14_method_133_code
def yX12_held : MethodName := ⟨RX12, "held", "(II)I"⟩
def RJ9 : String := "java/lang/Math"
abbrev cJ9_floorDiv_f86c9 : ByteArray := prog_15_method_49_code
def yJ9_floorDiv_f86c9 : MethodName := ⟨RJ9, "floorDiv", "(JJ)J"⟩
abbrev cJ9_abs_067f4 : ByteArray := prog_15_method_61_code
def yJ9_abs_067f4 : MethodName := ⟨RJ9, "abs", "(J)J"⟩
abbrev cJ9_max_7cf53 : ByteArray := prog_15_method_65_code
def yJ9_max_7cf53 : MethodName := ⟨RJ9, "max", "(II)I"⟩
abbrev cJ9_max_f86c9 : ByteArray := prog_15_method_66_code
def yJ9_max_f86c9 : MethodName := ⟨RJ9, "max", "(JJ)J"⟩
abbrev cJ9_min_7cf53 : ByteArray := prog_15_method_69_code
def yJ9_min_7cf53 : MethodName := ⟨RJ9, "min", "(II)I"⟩
abbrev cJ9_min_f86c9 : ByteArray := prog_15_method_70_code
def yJ9_min_f86c9 : MethodName := ⟨RJ9, "min", "(JJ)J"⟩
def RJ10 : String := "java/lang/System"
def RJ7 : String := "java/util/Arrays"
abbrev cJ7_fill_53178 : ByteArray := prog_17_method_103_code
def yJ7_fill_53178 : MethodName := ⟨RJ7, "fill", "([II)V"⟩
abbrev cJ7_fill_031fb : ByteArray := prog_17_method_109_code
def yJ7_fill_031fb : MethodName := ⟨RJ7, "fill", "([BB)V"⟩
def RL : String := "HintHouseLaw"
abbrev cL_law : ByteArray := code
def yL_law : MethodName := ⟨RL, "law", "([I)Z"⟩
abbrev vwCl : List vw_C := [(RX0, TX0, 10), (RX1, TX1, 3), (RX2, TX2, 17), (RX3, TX3, 15), (RX4, TX4, 2), (RX5, TX5, 17), (RX6, TX6, 13), (RX7, TX7, 6), (RX8, TX8, 12), (RX9, TX9, 14), (RX10, TX10, 13), (RX11, TX11, 8), (RX12, TX12, 146)]
/-! words that stay good in every frame, and those of nest mates -/
def lw_good : List Cond := lw_tbl.filter goodWord
def lw_nest : List Cond := [(Jvm.Cond.methodLinkNest "HintHouse" (15 : Nat) ({ cls := "HintHouse$Font", name := "<init>", desc := "()V" } : Jvm.MethodName) "HintHouse"), (Jvm.Cond.fieldLinkNest "HintHouse$Font" (15 : Nat) "HintHouse" "TAGS" "[I" "HintHouse"), (Jvm.Cond.fieldLinkNest "HintHouse$Font" (25 : Nat) "HintHouse" "LIMIT_PLACES" "[I" "HintHouse"), (Jvm.Cond.methodLinkNest "HintHouse$Maker" (11 : Nat) ({ cls := "HintHouse$Memory", name := "<init>", desc := "()V" } : Jvm.MethodName) "HintHouse"), (Jvm.Cond.fieldLinkNest "HintHouse$Memory" (27 : Nat) "HintHouse" "KEPT_AT_FIRST" "[I" "HintHouse"), (Jvm.Cond.methodLinkNest "HintHouse$Maker" (29 : Nat) ({ cls := "HintHouse$Shape", name := "<init>", desc := "()V" } : Jvm.MethodName) "HintHouse"), (Jvm.Cond.methodLinkNest "HintHouse$Machine" (11 : Nat) ({ cls := "HintHouse$Settings", name := "<init>", desc := "()V" } : Jvm.MethodName) "HintHouse"), (Jvm.Cond.methodLinkNest "HintHouse$Machine" (20 : Nat) ({ cls := "HintHouse$Calls", name := "<init>", desc := "()V" } : Jvm.MethodName) "HintHouse"), (Jvm.Cond.methodLinkNest "HintHouse" (43 : Nat) ({ cls := "HintHouse$Canvas", name := "<init>", desc := "()V" } : Jvm.MethodName) "HintHouse"), (Jvm.Cond.fieldLinkNest "HintHouse$Loader" (102 : Nat) "HintHouse" "TAGS" "[I" "HintHouse"), (Jvm.Cond.fieldLinkNest "HintHouse$Loader" (141 : Nat) "HintHouse" "LIMIT_PLACES" "[I" "HintHouse"), (Jvm.Cond.fieldLinkNest "HintHouse$Loader" (144 : Nat) "HintHouse" "LIMIT_LEASTS" "[I" "HintHouse"), (Jvm.Cond.fieldLinkNest "HintHouse$Loader" (147 : Nat) "HintHouse" "LIMIT_MOSTS" "[I" "HintHouse"), (Jvm.Cond.methodLinkNest "HintHouse$Memory" (60 : Nat) ({ cls := "HintHouse", name := "nearest", desc := "(JJ)J" } : Jvm.MethodName) "HintHouse"), (Jvm.Cond.fieldLinkNest "HintHouse$Machine" (160 : Nat) "HintHouse" "TAKES" "[I" "HintHouse"), (Jvm.Cond.fieldLinkNest "HintHouse$Machine" (113 : Nat) "HintHouse" "GROUPS" "[I" "HintHouse"), (Jvm.Cond.methodLinkNest "HintHouse$Settings" (65 : Nat) ({ cls := "HintHouse", name := "isBeyond", desc := "(JI)Z" } : Jvm.MethodName) "HintHouse"), (Jvm.Cond.methodLinkNest "HintHouse$Machine" (75 : Nat) ({ cls := "HintHouse", name := "nearest", desc := "(JJ)J" } : Jvm.MethodName) "HintHouse"), (Jvm.Cond.methodLinkNest "HintHouse$Maker" (239 : Nat) ({ cls := "HintHouse", name := "nearest", desc := "(JJ)J" } : Jvm.MethodName) "HintHouse"), (Jvm.Cond.methodLinkNest "HintHouse$Maker" (255 : Nat) ({ cls := "HintHouse", name := "toWholePixel", desc := "(J)J" } : Jvm.MethodName) "HintHouse"), (Jvm.Cond.methodLinkNest "HintHouse$Points" (65 : Nat) ({ cls := "HintHouse", name := "isBeyond", desc := "(JI)Z" } : Jvm.MethodName) "HintHouse"), (Jvm.Cond.methodLinkNest "HintHouse$Points" (61 : Nat) ({ cls := "HintHouse", name := "toWholePixel", desc := "(J)J" } : Jvm.MethodName) "HintHouse")]
theorem lw_good_ok : GoodIn lw_good lw_good := fun _ h => ⟨h, good_of_word (List.mem_filter.mp h).2⟩
theorem lw_in {w : Cond} (h : w ∈ tables_1) (hg : goodWord w = true) : w ∈ lw_good := List.mem_filter.mpr ⟨List.mem_append_right _ h, hg⟩
theorem lw_sel {q : MethodName × Nat} (h : q ∈ lw_privs) (hg : goodWord (Cond.selects q.1.cls q.1 q.1) = true) : Cond.selects q.1.cls q.1 q.1 ∈ lw_good := List.mem_filter.mpr ⟨List.mem_append_left _ (List.mem_map.mpr ⟨q, h, rfl⟩), hg⟩
