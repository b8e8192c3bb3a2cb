/-! methods: X5_flowCodes, X5_stackCodes, X5_memoryCodes, X5_comparingCodes, X5_reckoningCodes, X5_touchPoint, X5_fillUntouched, X5_manyPointCodes, X5_shiftByReference -/
theorem dX5_flowCodes_0 : decode cX5_flowCodes 0 = .ok (.iload_n 1, 1) := by decide +kernel
theorem dX5_flowCodes_1 : decode cX5_flowCodes 1 = .ok (.lookupswitch 174 #[(27, 91), (28, 97), (42, 106), (43, 111), (44, 116), (45, 128), (88, 133), (120, 146), (121, 146), (137, 162)], 91) := by decide +kernel
theorem dX5_flowCodes_92 : decode cX5_flowCodes 92 = .ok (.aload_n 0, 1) := by decide +kernel
theorem dX5_flowCodes_93 : decode cX5_flowCodes 93 = .ok (.iconst 0, 1) := by decide +kernel
theorem dX5_flowCodes_94 : decode cX5_flowCodes 94 = .ok (.invokevirtual 302, 3) := by decide +kernel
theorem dX5_flowCodes_97 : decode cX5_flowCodes 97 = .ok (.return_, 1) := by decide +kernel
theorem dX5_flowCodes_98 : decode cX5_flowCodes 98 = .ok (.aload_n 0, 1) := by decide +kernel
theorem dX5_flowCodes_99 : decode cX5_flowCodes 99 = .ok (.aload_n 0, 1) := by decide +kernel
theorem dX5_flowCodes_100 : decode cX5_flowCodes 100 = .ok (.invokevirtual 242, 3) := by decide +kernel
theorem dX5_flowCodes_103 : decode cX5_flowCodes 103 = .ok (.invokevirtual 306, 3) := by decide +kernel
theorem dX5_flowCodes_106 : decode cX5_flowCodes 106 = .ok (.return_, 1) := by decide +kernel
theorem dX5_flowCodes_107 : decode cX5_flowCodes 107 = .ok (.aload_n 0, 1) := by decide +kernel
theorem dX5_flowCodes_108 : decode cX5_flowCodes 108 = .ok (.invokevirtual 309, 3) := by decide +kernel
theorem dX5_flowCodes_111 : decode cX5_flowCodes 111 = .ok (.return_, 1) := by decide +kernel
theorem dX5_flowCodes_112 : decode cX5_flowCodes 112 = .ok (.aload_n 0, 1) := by decide +kernel
theorem dX5_flowCodes_113 : decode cX5_flowCodes 113 = .ok (.invokevirtual 312, 3) := by decide +kernel
theorem dX5_flowCodes_116 : decode cX5_flowCodes 116 = .ok (.return_, 1) := by decide +kernel
theorem dX5_flowCodes_117 : decode cX5_flowCodes 117 = .ok (.aload_n 0, 1) := by decide +kernel
theorem dX5_flowCodes_118 : decode cX5_flowCodes 118 = .ok (.invokevirtual 315, 3) := by decide +kernel
theorem dX5_flowCodes_121 : decode cX5_flowCodes 121 = .ok (.ifCond .eq 7, 3) := by decide +kernel
theorem dX5_flowCodes_124 : decode cX5_flowCodes 124 = .ok (.aload_n 0, 1) := by decide +kernel
theorem dX5_flowCodes_125 : decode cX5_flowCodes 125 = .ok (.invokevirtual 318, 3) := by decide +kernel
theorem dX5_flowCodes_128 : decode cX5_flowCodes 128 = .ok (.return_, 1) := by decide +kernel
theorem dX5_flowCodes_129 : decode cX5_flowCodes 129 = .ok (.aload_n 0, 1) := by decide +kernel
theorem dX5_flowCodes_130 : decode cX5_flowCodes 130 = .ok (.invokevirtual 321, 3) := by decide +kernel
theorem dX5_flowCodes_133 : decode cX5_flowCodes 133 = .ok (.return_, 1) := by decide +kernel
theorem dX5_flowCodes_134 : decode cX5_flowCodes 134 = .ok (.aload_n 0, 1) := by decide +kernel
theorem dX5_flowCodes_135 : decode cX5_flowCodes 135 = .ok (.invokevirtual 242, 3) := by decide +kernel
theorem dX5_flowCodes_138 : decode cX5_flowCodes 138 = .ok (.ifCond .ne 8, 3) := by decide +kernel
theorem dX5_flowCodes_141 : decode cX5_flowCodes 141 = .ok (.aload_n 0, 1) := by decide +kernel
theorem dX5_flowCodes_142 : decode cX5_flowCodes 142 = .ok (.iconst 1, 1) := by decide +kernel
theorem dX5_flowCodes_143 : decode cX5_flowCodes 143 = .ok (.invokevirtual 302, 3) := by decide +kernel
theorem dX5_flowCodes_146 : decode cX5_flowCodes 146 = .ok (.return_, 1) := by decide +kernel
theorem dX5_flowCodes_147 : decode cX5_flowCodes 147 = .ok (.aload_n 0, 1) := by decide +kernel
theorem dX5_flowCodes_148 : decode cX5_flowCodes 148 = .ok (.iload_n 1, 1) := by decide +kernel
theorem dX5_flowCodes_149 : decode cX5_flowCodes 149 = .ok (.bipush 120, 2) := by decide +kernel
theorem dX5_flowCodes_151 : decode cX5_flowCodes 151 = .ok (.if_icmp .ne 7, 3) := by decide +kernel
theorem dX5_flowCodes_154 : decode cX5_flowCodes 154 = .ok (.iconst 1, 1) := by decide +kernel
theorem dX5_flowCodes_155 : decode cX5_flowCodes 155 = .ok (.goto 4, 3) := by decide +kernel
theorem dX5_flowCodes_158 : decode cX5_flowCodes 158 = .ok (.iconst 0, 1) := by decide +kernel
theorem dX5_flowCodes_159 : decode cX5_flowCodes 159 = .ok (.invokevirtual 324, 3) := by decide +kernel
theorem dX5_flowCodes_162 : decode cX5_flowCodes 162 = .ok (.return_, 1) := by decide +kernel
theorem dX5_flowCodes_163 : decode cX5_flowCodes 163 = .ok (.aload_n 0, 1) := by decide +kernel
theorem dX5_flowCodes_164 : decode cX5_flowCodes 164 = .ok (.invokevirtual 327, 3) := by decide +kernel
theorem dX5_flowCodes_167 : decode cX5_flowCodes 167 = .ok (.ifCond .eq 7, 3) := by decide +kernel
theorem dX5_flowCodes_170 : decode cX5_flowCodes 170 = .ok (.aload_n 0, 1) := by decide +kernel
theorem dX5_flowCodes_171 : decode cX5_flowCodes 171 = .ok (.invokevirtual 318, 3) := by decide +kernel
theorem dX5_flowCodes_174 : decode cX5_flowCodes 174 = .ok (.return_, 1) := by decide +kernel
theorem dX5_flowCodes_175 : decode cX5_flowCodes 175 = .ok (.return_, 1) := by decide +kernel
def B_X5_flowCodes_159 (N : Nat)  (s1 : Int32) (V : sv_V) : Option sv_V := (F_X5_jumpIf s1 V).bind (fun V1 => some V1)
set_option maxRecDepth 20000 in
theorem tB_X5_flowCodes_159 {g : sx_G} (hG : sx_Go g) {P : Option Value → sv_V → Prop} {Vr : sv_V} (hP : P none Vr) {N : Nat}   {s1 : Int32} {V : sv_V} (h : B_X5_flowCodes_159 N  s1 V = some Vr) : sv_N g qX5_flowCodes 3 159 [] [.int s1, .ref 69] V P := by
  unfold B_X5_flowCodes_159 at h
  obtain ⟨V1, g2, h⟩ := sx_bnd h
  refine sv_cV (pc := 159) (y := qX5_jumpIf) (o := none) (as := [.int s1]) (V1 := V1) hG dX5_flowCodes_159 l_X5_324 y0X5_jumpIf yvX5_jumpIf rfl (Nat.le_of_ble_eq_true rfl) lay_69 kr_5 (by decide) (Nat.le_of_ble_eq_true rfl) rfl rfl rfl (t_X5_jumpIf hG ⟨rfl, rfl⟩ g2) ?_
  exact sv_vret (pc := 162) dX5_flowCodes_162 rfl h hP
def B_X5_flowCodes_147 (N : Nat)  (l1 : Int32) (V : sv_V) : Option sv_V := if l1 = (120 : Int32) then (B_X5_flowCodes_159 N  (1 : Int32) V) else (B_X5_flowCodes_159 N  (0 : Int32) V)
set_option maxRecDepth 20000 in
theorem tB_X5_flowCodes_147 {g : sx_G} (hG : sx_Go g) {P : Option Value → sv_V → Prop} {Vr : sv_V} (hP : P none Vr) {N : Nat}   {l1 : Int32} {V : sv_V} (h : B_X5_flowCodes_147 N  l1 V = some Vr) : sv_N g qX5_flowCodes 3 147 [(0, .ref 69), (1, .int l1)] [] V P := by
  unfold B_X5_flowCodes_147 at h
  refine sx_aload_n (pc := 147) dX5_flowCodes_147 sx_m0 ?_
  refine sx_iload_n (pc := 148) dX5_flowCodes_148 sx_m1 ?_
  refine sx_bipush (pc := 149) (v := 120) dX5_flowCodes_149 (by decide) ?_
  refine sx_icmp_ne (pc := 151) (tgt := 158) dX5_flowCodes_151 (by decide) (fun c3 => ?_) (fun c3 => ?_)
  · have h := sx_neg c3 h
    refine sx_iconst (pc := 158) (v := 0) dX5_flowCodes_158 (by decide) ?_
    refine sx_wk sx_s0 ?_
    exact tB_X5_flowCodes_159 hG hP  h
  · have h := sx_pos c3 h
    refine sx_iconst (pc := 154) (v := 1) dX5_flowCodes_154 (by decide) ?_
    refine sx_goto (pc := 155) (tgt := 159) dX5_flowCodes_155 (by decide) ?_
    refine sx_wk sx_s0 ?_
    exact tB_X5_flowCodes_159 hG hP  h
def F_X5_flowCodes (N : Nat) (l1 : Int32) (V : sv_V) : Option sv_V := if l1 = 27 then ((F_X5_passBranch N (0 : Int32) V).bind (fun V5 => some V5)) else (if l1 = 28 then ((F_X5_pop  V).bind (fun (x10, V8) => (F_X5_jump x10 V8).bind (fun V11 => some V11))) else (if l1 = 42 then ((F_X5_callTimes  V).bind (fun V14 => some V14)) else (if l1 = 43 then ((F_X5_callOnce  V).bind (fun V17 => some V17)) else (if l1 = 44 then ((F_X5_noteFunction  V).bind (fun (x22, V20) => if x22 = 0 then (some V20) else ((F_X5_passDefinition N  V20).bind (fun V24 => some V24)))) else (if l1 = 45 then ((F_X5_endRoutine  V).bind (fun V27 => some V27)) else (if l1 = 88 then ((F_X5_pop  V).bind (fun (x32, V30) => if x32 = 0 then ((F_X5_passBranch N (1 : Int32) V30).bind (fun V34 => some V34)) else (some V30))) else (if l1 = 120 then (B_X5_flowCodes_147 N  l1 V) else (if l1 = 121 then (B_X5_flowCodes_147 N  l1 V) else (if l1 = 137 then ((F_X5_noteOwnCode  V).bind (fun (x41, V39) => if x41 = 0 then (some V39) else ((F_X5_passDefinition N  V39).bind (fun V43 => some V43)))) else (some V))))))))))
set_option maxRecDepth 20000 in
theorem t_X5_flowCodes {g : sx_G} (hG : sx_Go g) {P : Option Value → sv_V → Prop} {Vr : sv_V} (hP : P none Vr) {N : Nat} {l1 : Int32} {V : sv_V} (h : F_X5_flowCodes N l1 V = some Vr) : sv_N g qX5_flowCodes 3 0 [(0, .ref 69), (1, .int l1)] [] V P := by
  unfold F_X5_flowCodes at h
  refine sx_iload_n (pc := 0) dX5_flowCodes_0 sx_m1 ?_
  by_cases c4 : l1 = 27
  · have h := sx_pos c4 h
    refine sx_look (pc := 1) (off := 91) (tgt := 92) dX5_flowCodes_1 (by decide) (by rw [c4]; rfl) (by decide) ?_
    refine sx_aload_n (pc := 92) dX5_flowCodes_92 sx_m0 ?_
    refine sx_iconst (pc := 93) (v := 0) dX5_flowCodes_93 (by decide) ?_
    obtain ⟨V5, g6, h⟩ := sx_bnd h
    refine sv_cV (pc := 94) (y := qX5_passBranch) (o := none) (as := [.int (0 : Int32)]) (V1 := V5) hG dX5_flowCodes_94 l_X5_302 y0X5_passBranch yvX5_passBranch rfl (Nat.le_of_ble_eq_true rfl) lay_69 kr_5 (by decide) (Nat.le_of_ble_eq_true rfl) rfl rfl rfl (t_X5_passBranch hG ⟨rfl, rfl⟩ g6) ?_
    exact sv_vret (pc := 97) dX5_flowCodes_97 rfl h hP
  have h := sx_neg c4 h
  by_cases c7 : l1 = 28
  · have h := sx_pos c7 h
    refine sx_look (pc := 1) (off := 97) (tgt := 98) dX5_flowCodes_1 (by decide) (by rw [c7]; rfl) (by decide) ?_
    refine sx_aload_n (pc := 98) dX5_flowCodes_98 sx_m0 ?_
    refine sx_aload_n (pc := 99) dX5_flowCodes_99 sx_m0 ?_
    obtain ⟨⟨x10, V8⟩, g9, h⟩ := sx_bnd h
    refine sv_cV (pc := 100) (y := qX5_pop) (o := (some (.int x10))) (as := []) (V1 := V8) hG dX5_flowCodes_100 l_X5_242 y0X5_pop yvX5_pop rfl (Nat.le_of_ble_eq_true rfl) lay_69 kr_5 (by decide) (Nat.le_of_ble_eq_true rfl) rfl rfl rfl (t_X5_pop hG ⟨rfl, rfl⟩ g9) ?_
    obtain ⟨V11, g12, h⟩ := sx_bnd h
    refine sv_cV (pc := 103) (y := qX5_jump) (o := none) (as := [.int x10]) (V1 := V11) hG dX5_flowCodes_103 l_X5_306 y0X5_jump yvX5_jump rfl (Nat.le_of_ble_eq_true rfl) lay_69 kr_5 (by decide) (Nat.le_of_ble_eq_true rfl) rfl rfl rfl (t_X5_jump hG ⟨rfl, rfl⟩ g12) ?_
    exact sv_vret (pc := 106) dX5_flowCodes_106 rfl h hP
  have h := sx_neg c7 h
  by_cases c13 : l1 = 42
  · have h := sx_pos c13 h
    refine sx_look (pc := 1) (off := 106) (tgt := 107) dX5_flowCodes_1 (by decide) (by rw [c13]; rfl) (by decide) ?_
    refine sx_aload_n (pc := 107) dX5_flowCodes_107 sx_m0 ?_
    obtain ⟨V14, g15, h⟩ := sx_bnd h
    refine sv_cV (pc := 108) (y := qX5_callTimes) (o := none) (as := []) (V1 := V14) hG dX5_flowCodes_108 l_X5_309 y0X5_callTimes yvX5_callTimes rfl (Nat.le_of_ble_eq_true rfl) lay_69 kr_5 (by decide) (Nat.le_of_ble_eq_true rfl) rfl rfl rfl (t_X5_callTimes hG ⟨rfl, rfl⟩ g15) ?_
    exact sv_vret (pc := 111) dX5_flowCodes_111 rfl h hP
  have h := sx_neg c13 h
  by_cases c16 : l1 = 43
  · have h := sx_pos c16 h
    refine sx_look (pc := 1) (off := 111) (tgt := 112) dX5_flowCodes_1 (by decide) (by rw [c16]; rfl) (by decide) ?_
    refine sx_aload_n (pc := 112) dX5_flowCodes_112 sx_m0 ?_
    obtain ⟨V17, g18, h⟩ := sx_bnd h
    refine sv_cV (pc := 113) (y := qX5_callOnce) (o := none) (as := []) (V1 := V17) hG dX5_flowCodes_113 l_X5_312 y0X5_callOnce yvX5_callOnce rfl (Nat.le_of_ble_eq_true rfl) lay_69 kr_5 (by decide) (Nat.le_of_ble_eq_true rfl) rfl rfl rfl (t_X5_callOnce hG ⟨rfl, rfl⟩ g18) ?_
    exact sv_vret (pc := 116) dX5_flowCodes_116 rfl h hP
  have h := sx_neg c16 h
  by_cases c19 : l1 = 44
  · have h := sx_pos c19 h
    refine sx_look (pc := 1) (off := 116) (tgt := 117) dX5_flowCodes_1 (by decide) (by rw [c19]; rfl) (by decide) ?_
    refine sx_aload_n (pc := 117) dX5_flowCodes_117 sx_m0 ?_
    obtain ⟨⟨x22, V20⟩, g21, h⟩ := sx_bnd h
    refine sv_cV (pc := 118) (y := qX5_noteFunction) (o := (some (.int x22))) (as := []) (V1 := V20) hG dX5_flowCodes_118 l_X5_315 y0X5_noteFunction yvX5_noteFunction rfl (Nat.le_of_ble_eq_true rfl) lay_69 kr_5 (by decide) (Nat.le_of_ble_eq_true rfl) rfl rfl rfl (t_X5_noteFunction hG ⟨rfl, rfl⟩ g21) ?_
    refine sx_if_eq (pc := 121) (tgt := 128) dX5_flowCodes_121 (by decide) (fun c23 => ?_) (fun c23 => ?_)
    · have h := sx_pos c23 h
      exact sv_vret (pc := 128) dX5_flowCodes_128 rfl h hP
    · have h := sx_neg c23 h
      refine sx_aload_n (pc := 124) dX5_flowCodes_124 sx_m0 ?_
      obtain ⟨V24, g25, h⟩ := sx_bnd h
      refine sv_cV (pc := 125) (y := qX5_passDefinition) (o := none) (as := []) (V1 := V24) hG dX5_flowCodes_125 l_X5_318 y0X5_passDefinition yvX5_passDefinition rfl (Nat.le_of_ble_eq_true rfl) lay_69 kr_5 (by decide) (Nat.le_of_ble_eq_true rfl) rfl rfl rfl (t_X5_passDefinition hG ⟨rfl, rfl⟩ g25) ?_
      exact sv_vret (pc := 128) dX5_flowCodes_128 rfl h hP
  have h := sx_neg c19 h
  by_cases c26 : l1 = 45
  · have h := sx_pos c26 h
    refine sx_look (pc := 1) (off := 128) (tgt := 129) dX5_flowCodes_1 (by decide) (by rw [c26]; rfl) (by decide) ?_
    refine sx_aload_n (pc := 129) dX5_flowCodes_129 sx_m0 ?_
    obtain ⟨V27, g28, h⟩ := sx_bnd h
    refine sv_cV (pc := 130) (y := qX5_endRoutine) (o := none) (as := []) (V1 := V27) hG dX5_flowCodes_130 l_X5_321 y0X5_endRoutine yvX5_endRoutine rfl (Nat.le_of_ble_eq_true rfl) lay_69 kr_5 (by decide) (Nat.le_of_ble_eq_true rfl) rfl rfl rfl (t_X5_endRoutine hG ⟨rfl, rfl⟩ g28) ?_
    exact sv_vret (pc := 133) dX5_flowCodes_133 rfl h hP
  have h := sx_neg c26 h
  by_cases c29 : l1 = 88
  · have h := sx_pos c29 h
    refine sx_look (pc := 1) (off := 133) (tgt := 134) dX5_flowCodes_1 (by decide) (by rw [c29]; rfl) (by decide) ?_
    refine sx_aload_n (pc := 134) dX5_flowCodes_134 sx_m0 ?_
    obtain ⟨⟨x32, V30⟩, g31, h⟩ := sx_bnd h
    refine sv_cV (pc := 135) (y := qX5_pop) (o := (some (.int x32))) (as := []) (V1 := V30) hG dX5_flowCodes_135 l_X5_242 y0X5_pop yvX5_pop rfl (Nat.le_of_ble_eq_true rfl) lay_69 kr_5 (by decide) (Nat.le_of_ble_eq_true rfl) rfl rfl rfl (t_X5_pop hG ⟨rfl, rfl⟩ g31) ?_
    refine sx_if_ne (pc := 138) (tgt := 146) dX5_flowCodes_138 (by decide) (fun c33 => ?_) (fun c33 => ?_)
    · have h := sx_neg c33 h
      exact sv_vret (pc := 146) dX5_flowCodes_146 rfl h hP
    · have h := sx_pos c33 h
      refine sx_aload_n (pc := 141) dX5_flowCodes_141 sx_m0 ?_
      refine sx_iconst (pc := 142) (v := 1) dX5_flowCodes_142 (by decide) ?_
      obtain ⟨V34, g35, h⟩ := sx_bnd h
      refine sv_cV (pc := 143) (y := qX5_passBranch) (o := none) (as := [.int (1 : Int32)]) (V1 := V34) hG dX5_flowCodes_143 l_X5_302 y0X5_passBranch yvX5_passBranch rfl (Nat.le_of_ble_eq_true rfl) lay_69 kr_5 (by decide) (Nat.le_of_ble_eq_true rfl) rfl rfl rfl (t_X5_passBranch hG ⟨rfl, rfl⟩ g35) ?_
      exact sv_vret (pc := 146) dX5_flowCodes_146 rfl h hP
  have h := sx_neg c29 h
  by_cases c36 : l1 = 120
  · have h := sx_pos c36 h
    refine sx_look (pc := 1) (off := 146) (tgt := 147) dX5_flowCodes_1 (by decide) (by rw [c36]; rfl) (by decide) ?_
    refine sx_wk (sx_s1 sx_m0 (sx_s1 sx_m1 sx_s0)) ?_
    exact tB_X5_flowCodes_147 hG hP  h
  have h := sx_neg c36 h
  by_cases c37 : l1 = 121
  · have h := sx_pos c37 h
    refine sx_look (pc := 1) (off := 146) (tgt := 147) dX5_flowCodes_1 (by decide) (by rw [c37]; rfl) (by decide) ?_
    refine sx_wk (sx_s1 sx_m0 (sx_s1 sx_m1 sx_s0)) ?_
    exact tB_X5_flowCodes_147 hG hP  h
  have h := sx_neg c37 h
  by_cases c38 : l1 = 137
  · have h := sx_pos c38 h
    refine sx_look (pc := 1) (off := 162) (tgt := 163) dX5_flowCodes_1 (by decide) (by rw [c38]; rfl) (by decide) ?_
    refine sx_aload_n (pc := 163) dX5_flowCodes_163 sx_m0 ?_
    obtain ⟨⟨x41, V39⟩, g40, h⟩ := sx_bnd h
    refine sv_cV (pc := 164) (y := qX5_noteOwnCode) (o := (some (.int x41))) (as := []) (V1 := V39) hG dX5_flowCodes_164 l_X5_327 y0X5_noteOwnCode yvX5_noteOwnCode rfl (Nat.le_of_ble_eq_true rfl) lay_69 kr_5 (by decide) (Nat.le_of_ble_eq_true rfl) rfl rfl rfl (t_X5_noteOwnCode hG ⟨rfl, rfl⟩ g40) ?_
    refine sx_if_eq (pc := 167) (tgt := 174) dX5_flowCodes_167 (by decide) (fun c42 => ?_) (fun c42 => ?_)
    · have h := sx_pos c42 h
      exact sv_vret (pc := 174) dX5_flowCodes_174 rfl h hP
    · have h := sx_neg c42 h
      refine sx_aload_n (pc := 170) dX5_flowCodes_170 sx_m0 ?_
      obtain ⟨V43, g44, h⟩ := sx_bnd h
      refine sv_cV (pc := 171) (y := qX5_passDefinition) (o := none) (as := []) (V1 := V43) hG dX5_flowCodes_171 l_X5_318 y0X5_passDefinition yvX5_passDefinition rfl (Nat.le_of_ble_eq_true rfl) lay_69 kr_5 (by decide) (Nat.le_of_ble_eq_true rfl) rfl rfl rfl (t_X5_passDefinition hG ⟨rfl, rfl⟩ g44) ?_
      exact sv_vret (pc := 174) dX5_flowCodes_174 rfl h hP
  have h := sx_neg c38 h
  refine sx_look (pc := 1) (off := 174) (tgt := 175) dX5_flowCodes_1 (by decide) (by show Op.lookupswitch.offset [(27, 91), (28, 97), (42, 106), (43, 111), (44, 116), (45, 128), (88, 133), (120, 146), (121, 146), (137, 162)] 174 l1.toInt = 174; rw [lv_osw (a := 27) c4 rfl, lv_osw (a := 28) c7 rfl, lv_osw (a := 42) c13 rfl, lv_osw (a := 43) c16 rfl, lv_osw (a := 44) c19 rfl, lv_osw (a := 45) c26 rfl, lv_osw (a := 88) c29 rfl, lv_osw (a := 120) c36 rfl, lv_osw (a := 121) c37 rfl, lv_osw (a := 137) c38 rfl]; rfl) (by decide) ?_
  exact sv_vret (pc := 175) dX5_flowCodes_175 rfl h hP
theorem dX5_stackCodes_0 : decode cX5_stackCodes 0 = .ok (.iload_n 1, 1) := by decide +kernel
theorem dX5_stackCodes_1 : decode cX5_stackCodes 1 = .ok (.lookupswitch 142 #[(32, 91), (33, 96), (34, 102), (35, 108), (36, 114), (37, 124), (38, 124), (64, 130), (65, 130), (138, 136)], 91) := by decide +kernel
theorem dX5_stackCodes_92 : decode cX5_stackCodes 92 = .ok (.aload_n 0, 1) := by decide +kernel
theorem dX5_stackCodes_93 : decode cX5_stackCodes 93 = .ok (.invokevirtual 376, 3) := by decide +kernel
theorem dX5_stackCodes_96 : decode cX5_stackCodes 96 = .ok (.return_, 1) := by decide +kernel
theorem dX5_stackCodes_97 : decode cX5_stackCodes 97 = .ok (.aload_n 0, 1) := by decide +kernel
theorem dX5_stackCodes_98 : decode cX5_stackCodes 98 = .ok (.invokevirtual 242, 3) := by decide +kernel
theorem dX5_stackCodes_101 : decode cX5_stackCodes 101 = .ok (.pop, 1) := by decide +kernel
theorem dX5_stackCodes_102 : decode cX5_stackCodes 102 = .ok (.return_, 1) := by decide +kernel
theorem dX5_stackCodes_103 : decode cX5_stackCodes 103 = .ok (.aload_n 0, 1) := by decide +kernel
theorem dX5_stackCodes_104 : decode cX5_stackCodes 104 = .ok (.iconst 0, 1) := by decide +kernel
theorem dX5_stackCodes_105 : decode cX5_stackCodes 105 = .ok (.putfield 96, 3) := by decide +kernel
theorem dX5_stackCodes_108 : decode cX5_stackCodes 108 = .ok (.return_, 1) := by decide +kernel
theorem dX5_stackCodes_109 : decode cX5_stackCodes 109 = .ok (.aload_n 0, 1) := by decide +kernel
theorem dX5_stackCodes_110 : decode cX5_stackCodes 110 = .ok (.iconst 2, 1) := by decide +kernel
theorem dX5_stackCodes_111 : decode cX5_stackCodes 111 = .ok (.invokevirtual 379, 3) := by decide +kernel
theorem dX5_stackCodes_114 : decode cX5_stackCodes 114 = .ok (.return_, 1) := by decide +kernel
theorem dX5_stackCodes_115 : decode cX5_stackCodes 115 = .ok (.aload_n 0, 1) := by decide +kernel
theorem dX5_stackCodes_116 : decode cX5_stackCodes 116 = .ok (.aload_n 0, 1) := by decide +kernel
theorem dX5_stackCodes_117 : decode cX5_stackCodes 117 = .ok (.getfield 96, 3) := by decide +kernel
theorem dX5_stackCodes_120 : decode cX5_stackCodes 120 = .ok (.i2l, 1) := by decide +kernel
theorem dX5_stackCodes_121 : decode cX5_stackCodes 121 = .ok (.invokevirtual 232, 3) := by decide +kernel
theorem dX5_stackCodes_124 : decode cX5_stackCodes 124 = .ok (.return_, 1) := by decide +kernel
theorem dX5_stackCodes_125 : decode cX5_stackCodes 125 = .ok (.aload_n 0, 1) := by decide +kernel
theorem dX5_stackCodes_126 : decode cX5_stackCodes 126 = .ok (.iload_n 1, 1) := by decide +kernel
theorem dX5_stackCodes_127 : decode cX5_stackCodes 127 = .ok (.invokevirtual 382, 3) := by decide +kernel
theorem dX5_stackCodes_130 : decode cX5_stackCodes 130 = .ok (.return_, 1) := by decide +kernel
theorem dX5_stackCodes_131 : decode cX5_stackCodes 131 = .ok (.aload_n 0, 1) := by decide +kernel
theorem dX5_stackCodes_132 : decode cX5_stackCodes 132 = .ok (.iload_n 1, 1) := by decide +kernel
theorem dX5_stackCodes_133 : decode cX5_stackCodes 133 = .ok (.invokevirtual 385, 3) := by decide +kernel
theorem dX5_stackCodes_136 : decode cX5_stackCodes 136 = .ok (.return_, 1) := by decide +kernel
theorem dX5_stackCodes_137 : decode cX5_stackCodes 137 = .ok (.aload_n 0, 1) := by decide +kernel
theorem dX5_stackCodes_138 : decode cX5_stackCodes 138 = .ok (.iconst 3, 1) := by decide +kernel
theorem dX5_stackCodes_139 : decode cX5_stackCodes 139 = .ok (.invokevirtual 379, 3) := by decide +kernel
theorem dX5_stackCodes_142 : decode cX5_stackCodes 142 = .ok (.return_, 1) := by decide +kernel
theorem dX5_stackCodes_143 : decode cX5_stackCodes 143 = .ok (.aload_n 0, 1) := by decide +kernel
theorem dX5_stackCodes_144 : decode cX5_stackCodes 144 = .ok (.iload_n 1, 1) := by decide +kernel
theorem dX5_stackCodes_145 : decode cX5_stackCodes 145 = .ok (.bipush 8, 2) := by decide +kernel
theorem dX5_stackCodes_147 : decode cX5_stackCodes 147 = .ok (.irem, 1) := by decide +kernel
theorem dX5_stackCodes_148 : decode cX5_stackCodes 148 = .ok (.iconst 1, 1) := by decide +kernel
theorem dX5_stackCodes_149 : decode cX5_stackCodes 149 = .ok (.iadd, 1) := by decide +kernel
theorem dX5_stackCodes_150 : decode cX5_stackCodes 150 = .ok (.iload_n 1, 1) := by decide +kernel
theorem dX5_stackCodes_151 : decode cX5_stackCodes 151 = .ok (.sipush 184, 3) := by decide +kernel
theorem dX5_stackCodes_154 : decode cX5_stackCodes 154 = .ok (.if_icmp .ge 7, 3) := by decide +kernel
theorem dX5_stackCodes_157 : decode cX5_stackCodes 157 = .ok (.iconst 1, 1) := by decide +kernel
theorem dX5_stackCodes_158 : decode cX5_stackCodes 158 = .ok (.goto 4, 3) := by decide +kernel
theorem dX5_stackCodes_161 : decode cX5_stackCodes 161 = .ok (.iconst 2, 1) := by decide +kernel
theorem dX5_stackCodes_162 : decode cX5_stackCodes 162 = .ok (.invokevirtual 388, 3) := by decide +kernel
theorem dX5_stackCodes_165 : decode cX5_stackCodes 165 = .ok (.return_, 1) := by decide +kernel
def B_X5_stackCodes_125 (N : Nat)  (l1 : Int32) (V : sv_V) : Option sv_V := (F_X5_reachBelow N l1 V).bind (fun V1 => some V1)
set_option maxRecDepth 20000 in
theorem tB_X5_stackCodes_125 {g : sx_G} (hG : sx_Go g) {P : Option Value → sv_V → Prop} {Vr : sv_V} (hP : P none Vr) {N : Nat}   {l1 : Int32} {V : sv_V} (h : B_X5_stackCodes_125 N  l1 V = some Vr) : sv_N g qX5_stackCodes 3 125 [(0, .ref 69), (1, .int l1)] [] V P := by
  unfold B_X5_stackCodes_125 at h
  refine sx_aload_n (pc := 125) dX5_stackCodes_125 sx_m0 ?_
  refine sx_iload_n (pc := 126) dX5_stackCodes_126 sx_m1 ?_
  obtain ⟨V1, g2, h⟩ := sx_bnd h
  refine sv_cV (pc := 127) (y := qX5_reachBelow) (o := none) (as := [.int l1]) (V1 := V1) hG dX5_stackCodes_127 l_X5_382 y0X5_reachBelow yvX5_reachBelow rfl (Nat.le_of_ble_eq_true rfl) lay_69 kr_5 (by decide) (Nat.le_of_ble_eq_true rfl) rfl rfl rfl (t_X5_reachBelow hG ⟨rfl, rfl⟩ g2) ?_
  exact sv_vret (pc := 130) dX5_stackCodes_130 rfl h hP
def B_X5_stackCodes_131 (N : Nat)  (l1 : Int32) (V : sv_V) : Option sv_V := (F_X5_pushCounted N l1 V).bind (fun V3 => some V3)
set_option maxRecDepth 20000 in
theorem tB_X5_stackCodes_131 {g : sx_G} (hG : sx_Go g) {P : Option Value → sv_V → Prop} {Vr : sv_V} (hP : P none Vr) {N : Nat}   {l1 : Int32} {V : sv_V} (h : B_X5_stackCodes_131 N  l1 V = some Vr) : sv_N g qX5_stackCodes 3 131 [(0, .ref 69), (1, .int l1)] [] V P := by
  unfold B_X5_stackCodes_131 at h
  refine sx_aload_n (pc := 131) dX5_stackCodes_131 sx_m0 ?_
  refine sx_iload_n (pc := 132) dX5_stackCodes_132 sx_m1 ?_
  obtain ⟨V3, g4, h⟩ := sx_bnd h
  refine sv_cV (pc := 133) (y := qX5_pushCounted) (o := none) (as := [.int l1]) (V1 := V3) hG dX5_stackCodes_133 l_X5_385 y0X5_pushCounted yvX5_pushCounted rfl (Nat.le_of_ble_eq_true rfl) lay_69 kr_5 (by decide) (Nat.le_of_ble_eq_true rfl) rfl rfl rfl (t_X5_pushCounted hG ⟨rfl, rfl⟩ g4) ?_
  exact sv_vret (pc := 136) dX5_stackCodes_136 rfl h hP
def B_X5_stackCodes_162 (N : Nat)  (s1 : Int32) (s2 : Int32) (V : sv_V) : Option sv_V := (F_X5_pushBehind N s1 s2 V).bind (fun V5 => some V5)
set_option maxRecDepth 20000 in
theorem tB_X5_stackCodes_162 {g : sx_G} (hG : sx_Go g) {P : Option Value → sv_V → Prop} {Vr : sv_V} (hP : P none Vr) {N : Nat}   {s1 : Int32} {s2 : Int32} {V : sv_V} (h : B_X5_stackCodes_162 N  s1 s2 V = some Vr) : sv_N g qX5_stackCodes 3 162 [] [.int s2, .int s1, .ref 69] V P := by
  unfold B_X5_stackCodes_162 at h
  obtain ⟨V5, g6, h⟩ := sx_bnd h
  refine sv_cV (pc := 162) (y := qX5_pushBehind) (o := none) (as := [.int s1, .int s2]) (V1 := V5) hG dX5_stackCodes_162 l_X5_388 y0X5_pushBehind yvX5_pushBehind rfl (Nat.le_of_ble_eq_true rfl) lay_69 kr_5 (by decide) (Nat.le_of_ble_eq_true rfl) rfl rfl rfl (t_X5_pushBehind hG ⟨rfl, rfl⟩ g6) ?_
  exact sv_vret (pc := 165) dX5_stackCodes_165 rfl h hP
def F_X5_stackCodes (N : Nat) (l1 : Int32) (V : sv_V) : Option sv_V := if l1 = 32 then ((F_X5_doubleTop  V).bind (fun V8 => some V8)) else (if l1 = 33 then ((F_X5_pop  V).bind (fun (x13, V11) => some V11)) else (if l1 = 34 then (sx_let (sv_I V 69 5 (0 : Int32)) (fun V15 => some V15)) else (if l1 = 35 then ((F_X5_rollTop N (2 : Int32) V).bind (fun V17 => some V17)) else (if l1 = 36 then ((F_X5_push ((V.1 69 5).toInt64) V).bind (fun V20 => some V20)) else (if l1 = 37 then (B_X5_stackCodes_125 N  l1 V) else (if l1 = 38 then (B_X5_stackCodes_125 N  l1 V) else (if l1 = 64 then (B_X5_stackCodes_131 N  l1 V) else (if l1 = 65 then (B_X5_stackCodes_131 N  l1 V) else (if l1 = 138 then ((F_X5_rollTop N (3 : Int32) V).bind (fun V27 => some V27)) else (if (184 : Int32) ≤ l1 then (B_X5_stackCodes_162 N  ((l1 - l1 / (8 : Int32) * (8 : Int32)) + (1 : Int32)) (2 : Int32) V) else (B_X5_stackCodes_162 N  ((l1 - l1 / (8 : Int32) * (8 : Int32)) + (1 : Int32)) (1 : Int32) V)))))))))))
set_option maxRecDepth 20000 in
theorem t_X5_stackCodes {g : sx_G} (hG : sx_Go g) {P : Option Value → sv_V → Prop} {Vr : sv_V} (hP : P none Vr) {N : Nat} {l1 : Int32} {V : sv_V} (h : F_X5_stackCodes N l1 V = some Vr) : sv_N g qX5_stackCodes 3 0 [(0, .ref 69), (1, .int l1)] [] V P := by
  unfold F_X5_stackCodes at h
  refine sx_iload_n (pc := 0) dX5_stackCodes_0 sx_m1 ?_
  by_cases c7 : l1 = 32
  · have h := sx_pos c7 h
    refine sx_look (pc := 1) (off := 91) (tgt := 92) dX5_stackCodes_1 (by decide) (by rw [c7]; rfl) (by decide) ?_
    refine sx_aload_n (pc := 92) dX5_stackCodes_92 sx_m0 ?_
    obtain ⟨V8, g9, h⟩ := sx_bnd h
    refine sv_cV (pc := 93) (y := qX5_doubleTop) (o := none) (as := []) (V1 := V8) hG dX5_stackCodes_93 l_X5_376 y0X5_doubleTop yvX5_doubleTop rfl (Nat.le_of_ble_eq_true rfl) lay_69 kr_5 (by decide) (Nat.le_of_ble_eq_true rfl) rfl rfl rfl (t_X5_doubleTop hG ⟨rfl, rfl⟩ g9) ?_
    exact sv_vret (pc := 96) dX5_stackCodes_96 rfl h hP
  have h := sx_neg c7 h
  by_cases c10 : l1 = 33
  · have h := sx_pos c10 h
    refine sx_look (pc := 1) (off := 96) (tgt := 97) dX5_stackCodes_1 (by decide) (by rw [c10]; rfl) (by decide) ?_
    refine sx_aload_n (pc := 97) dX5_stackCodes_97 sx_m0 ?_
    obtain ⟨⟨x13, V11⟩, g12, h⟩ := sx_bnd h
    refine sv_cV (pc := 98) (y := qX5_pop) (o := (some (.int x13))) (as := []) (V1 := V11) hG dX5_stackCodes_98 l_X5_242 y0X5_pop yvX5_pop rfl (Nat.le_of_ble_eq_true rfl) lay_69 kr_5 (by decide) (Nat.le_of_ble_eq_true rfl) rfl rfl rfl (t_X5_pop hG ⟨rfl, rfl⟩ g12) ?_
    refine sx_pop (pc := 101) dX5_stackCodes_101 rfl ?_
    exact sv_vret (pc := 102) dX5_stackCodes_102 rfl h hP
  have h := sx_neg c10 h
  by_cases c14 : l1 = 34
  · have h := sx_pos c14 h
    refine sx_look (pc := 1) (off := 102) (tgt := 103) dX5_stackCodes_1 (by decide) (by rw [c14]; rfl) (by decide) ?_
    refine sx_aload_n (pc := 103) dX5_stackCodes_103 sx_m0 ?_
    refine sx_iconst (pc := 104) (v := 0) dX5_stackCodes_104 (by decide) ?_
    obtain ⟨V15, hV15⟩ : ∃ z : sv_V, z = sv_I V 69 5 (0 : Int32) := ⟨_, rfl⟩
    have h := sx_letE hV15 h
    refine sv_putI (pc := 105) hG dX5_stackCodes_105 f_5_96 lay_69 rfl hV15 ?_
    exact sv_vret (pc := 108) dX5_stackCodes_108 rfl h hP
  have h := sx_neg c14 h
  by_cases c16 : l1 = 35
  · have h := sx_pos c16 h
    refine sx_look (pc := 1) (off := 108) (tgt := 109) dX5_stackCodes_1 (by decide) (by rw [c16]; rfl) (by decide) ?_
    refine sx_aload_n (pc := 109) dX5_stackCodes_109 sx_m0 ?_
    refine sx_iconst (pc := 110) (v := 2) dX5_stackCodes_110 (by decide) ?_
    obtain ⟨V17, g18, h⟩ := sx_bnd h
    refine sv_cV (pc := 111) (y := qX5_rollTop) (o := none) (as := [.int (2 : Int32)]) (V1 := V17) hG dX5_stackCodes_111 l_X5_379 y0X5_rollTop yvX5_rollTop rfl (Nat.le_of_ble_eq_true rfl) lay_69 kr_5 (by decide) (Nat.le_of_ble_eq_true rfl) rfl rfl rfl (t_X5_rollTop hG ⟨rfl, rfl⟩ g18) ?_
    exact sv_vret (pc := 114) dX5_stackCodes_114 rfl h hP
  have h := sx_neg c16 h
  by_cases c19 : l1 = 36
  · have h := sx_pos c19 h
    refine sx_look (pc := 1) (off := 114) (tgt := 115) dX5_stackCodes_1 (by decide) (by rw [c19]; rfl) (by decide) ?_
    refine sx_aload_n (pc := 115) dX5_stackCodes_115 sx_m0 ?_
    refine sx_aload_n (pc := 116) dX5_stackCodes_116 sx_m0 ?_
    refine sv_getI (pc := 117) hG dX5_stackCodes_117 f_5_96 lay_69 rfl ?_
    refine sx_i2l (pc := 120) dX5_stackCodes_120 ?_
    obtain ⟨V20, g21, h⟩ := sx_bnd h
    refine sv_cV (pc := 121) (y := qX5_push) (o := none) (as := [.long ((V.1 69 5).toInt64)]) (V1 := V20) hG dX5_stackCodes_121 l_X5_232 y0X5_push yvX5_push rfl (Nat.le_of_ble_eq_true rfl) lay_69 kr_5 (by decide) (Nat.le_of_ble_eq_true rfl) rfl rfl rfl (t_X5_push hG ⟨rfl, rfl⟩ g21) ?_
    exact sv_vret (pc := 124) dX5_stackCodes_124 rfl h hP
  have h := sx_neg c19 h
  by_cases c22 : l1 = 37
  · have h := sx_pos c22 h
    refine sx_look (pc := 1) (off := 124) (tgt := 125) dX5_stackCodes_1 (by decide) (by rw [c22]; rfl) (by decide) ?_
    refine sx_wk (sx_s1 sx_m0 (sx_s1 sx_m1 sx_s0)) ?_
    exact tB_X5_stackCodes_125 hG hP  h
  have h := sx_neg c22 h
  by_cases c23 : l1 = 38
  · have h := sx_pos c23 h
    refine sx_look (pc := 1) (off := 124) (tgt := 125) dX5_stackCodes_1 (by decide) (by rw [c23]; rfl) (by decide) ?_
    refine sx_wk (sx_s1 sx_m0 (sx_s1 sx_m1 sx_s0)) ?_
    exact tB_X5_stackCodes_125 hG hP  h
  have h := sx_neg c23 h
  by_cases c24 : l1 = 64
  · have h := sx_pos c24 h
    refine sx_look (pc := 1) (off := 130) (tgt := 131) dX5_stackCodes_1 (by decide) (by rw [c24]; rfl) (by decide) ?_
    refine sx_wk (sx_s1 sx_m0 (sx_s1 sx_m1 sx_s0)) ?_
    exact tB_X5_stackCodes_131 hG hP  h
  have h := sx_neg c24 h
  by_cases c25 : l1 = 65
  · have h := sx_pos c25 h
    refine sx_look (pc := 1) (off := 130) (tgt := 131) dX5_stackCodes_1 (by decide) (by rw [c25]; rfl) (by decide) ?_
    refine sx_wk (sx_s1 sx_m0 (sx_s1 sx_m1 sx_s0)) ?_
    exact tB_X5_stackCodes_131 hG hP  h
  have h := sx_neg c25 h
  by_cases c26 : l1 = 138
  · have h := sx_pos c26 h
    refine sx_look (pc := 1) (off := 136) (tgt := 137) dX5_stackCodes_1 (by decide) (by rw [c26]; rfl) (by decide) ?_
    refine sx_aload_n (pc := 137) dX5_stackCodes_137 sx_m0 ?_
    refine sx_iconst (pc := 138) (v := 3) dX5_stackCodes_138 (by decide) ?_
    obtain ⟨V27, g28, h⟩ := sx_bnd h
    refine sv_cV (pc := 139) (y := qX5_rollTop) (o := none) (as := [.int (3 : Int32)]) (V1 := V27) hG dX5_stackCodes_139 l_X5_379 y0X5_rollTop yvX5_rollTop rfl (Nat.le_of_ble_eq_true rfl) lay_69 kr_5 (by decide) (Nat.le_of_ble_eq_true rfl) rfl rfl rfl (t_X5_rollTop hG ⟨rfl, rfl⟩ g28) ?_
    exact sv_vret (pc := 142) dX5_stackCodes_142 rfl h hP
  have h := sx_neg c26 h
  refine sx_look (pc := 1) (off := 142) (tgt := 143) dX5_stackCodes_1 (by decide) (by show Op.lookupswitch.offset [(32, 91), (33, 96), (34, 102), (35, 108), (36, 114), (37, 124), (38, 124), (64, 130), (65, 130), (138, 136)] 142 l1.toInt = 142; rw [lv_osw (a := 32) c7 rfl, lv_osw (a := 33) c10 rfl, lv_osw (a := 34) c14 rfl, lv_osw (a := 35) c16 rfl, lv_osw (a := 36) c19 rfl, lv_osw (a := 37) c22 rfl, lv_osw (a := 38) c23 rfl, lv_osw (a := 64) c24 rfl, lv_osw (a := 65) c25 rfl, lv_osw (a := 138) c26 rfl]; rfl) (by decide) ?_
  refine sx_aload_n (pc := 143) dX5_stackCodes_143 sx_m0 ?_
  refine sx_iload_n (pc := 144) dX5_stackCodes_144 sx_m1 ?_
  refine sx_bipush (pc := 145) (v := 8) dX5_stackCodes_145 (by decide) ?_
  refine sx_irem (pc := 147) dX5_stackCodes_147 (by decide) ?_
  refine sx_iconst (pc := 148) (v := 1) dX5_stackCodes_148 (by decide) ?_
  refine sx_iadd (pc := 149) dX5_stackCodes_149 ?_
  refine sx_iload_n (pc := 150) dX5_stackCodes_150 sx_m1 ?_
  refine sx_sipush (pc := 151) (v := 184) dX5_stackCodes_151 (by decide) ?_
  refine sx_icmp_ge (pc := 154) (tgt := 161) dX5_stackCodes_154 (by decide) (fun c29 => ?_) (fun c29 => ?_)
  · have h := sx_pos c29 h
    refine sx_iconst (pc := 161) (v := 2) dX5_stackCodes_161 (by decide) ?_
    refine sx_wk sx_s0 ?_
    exact tB_X5_stackCodes_162 hG hP  h
  · have h := sx_neg c29 h
    refine sx_iconst (pc := 157) (v := 1) dX5_stackCodes_157 (by decide) ?_
    refine sx_goto (pc := 158) (tgt := 162) dX5_stackCodes_158 (by decide) ?_
    refine sx_wk sx_s0 ?_
    exact tB_X5_stackCodes_162 hG hP  h
theorem dX5_memoryCodes_0 : decode cX5_memoryCodes 0 = .ok (.iload_n 1, 1) := by decide +kernel
theorem dX5_memoryCodes_1 : decode cX5_memoryCodes 1 = .ok (.lookupswitch 92 #[(66, 59), (67, 65), (68, 59), (69, 65), (112, 59), (136, 71)], 59) := by decide +kernel
theorem dX5_memoryCodes_60 : decode cX5_memoryCodes 60 = .ok (.aload_n 0, 1) := by decide +kernel
theorem dX5_memoryCodes_61 : decode cX5_memoryCodes 61 = .ok (.iload_n 1, 1) := by decide +kernel
theorem dX5_memoryCodes_62 : decode cX5_memoryCodes 62 = .ok (.invokevirtual 394, 3) := by decide +kernel
theorem dX5_memoryCodes_65 : decode cX5_memoryCodes 65 = .ok (.return_, 1) := by decide +kernel
theorem dX5_memoryCodes_66 : decode cX5_memoryCodes 66 = .ok (.aload_n 0, 1) := by decide +kernel
theorem dX5_memoryCodes_67 : decode cX5_memoryCodes 67 = .ok (.iload_n 1, 1) := by decide +kernel
theorem dX5_memoryCodes_68 : decode cX5_memoryCodes 68 = .ok (.invokevirtual 397, 3) := by decide +kernel
theorem dX5_memoryCodes_71 : decode cX5_memoryCodes 71 = .ok (.return_, 1) := by decide +kernel
theorem dX5_memoryCodes_72 : decode cX5_memoryCodes 72 = .ok (.aload_n 0, 1) := by decide +kernel
theorem dX5_memoryCodes_73 : decode cX5_memoryCodes 73 = .ok (.aload_n 0, 1) := by decide +kernel
theorem dX5_memoryCodes_74 : decode cX5_memoryCodes 74 = .ok (.invokevirtual 242, 3) := by decide +kernel
theorem dX5_memoryCodes_77 : decode cX5_memoryCodes 77 = .ok (.iconst 1, 1) := by decide +kernel
theorem dX5_memoryCodes_78 : decode cX5_memoryCodes 78 = .ok (.iand, 1) := by decide +kernel
theorem dX5_memoryCodes_79 : decode cX5_memoryCodes 79 = .ok (.ifCond .eq 9, 3) := by decide +kernel
theorem dX5_memoryCodes_82 : decode cX5_memoryCodes 82 = .ok (.ldc2_w 400, 3) := by decide +kernel
theorem dX5_memoryCodes_85 : decode cX5_memoryCodes 85 = .ok (.goto 4, 3) := by decide +kernel
theorem dX5_memoryCodes_88 : decode cX5_memoryCodes 88 = .ok (.lconst 0, 1) := by decide +kernel
theorem dX5_memoryCodes_89 : decode cX5_memoryCodes 89 = .ok (.invokevirtual 232, 3) := by decide +kernel
theorem dX5_memoryCodes_92 : decode cX5_memoryCodes 92 = .ok (.return_, 1) := by decide +kernel
theorem dX5_memoryCodes_93 : decode cX5_memoryCodes 93 = .ok (.aload_n 0, 1) := by decide +kernel
theorem dX5_memoryCodes_94 : decode cX5_memoryCodes 94 = .ok (.aload_n 0, 1) := by decide +kernel
theorem dX5_memoryCodes_95 : decode cX5_memoryCodes 95 = .ok (.getfield 59, 3) := by decide +kernel
theorem dX5_memoryCodes_98 : decode cX5_memoryCodes 98 = .ok (.i2l, 1) := by decide +kernel
theorem dX5_memoryCodes_99 : decode cX5_memoryCodes 99 = .ok (.invokevirtual 232, 3) := by decide +kernel
theorem dX5_memoryCodes_102 : decode cX5_memoryCodes 102 = .ok (.return_, 1) := by decide +kernel
def B_X5_memoryCodes_60  (l1 : Int32) (V : sv_V) : Option sv_V := (F_X5_write l1 V).bind (fun V1 => some V1)
set_option maxRecDepth 20000 in
theorem tB_X5_memoryCodes_60 {g : sx_G} (hG : sx_Go g) {P : Option Value → sv_V → Prop} {Vr : sv_V} (hP : P none Vr)   {l1 : Int32} {V : sv_V} (h : B_X5_memoryCodes_60  l1 V = some Vr) : sv_N g qX5_memoryCodes 3 60 [(0, .ref 69), (1, .int l1)] [] V P := by
  unfold B_X5_memoryCodes_60 at h
  refine sx_aload_n (pc := 60) dX5_memoryCodes_60 sx_m0 ?_
  refine sx_iload_n (pc := 61) dX5_memoryCodes_61 sx_m1 ?_
  obtain ⟨V1, g2, h⟩ := sx_bnd h
  refine sv_cV (pc := 62) (y := qX5_write) (o := none) (as := [.int l1]) (V1 := V1) hG dX5_memoryCodes_62 l_X5_394 y0X5_write yvX5_write rfl (Nat.le_of_ble_eq_true rfl) lay_69 kr_5 (by decide) (Nat.le_of_ble_eq_true rfl) rfl rfl rfl (t_X5_write hG ⟨rfl, rfl⟩ g2) ?_
  exact sv_vret (pc := 65) dX5_memoryCodes_65 rfl h hP
def B_X5_memoryCodes_66  (l1 : Int32) (V : sv_V) : Option sv_V := (F_X5_read l1 V).bind (fun V3 => some V3)
set_option maxRecDepth 20000 in
theorem tB_X5_memoryCodes_66 {g : sx_G} (hG : sx_Go g) {P : Option Value → sv_V → Prop} {Vr : sv_V} (hP : P none Vr)   {l1 : Int32} {V : sv_V} (h : B_X5_memoryCodes_66  l1 V = some Vr) : sv_N g qX5_memoryCodes 3 66 [(0, .ref 69), (1, .int l1)] [] V P := by
  unfold B_X5_memoryCodes_66 at h
  refine sx_aload_n (pc := 66) dX5_memoryCodes_66 sx_m0 ?_
  refine sx_iload_n (pc := 67) dX5_memoryCodes_67 sx_m1 ?_
  obtain ⟨V3, g4, h⟩ := sx_bnd h
  refine sv_cV (pc := 68) (y := qX5_read) (o := none) (as := [.int l1]) (V1 := V3) hG dX5_memoryCodes_68 l_X5_397 y0X5_read yvX5_read rfl (Nat.le_of_ble_eq_true rfl) lay_69 kr_5 (by decide) (Nat.le_of_ble_eq_true rfl) rfl rfl rfl (t_X5_read hG ⟨rfl, rfl⟩ g4) ?_
  exact sv_vret (pc := 71) dX5_memoryCodes_71 rfl h hP
def B_X5_memoryCodes_89  (s1 : Int64) (V : sv_V) : Option sv_V := (F_X5_push s1 V).bind (fun V5 => some V5)
set_option maxRecDepth 20000 in
theorem tB_X5_memoryCodes_89 {g : sx_G} (hG : sx_Go g) {P : Option Value → sv_V → Prop} {Vr : sv_V} (hP : P none Vr)   {s1 : Int64} {V : sv_V} (h : B_X5_memoryCodes_89  s1 V = some Vr) : sv_N g qX5_memoryCodes 3 89 [] [.long s1, .ref 69] V P := by
  unfold B_X5_memoryCodes_89 at h
  obtain ⟨V5, g6, h⟩ := sx_bnd h
  refine sv_cV (pc := 89) (y := qX5_push) (o := none) (as := [.long s1]) (V1 := V5) hG dX5_memoryCodes_89 l_X5_232 y0X5_push yvX5_push rfl (Nat.le_of_ble_eq_true rfl) lay_69 kr_5 (by decide) (Nat.le_of_ble_eq_true rfl) rfl rfl rfl (t_X5_push hG ⟨rfl, rfl⟩ g6) ?_
  exact sv_vret (pc := 92) dX5_memoryCodes_92 rfl h hP
def F_X5_memoryCodes (l1 : Int32) (V : sv_V) : Option sv_V := if l1 = 66 then (B_X5_memoryCodes_60  l1 V) else (if l1 = 67 then (B_X5_memoryCodes_66  l1 V) else (if l1 = 68 then (B_X5_memoryCodes_60  l1 V) else (if l1 = 69 then (B_X5_memoryCodes_66  l1 V) else (if l1 = 112 then (B_X5_memoryCodes_60  l1 V) else (if l1 = 136 then ((F_X5_pop  V).bind (fun (x15, V13) => if (x15 &&& (1 : Int32)) = 0 then (B_X5_memoryCodes_89  (0 : Int64) V13) else (B_X5_memoryCodes_89  (35 : Int64) V13))) else ((F_X5_push ((V.1 69 12).toInt64) V).bind (fun V17 => some V17)))))))
set_option maxRecDepth 20000 in
theorem t_X5_memoryCodes {g : sx_G} (hG : sx_Go g) {P : Option Value → sv_V → Prop} {Vr : sv_V} (hP : P none Vr) {l1 : Int32} {V : sv_V} (h : F_X5_memoryCodes l1 V = some Vr) : sv_N g qX5_memoryCodes 3 0 [(0, .ref 69), (1, .int l1)] [] V P := by
  unfold F_X5_memoryCodes at h
  refine sx_iload_n (pc := 0) dX5_memoryCodes_0 sx_m1 ?_
  by_cases c7 : l1 = 66
  · have h := sx_pos c7 h
    refine sx_look (pc := 1) (off := 59) (tgt := 60) dX5_memoryCodes_1 (by decide) (by rw [c7]; rfl) (by decide) ?_
    refine sx_wk (sx_s1 sx_m0 (sx_s1 sx_m1 sx_s0)) ?_
    exact tB_X5_memoryCodes_60 hG hP  h
  have h := sx_neg c7 h
  by_cases c8 : l1 = 67
  · have h := sx_pos c8 h
    refine sx_look (pc := 1) (off := 65) (tgt := 66) dX5_memoryCodes_1 (by decide) (by rw [c8]; rfl) (by decide) ?_
    refine sx_wk (sx_s1 sx_m0 (sx_s1 sx_m1 sx_s0)) ?_
    exact tB_X5_memoryCodes_66 hG hP  h
  have h := sx_neg c8 h
  by_cases c9 : l1 = 68
  · have h := sx_pos c9 h
    refine sx_look (pc := 1) (off := 59) (tgt := 60) dX5_memoryCodes_1 (by decide) (by rw [c9]; rfl) (by decide) ?_
    refine sx_wk (sx_s1 sx_m0 (sx_s1 sx_m1 sx_s0)) ?_
    exact tB_X5_memoryCodes_60 hG hP  h
  have h := sx_neg c9 h
  by_cases c10 : l1 = 69
  · have h := sx_pos c10 h
    refine sx_look (pc := 1) (off := 65) (tgt := 66) dX5_memoryCodes_1 (by decide) (by rw [c10]; rfl) (by decide) ?_
    refine sx_wk (sx_s1 sx_m0 (sx_s1 sx_m1 sx_s0)) ?_
    exact tB_X5_memoryCodes_66 hG hP  h
  have h := sx_neg c10 h
  by_cases c11 : l1 = 112
  · have h := sx_pos c11 h
    refine sx_look (pc := 1) (off := 59) (tgt := 60) dX5_memoryCodes_1 (by decide) (by rw [c11]; rfl) (by decide) ?_
    refine sx_wk (sx_s1 sx_m0 (sx_s1 sx_m1 sx_s0)) ?_
    exact tB_X5_memoryCodes_60 hG hP  h
  have h := sx_neg c11 h
  by_cases c12 : l1 = 136
  · have h := sx_pos c12 h
    refine sx_look (pc := 1) (off := 71) (tgt := 72) dX5_memoryCodes_1 (by decide) (by rw [c12]; rfl) (by decide) ?_
    refine sx_aload_n (pc := 72) dX5_memoryCodes_72 sx_m0 ?_
    refine sx_aload_n (pc := 73) dX5_memoryCodes_73 sx_m0 ?_
    obtain ⟨⟨x15, V13⟩, g14, h⟩ := sx_bnd h
    refine sv_cV (pc := 74) (y := qX5_pop) (o := (some (.int x15))) (as := []) (V1 := V13) hG dX5_memoryCodes_74 l_X5_242 y0X5_pop yvX5_pop rfl (Nat.le_of_ble_eq_true rfl) lay_69 kr_5 (by decide) (Nat.le_of_ble_eq_true rfl) rfl rfl rfl (t_X5_pop hG ⟨rfl, rfl⟩ g14) ?_
    refine sx_iconst (pc := 77) (v := 1) dX5_memoryCodes_77 (by decide) ?_
    refine sx_iand (pc := 78) dX5_memoryCodes_78 ?_
    refine sx_if_eq (pc := 79) (tgt := 88) dX5_memoryCodes_79 (by decide) (fun c16 => ?_) (fun c16 => ?_)
    · have h := sx_pos c16 h
      refine sx_lconst (pc := 88) (v := 0) dX5_memoryCodes_88 rfl ?_
      refine sx_wk sx_s0 ?_
      exact tB_X5_memoryCodes_89 hG hP  h
    · have h := sx_neg c16 h
      refine sx_ldc2 (pc := 82) dX5_memoryCodes_82 k_X5_400 ?_
      refine sx_goto (pc := 85) (tgt := 89) dX5_memoryCodes_85 (by decide) ?_
      refine sx_wk sx_s0 ?_
      exact tB_X5_memoryCodes_89 hG hP  h
  have h := sx_neg c12 h
  refine sx_look (pc := 1) (off := 92) (tgt := 93) dX5_memoryCodes_1 (by decide) (by show Op.lookupswitch.offset [(66, 59), (67, 65), (68, 59), (69, 65), (112, 59), (136, 71)] 92 l1.toInt = 92; rw [lv_osw (a := 66) c7 rfl, lv_osw (a := 67) c8 rfl, lv_osw (a := 68) c9 rfl, lv_osw (a := 69) c10 rfl, lv_osw (a := 112) c11 rfl, lv_osw (a := 136) c12 rfl]; rfl) (by decide) ?_
  refine sx_aload_n (pc := 93) dX5_memoryCodes_93 sx_m0 ?_
  refine sx_aload_n (pc := 94) dX5_memoryCodes_94 sx_m0 ?_
  refine sv_getI (pc := 95) hG dX5_memoryCodes_95 f_5_59 lay_69 rfl ?_
  refine sx_i2l (pc := 98) dX5_memoryCodes_98 ?_
  obtain ⟨V17, g18, h⟩ := sx_bnd h
  refine sv_cV (pc := 99) (y := qX5_push) (o := none) (as := [.long ((V.1 69 12).toInt64)]) (V1 := V17) hG dX5_memoryCodes_99 l_X5_232 y0X5_push yvX5_push rfl (Nat.le_of_ble_eq_true rfl) lay_69 kr_5 (by decide) (Nat.le_of_ble_eq_true rfl) rfl rfl rfl (t_X5_push hG ⟨rfl, rfl⟩ g18) ?_
  exact sv_vret (pc := 102) dX5_memoryCodes_102 rfl h hP
theorem dX5_comparingCodes_0 : decode cX5_comparingCodes 0 = .ok (.aload_n 0, 1) := by decide +kernel
theorem dX5_comparingCodes_1 : decode cX5_comparingCodes 1 = .ok (.invokevirtual 242, 3) := by decide +kernel
theorem dX5_comparingCodes_4 : decode cX5_comparingCodes 4 = .ok (.istore_n 2, 1) := by decide +kernel
theorem dX5_comparingCodes_5 : decode cX5_comparingCodes 5 = .ok (.getstatic 160, 3) := by decide +kernel
theorem dX5_comparingCodes_8 : decode cX5_comparingCodes 8 = .ok (.iload_n 1, 1) := by decide +kernel
theorem dX5_comparingCodes_9 : decode cX5_comparingCodes 9 = .ok (.iaload, 1) := by decide +kernel
theorem dX5_comparingCodes_10 : decode cX5_comparingCodes 10 = .ok (.iconst 2, 1) := by decide +kernel
theorem dX5_comparingCodes_11 : decode cX5_comparingCodes 11 = .ok (.if_icmp .ne 10, 3) := by decide +kernel
theorem dX5_comparingCodes_14 : decode cX5_comparingCodes 14 = .ok (.aload_n 0, 1) := by decide +kernel
theorem dX5_comparingCodes_15 : decode cX5_comparingCodes 15 = .ok (.invokevirtual 242, 3) := by decide +kernel
theorem dX5_comparingCodes_18 : decode cX5_comparingCodes 18 = .ok (.goto 4, 3) := by decide +kernel
theorem dX5_comparingCodes_21 : decode cX5_comparingCodes 21 = .ok (.iconst 0, 1) := by decide +kernel
theorem dX5_comparingCodes_22 : decode cX5_comparingCodes 22 = .ok (.istore_n 3, 1) := by decide +kernel
theorem dX5_comparingCodes_23 : decode cX5_comparingCodes 23 = .ok (.iload_n 1, 1) := by decide +kernel
theorem dX5_comparingCodes_24 : decode cX5_comparingCodes 24 = .ok (.tableswitch 248 80 91 #[64, 79, 94, 109, 124, 139, 154, 184, 248, 248, 212, 230], 64) := by decide +kernel
theorem dX5_comparingCodes_88 : decode cX5_comparingCodes 88 = .ok (.iload_n 3, 1) := by decide +kernel
theorem dX5_comparingCodes_89 : decode cX5_comparingCodes 89 = .ok (.iload_n 2, 1) := by decide +kernel
theorem dX5_comparingCodes_90 : decode cX5_comparingCodes 90 = .ok (.if_icmp .ge 7, 3) := by decide +kernel
theorem dX5_comparingCodes_93 : decode cX5_comparingCodes 93 = .ok (.iconst 1, 1) := by decide +kernel
theorem dX5_comparingCodes_94 : decode cX5_comparingCodes 94 = .ok (.goto 4, 3) := by decide +kernel
theorem dX5_comparingCodes_97 : decode cX5_comparingCodes 97 = .ok (.iconst 0, 1) := by decide +kernel
theorem dX5_comparingCodes_98 : decode cX5_comparingCodes 98 = .ok (.istore 4, 2) := by decide +kernel
theorem dX5_comparingCodes_100 : decode cX5_comparingCodes 100 = .ok (.goto 183, 3) := by decide +kernel
theorem dX5_comparingCodes_103 : decode cX5_comparingCodes 103 = .ok (.iload_n 3, 1) := by decide +kernel
theorem dX5_comparingCodes_104 : decode cX5_comparingCodes 104 = .ok (.iload_n 2, 1) := by decide +kernel
theorem dX5_comparingCodes_105 : decode cX5_comparingCodes 105 = .ok (.if_icmp .gt 7, 3) := by decide +kernel
theorem dX5_comparingCodes_108 : decode cX5_comparingCodes 108 = .ok (.iconst 1, 1) := by decide +kernel
theorem dX5_comparingCodes_109 : decode cX5_comparingCodes 109 = .ok (.goto 4, 3) := by decide +kernel
theorem dX5_comparingCodes_112 : decode cX5_comparingCodes 112 = .ok (.iconst 0, 1) := by decide +kernel
theorem dX5_comparingCodes_113 : decode cX5_comparingCodes 113 = .ok (.istore 4, 2) := by decide +kernel
theorem dX5_comparingCodes_115 : decode cX5_comparingCodes 115 = .ok (.goto 168, 3) := by decide +kernel
theorem dX5_comparingCodes_118 : decode cX5_comparingCodes 118 = .ok (.iload_n 3, 1) := by decide +kernel
theorem dX5_comparingCodes_119 : decode cX5_comparingCodes 119 = .ok (.iload_n 2, 1) := by decide +kernel
theorem dX5_comparingCodes_120 : decode cX5_comparingCodes 120 = .ok (.if_icmp .le 7, 3) := by decide +kernel
theorem dX5_comparingCodes_123 : decode cX5_comparingCodes 123 = .ok (.iconst 1, 1) := by decide +kernel
theorem dX5_comparingCodes_124 : decode cX5_comparingCodes 124 = .ok (.goto 4, 3) := by decide +kernel
theorem dX5_comparingCodes_127 : decode cX5_comparingCodes 127 = .ok (.iconst 0, 1) := by decide +kernel
theorem dX5_comparingCodes_128 : decode cX5_comparingCodes 128 = .ok (.istore 4, 2) := by decide +kernel
theorem dX5_comparingCodes_130 : decode cX5_comparingCodes 130 = .ok (.goto 153, 3) := by decide +kernel
theorem dX5_comparingCodes_133 : decode cX5_comparingCodes 133 = .ok (.iload_n 3, 1) := by decide +kernel
theorem dX5_comparingCodes_134 : decode cX5_comparingCodes 134 = .ok (.iload_n 2, 1) := by decide +kernel
theorem dX5_comparingCodes_135 : decode cX5_comparingCodes 135 = .ok (.if_icmp .lt 7, 3) := by decide +kernel
theorem dX5_comparingCodes_138 : decode cX5_comparingCodes 138 = .ok (.iconst 1, 1) := by decide +kernel
theorem dX5_comparingCodes_139 : decode cX5_comparingCodes 139 = .ok (.goto 4, 3) := by decide +kernel
theorem dX5_comparingCodes_142 : decode cX5_comparingCodes 142 = .ok (.iconst 0, 1) := by decide +kernel
theorem dX5_comparingCodes_143 : decode cX5_comparingCodes 143 = .ok (.istore 4, 2) := by decide +kernel
theorem dX5_comparingCodes_145 : decode cX5_comparingCodes 145 = .ok (.goto 138, 3) := by decide +kernel
theorem dX5_comparingCodes_148 : decode cX5_comparingCodes 148 = .ok (.iload_n 3, 1) := by decide +kernel
theorem dX5_comparingCodes_149 : decode cX5_comparingCodes 149 = .ok (.iload_n 2, 1) := by decide +kernel
theorem dX5_comparingCodes_150 : decode cX5_comparingCodes 150 = .ok (.if_icmp .ne 7, 3) := by decide +kernel
theorem dX5_comparingCodes_153 : decode cX5_comparingCodes 153 = .ok (.iconst 1, 1) := by decide +kernel
theorem dX5_comparingCodes_154 : decode cX5_comparingCodes 154 = .ok (.goto 4, 3) := by decide +kernel
theorem dX5_comparingCodes_157 : decode cX5_comparingCodes 157 = .ok (.iconst 0, 1) := by decide +kernel
theorem dX5_comparingCodes_158 : decode cX5_comparingCodes 158 = .ok (.istore 4, 2) := by decide +kernel
theorem dX5_comparingCodes_160 : decode cX5_comparingCodes 160 = .ok (.goto 123, 3) := by decide +kernel
theorem dX5_comparingCodes_163 : decode cX5_comparingCodes 163 = .ok (.iload_n 3, 1) := by decide +kernel
theorem dX5_comparingCodes_164 : decode cX5_comparingCodes 164 = .ok (.iload_n 2, 1) := by decide +kernel
theorem dX5_comparingCodes_165 : decode cX5_comparingCodes 165 = .ok (.if_icmp .eq 7, 3) := by decide +kernel
theorem dX5_comparingCodes_168 : decode cX5_comparingCodes 168 = .ok (.iconst 1, 1) := by decide +kernel
theorem dX5_comparingCodes_169 : decode cX5_comparingCodes 169 = .ok (.goto 4, 3) := by decide +kernel
theorem dX5_comparingCodes_172 : decode cX5_comparingCodes 172 = .ok (.iconst 0, 1) := by decide +kernel
theorem dX5_comparingCodes_173 : decode cX5_comparingCodes 173 = .ok (.istore 4, 2) := by decide +kernel
theorem dX5_comparingCodes_175 : decode cX5_comparingCodes 175 = .ok (.goto 108, 3) := by decide +kernel
theorem dX5_comparingCodes_178 : decode cX5_comparingCodes 178 = .ok (.aload_n 0, 1) := by decide +kernel
theorem dX5_comparingCodes_179 : decode cX5_comparingCodes 179 = .ok (.getfield 12, 3) := by decide +kernel
theorem dX5_comparingCodes_182 : decode cX5_comparingCodes 182 = .ok (.iload_n 2, 1) := by decide +kernel
theorem dX5_comparingCodes_183 : decode cX5_comparingCodes 183 = .ok (.i2l, 1) := by decide +kernel
theorem dX5_comparingCodes_184 : decode cX5_comparingCodes 184 = .ok (.invokevirtual 414, 3) := by decide +kernel
theorem dX5_comparingCodes_187 : decode cX5_comparingCodes 187 = .ok (.ldc2_w 417, 3) := by decide +kernel
theorem dX5_comparingCodes_190 : decode cX5_comparingCodes 190 = .ok (.land, 1) := by decide +kernel
theorem dX5_comparingCodes_191 : decode cX5_comparingCodes 191 = .ok (.ldc2_w 68, 3) := by decide +kernel
theorem dX5_comparingCodes_194 : decode cX5_comparingCodes 194 = .ok (.lcmp, 1) := by decide +kernel
theorem dX5_comparingCodes_195 : decode cX5_comparingCodes 195 = .ok (.ifCond .ne 7, 3) := by decide +kernel
theorem dX5_comparingCodes_198 : decode cX5_comparingCodes 198 = .ok (.iconst 1, 1) := by decide +kernel
theorem dX5_comparingCodes_199 : decode cX5_comparingCodes 199 = .ok (.goto 4, 3) := by decide +kernel
theorem dX5_comparingCodes_202 : decode cX5_comparingCodes 202 = .ok (.iconst 0, 1) := by decide +kernel
theorem dX5_comparingCodes_203 : decode cX5_comparingCodes 203 = .ok (.istore 4, 2) := by decide +kernel
theorem dX5_comparingCodes_205 : decode cX5_comparingCodes 205 = .ok (.goto 78, 3) := by decide +kernel
theorem dX5_comparingCodes_208 : decode cX5_comparingCodes 208 = .ok (.aload_n 0, 1) := by decide +kernel
theorem dX5_comparingCodes_209 : decode cX5_comparingCodes 209 = .ok (.getfield 12, 3) := by decide +kernel
theorem dX5_comparingCodes_212 : decode cX5_comparingCodes 212 = .ok (.iload_n 2, 1) := by decide +kernel
theorem dX5_comparingCodes_213 : decode cX5_comparingCodes 213 = .ok (.i2l, 1) := by decide +kernel
theorem dX5_comparingCodes_214 : decode cX5_comparingCodes 214 = .ok (.invokevirtual 414, 3) := by decide +kernel
theorem dX5_comparingCodes_217 : decode cX5_comparingCodes 217 = .ok (.ldc2_w 417, 3) := by decide +kernel
theorem dX5_comparingCodes_220 : decode cX5_comparingCodes 220 = .ok (.land, 1) := by decide +kernel
theorem dX5_comparingCodes_221 : decode cX5_comparingCodes 221 = .ok (.lconst 0, 1) := by decide +kernel
theorem dX5_comparingCodes_222 : decode cX5_comparingCodes 222 = .ok (.lcmp, 1) := by decide +kernel
theorem dX5_comparingCodes_223 : decode cX5_comparingCodes 223 = .ok (.ifCond .ne 7, 3) := by decide +kernel
theorem dX5_comparingCodes_226 : decode cX5_comparingCodes 226 = .ok (.iconst 1, 1) := by decide +kernel
theorem dX5_comparingCodes_227 : decode cX5_comparingCodes 227 = .ok (.goto 4, 3) := by decide +kernel
theorem dX5_comparingCodes_230 : decode cX5_comparingCodes 230 = .ok (.iconst 0, 1) := by decide +kernel
theorem dX5_comparingCodes_231 : decode cX5_comparingCodes 231 = .ok (.istore 4, 2) := by decide +kernel
theorem dX5_comparingCodes_233 : decode cX5_comparingCodes 233 = .ok (.goto 50, 3) := by decide +kernel
theorem dX5_comparingCodes_236 : decode cX5_comparingCodes 236 = .ok (.iload_n 3, 1) := by decide +kernel
theorem dX5_comparingCodes_237 : decode cX5_comparingCodes 237 = .ok (.ifCond .eq 11, 3) := by decide +kernel
theorem dX5_comparingCodes_240 : decode cX5_comparingCodes 240 = .ok (.iload_n 2, 1) := by decide +kernel
theorem dX5_comparingCodes_241 : decode cX5_comparingCodes 241 = .ok (.ifCond .eq 7, 3) := by decide +kernel
theorem dX5_comparingCodes_244 : decode cX5_comparingCodes 244 = .ok (.iconst 1, 1) := by decide +kernel
theorem dX5_comparingCodes_245 : decode cX5_comparingCodes 245 = .ok (.goto 4, 3) := by decide +kernel
theorem dX5_comparingCodes_248 : decode cX5_comparingCodes 248 = .ok (.iconst 0, 1) := by decide +kernel
theorem dX5_comparingCodes_249 : decode cX5_comparingCodes 249 = .ok (.istore 4, 2) := by decide +kernel
theorem dX5_comparingCodes_251 : decode cX5_comparingCodes 251 = .ok (.goto 32, 3) := by decide +kernel
theorem dX5_comparingCodes_254 : decode cX5_comparingCodes 254 = .ok (.iload_n 3, 1) := by decide +kernel
theorem dX5_comparingCodes_255 : decode cX5_comparingCodes 255 = .ok (.ifCond .ne 7, 3) := by decide +kernel
theorem dX5_comparingCodes_258 : decode cX5_comparingCodes 258 = .ok (.iload_n 2, 1) := by decide +kernel
theorem dX5_comparingCodes_259 : decode cX5_comparingCodes 259 = .ok (.ifCond .eq 7, 3) := by decide +kernel
theorem dX5_comparingCodes_262 : decode cX5_comparingCodes 262 = .ok (.iconst 1, 1) := by decide +kernel
theorem dX5_comparingCodes_263 : decode cX5_comparingCodes 263 = .ok (.goto 4, 3) := by decide +kernel
theorem dX5_comparingCodes_266 : decode cX5_comparingCodes 266 = .ok (.iconst 0, 1) := by decide +kernel
theorem dX5_comparingCodes_267 : decode cX5_comparingCodes 267 = .ok (.istore 4, 2) := by decide +kernel
theorem dX5_comparingCodes_269 : decode cX5_comparingCodes 269 = .ok (.goto 14, 3) := by decide +kernel
theorem dX5_comparingCodes_272 : decode cX5_comparingCodes 272 = .ok (.iload_n 2, 1) := by decide +kernel
theorem dX5_comparingCodes_273 : decode cX5_comparingCodes 273 = .ok (.ifCond .ne 7, 3) := by decide +kernel
theorem dX5_comparingCodes_276 : decode cX5_comparingCodes 276 = .ok (.iconst 1, 1) := by decide +kernel
theorem dX5_comparingCodes_277 : decode cX5_comparingCodes 277 = .ok (.goto 4, 3) := by decide +kernel
theorem dX5_comparingCodes_280 : decode cX5_comparingCodes 280 = .ok (.iconst 0, 1) := by decide +kernel
theorem dX5_comparingCodes_281 : decode cX5_comparingCodes 281 = .ok (.istore 4, 2) := by decide +kernel
theorem dX5_comparingCodes_283 : decode cX5_comparingCodes 283 = .ok (.aload_n 0, 1) := by decide +kernel
theorem dX5_comparingCodes_284 : decode cX5_comparingCodes 284 = .ok (.iload 4, 2) := by decide +kernel
theorem dX5_comparingCodes_286 : decode cX5_comparingCodes 286 = .ok (.ifCond .eq 7, 3) := by decide +kernel
theorem dX5_comparingCodes_289 : decode cX5_comparingCodes 289 = .ok (.lconst 1, 1) := by decide +kernel
theorem dX5_comparingCodes_290 : decode cX5_comparingCodes 290 = .ok (.goto 4, 3) := by decide +kernel
theorem dX5_comparingCodes_293 : decode cX5_comparingCodes 293 = .ok (.lconst 0, 1) := by decide +kernel
theorem dX5_comparingCodes_294 : decode cX5_comparingCodes 294 = .ok (.invokevirtual 232, 3) := by decide +kernel
theorem dX5_comparingCodes_297 : decode cX5_comparingCodes 297 = .ok (.return_, 1) := by decide +kernel
def B_X5_comparingCodes_294  (s1 : Int64) (V : sv_V) : Option sv_V := (F_X5_push s1 V).bind (fun V1 => some V1)
set_option maxRecDepth 20000 in
theorem tB_X5_comparingCodes_294 {g : sx_G} (hG : sx_Go g) {P : Option Value → sv_V → Prop} {Vr : sv_V} (hP : P none Vr)   {s1 : Int64} {V : sv_V} (h : B_X5_comparingCodes_294  s1 V = some Vr) : sv_N g qX5_comparingCodes 2 294 [] [.long s1, .ref 69] V P := by
  unfold B_X5_comparingCodes_294 at h
  obtain ⟨V1, g2, h⟩ := sx_bnd h
  refine sv_cV (pc := 294) (y := qX5_push) (o := none) (as := [.long s1]) (V1 := V1) hG dX5_comparingCodes_294 l_X5_232 y0X5_push yvX5_push rfl (Nat.le_of_ble_eq_true rfl) lay_69 kr_5 (by decide) (Nat.le_of_ble_eq_true rfl) rfl rfl rfl (t_X5_push hG ⟨rfl, rfl⟩ g2) ?_
  exact sv_vret (pc := 297) dX5_comparingCodes_297 rfl h hP
def B_X5_comparingCodes_283  (l4 : Int32) (V : sv_V) : Option sv_V := if l4 = 0 then (B_X5_comparingCodes_294  (0 : Int64) V) else (B_X5_comparingCodes_294  (1 : Int64) V)
set_option maxRecDepth 20000 in
theorem tB_X5_comparingCodes_283 {g : sx_G} (hG : sx_Go g) {P : Option Value → sv_V → Prop} {Vr : sv_V} (hP : P none Vr)   {l4 : Int32} {V : sv_V} (h : B_X5_comparingCodes_283  l4 V = some Vr) : sv_N g qX5_comparingCodes 2 283 [(0, .ref 69), (4, .int l4)] [] V P := by
  unfold B_X5_comparingCodes_283 at h
  refine sx_aload_n (pc := 283) dX5_comparingCodes_283 sx_m0 ?_
  refine sx_iload (pc := 284) dX5_comparingCodes_284 sx_m1 ?_
  refine sx_if_eq (pc := 286) (tgt := 293) dX5_comparingCodes_286 (by decide) (fun c3 => ?_) (fun c3 => ?_)
  · have h := sx_pos c3 h
    refine sx_lconst (pc := 293) (v := 0) dX5_comparingCodes_293 rfl ?_
    refine sx_wk sx_s0 ?_
    exact tB_X5_comparingCodes_294 hG hP  h
  · have h := sx_neg c3 h
    refine sx_lconst (pc := 289) (v := 1) dX5_comparingCodes_289 rfl ?_
    refine sx_goto (pc := 290) (tgt := 294) dX5_comparingCodes_290 (by decide) ?_
    refine sx_wk sx_s0 ?_
    exact tB_X5_comparingCodes_294 hG hP  h
def B_X5_comparingCodes_98  (s0 : Int32) (V : sv_V) : Option sv_V := B_X5_comparingCodes_283  s0 V
set_option maxRecDepth 20000 in
theorem tB_X5_comparingCodes_98 {g : sx_G} (hG : sx_Go g) {P : Option Value → sv_V → Prop} {Vr : sv_V} (hP : P none Vr)   {s0 : Int32} {V : sv_V} (h : B_X5_comparingCodes_98  s0 V = some Vr) : sv_N g qX5_comparingCodes 2 98 [(0, .ref 69)] [.int s0] V P := by
  unfold B_X5_comparingCodes_98 at h
  refine sx_istore (pc := 98) (lo' := [(4, .int s0), (0, .ref 69)]) dX5_comparingCodes_98 (by decide) rfl ?_
  refine sx_goto (pc := 100) (tgt := 283) dX5_comparingCodes_100 (by decide) ?_
  refine sx_wk (sx_s1 sx_m1 (sx_s1 sx_m0 sx_s0)) ?_
  exact tB_X5_comparingCodes_283 hG hP  h
def B_X5_comparingCodes_113  (s0 : Int32) (V : sv_V) : Option sv_V := B_X5_comparingCodes_283  s0 V
set_option maxRecDepth 20000 in
theorem tB_X5_comparingCodes_113 {g : sx_G} (hG : sx_Go g) {P : Option Value → sv_V → Prop} {Vr : sv_V} (hP : P none Vr)   {s0 : Int32} {V : sv_V} (h : B_X5_comparingCodes_113  s0 V = some Vr) : sv_N g qX5_comparingCodes 2 113 [(0, .ref 69)] [.int s0] V P := by
  unfold B_X5_comparingCodes_113 at h
  refine sx_istore (pc := 113) (lo' := [(4, .int s0), (0, .ref 69)]) dX5_comparingCodes_113 (by decide) rfl ?_
  refine sx_goto (pc := 115) (tgt := 283) dX5_comparingCodes_115 (by decide) ?_
  refine sx_wk (sx_s1 sx_m1 (sx_s1 sx_m0 sx_s0)) ?_
  exact tB_X5_comparingCodes_283 hG hP  h
def B_X5_comparingCodes_128  (s0 : Int32) (V : sv_V) : Option sv_V := B_X5_comparingCodes_283  s0 V
set_option maxRecDepth 20000 in
theorem tB_X5_comparingCodes_128 {g : sx_G} (hG : sx_Go g) {P : Option Value → sv_V → Prop} {Vr : sv_V} (hP : P none Vr)   {s0 : Int32} {V : sv_V} (h : B_X5_comparingCodes_128  s0 V = some Vr) : sv_N g qX5_comparingCodes 2 128 [(0, .ref 69)] [.int s0] V P := by
  unfold B_X5_comparingCodes_128 at h
  refine sx_istore (pc := 128) (lo' := [(4, .int s0), (0, .ref 69)]) dX5_comparingCodes_128 (by decide) rfl ?_
  refine sx_goto (pc := 130) (tgt := 283) dX5_comparingCodes_130 (by decide) ?_
  refine sx_wk (sx_s1 sx_m1 (sx_s1 sx_m0 sx_s0)) ?_
  exact tB_X5_comparingCodes_283 hG hP  h
def B_X5_comparingCodes_143  (s0 : Int32) (V : sv_V) : Option sv_V := B_X5_comparingCodes_283  s0 V
set_option maxRecDepth 20000 in
theorem tB_X5_comparingCodes_143 {g : sx_G} (hG : sx_Go g) {P : Option Value → sv_V → Prop} {Vr : sv_V} (hP : P none Vr)   {s0 : Int32} {V : sv_V} (h : B_X5_comparingCodes_143  s0 V = some Vr) : sv_N g qX5_comparingCodes 2 143 [(0, .ref 69)] [.int s0] V P := by
  unfold B_X5_comparingCodes_143 at h
  refine sx_istore (pc := 143) (lo' := [(4, .int s0), (0, .ref 69)]) dX5_comparingCodes_143 (by decide) rfl ?_
  refine sx_goto (pc := 145) (tgt := 283) dX5_comparingCodes_145 (by decide) ?_
  refine sx_wk (sx_s1 sx_m1 (sx_s1 sx_m0 sx_s0)) ?_
  exact tB_X5_comparingCodes_283 hG hP  h
def B_X5_comparingCodes_158  (s0 : Int32) (V : sv_V) : Option sv_V := B_X5_comparingCodes_283  s0 V
set_option maxRecDepth 20000 in
theorem tB_X5_comparingCodes_158 {g : sx_G} (hG : sx_Go g) {P : Option Value → sv_V → Prop} {Vr : sv_V} (hP : P none Vr)   {s0 : Int32} {V : sv_V} (h : B_X5_comparingCodes_158  s0 V = some Vr) : sv_N g qX5_comparingCodes 2 158 [(0, .ref 69)] [.int s0] V P := by
  unfold B_X5_comparingCodes_158 at h
  refine sx_istore (pc := 158) (lo' := [(4, .int s0), (0, .ref 69)]) dX5_comparingCodes_158 (by decide) rfl ?_
  refine sx_goto (pc := 160) (tgt := 283) dX5_comparingCodes_160 (by decide) ?_
  refine sx_wk (sx_s1 sx_m1 (sx_s1 sx_m0 sx_s0)) ?_
  exact tB_X5_comparingCodes_283 hG hP  h
def B_X5_comparingCodes_173  (s0 : Int32) (V : sv_V) : Option sv_V := B_X5_comparingCodes_283  s0 V
set_option maxRecDepth 20000 in
theorem tB_X5_comparingCodes_173 {g : sx_G} (hG : sx_Go g) {P : Option Value → sv_V → Prop} {Vr : sv_V} (hP : P none Vr)   {s0 : Int32} {V : sv_V} (h : B_X5_comparingCodes_173  s0 V = some Vr) : sv_N g qX5_comparingCodes 2 173 [(0, .ref 69)] [.int s0] V P := by
  unfold B_X5_comparingCodes_173 at h
  refine sx_istore (pc := 173) (lo' := [(4, .int s0), (0, .ref 69)]) dX5_comparingCodes_173 (by decide) rfl ?_
  refine sx_goto (pc := 175) (tgt := 283) dX5_comparingCodes_175 (by decide) ?_
  refine sx_wk (sx_s1 sx_m1 (sx_s1 sx_m0 sx_s0)) ?_
  exact tB_X5_comparingCodes_283 hG hP  h
def B_X5_comparingCodes_203  (s0 : Int32) (V : sv_V) : Option sv_V := B_X5_comparingCodes_283  s0 V
set_option maxRecDepth 20000 in
theorem tB_X5_comparingCodes_203 {g : sx_G} (hG : sx_Go g) {P : Option Value → sv_V → Prop} {Vr : sv_V} (hP : P none Vr)   {s0 : Int32} {V : sv_V} (h : B_X5_comparingCodes_203  s0 V = some Vr) : sv_N g qX5_comparingCodes 2 203 [(0, .ref 69)] [.int s0] V P := by
  unfold B_X5_comparingCodes_203 at h
  refine sx_istore (pc := 203) (lo' := [(4, .int s0), (0, .ref 69)]) dX5_comparingCodes_203 (by decide) rfl ?_
  refine sx_goto (pc := 205) (tgt := 283) dX5_comparingCodes_205 (by decide) ?_
  refine sx_wk (sx_s1 sx_m1 (sx_s1 sx_m0 sx_s0)) ?_
  exact tB_X5_comparingCodes_283 hG hP  h
def B_X5_comparingCodes_231  (s0 : Int32) (V : sv_V) : Option sv_V := B_X5_comparingCodes_283  s0 V
set_option maxRecDepth 20000 in
theorem tB_X5_comparingCodes_231 {g : sx_G} (hG : sx_Go g) {P : Option Value → sv_V → Prop} {Vr : sv_V} (hP : P none Vr)   {s0 : Int32} {V : sv_V} (h : B_X5_comparingCodes_231  s0 V = some Vr) : sv_N g qX5_comparingCodes 2 231 [(0, .ref 69)] [.int s0] V P := by
  unfold B_X5_comparingCodes_231 at h
  refine sx_istore (pc := 231) (lo' := [(4, .int s0), (0, .ref 69)]) dX5_comparingCodes_231 (by decide) rfl ?_
  refine sx_goto (pc := 233) (tgt := 283) dX5_comparingCodes_233 (by decide) ?_
  refine sx_wk (sx_s1 sx_m1 (sx_s1 sx_m0 sx_s0)) ?_
  exact tB_X5_comparingCodes_283 hG hP  h
def B_X5_comparingCodes_249  (s0 : Int32) (V : sv_V) : Option sv_V := B_X5_comparingCodes_283  s0 V
set_option maxRecDepth 20000 in
theorem tB_X5_comparingCodes_249 {g : sx_G} (hG : sx_Go g) {P : Option Value → sv_V → Prop} {Vr : sv_V} (hP : P none Vr)   {s0 : Int32} {V : sv_V} (h : B_X5_comparingCodes_249  s0 V = some Vr) : sv_N g qX5_comparingCodes 2 249 [(0, .ref 69)] [.int s0] V P := by
  unfold B_X5_comparingCodes_249 at h
  refine sx_istore (pc := 249) (lo' := [(4, .int s0), (0, .ref 69)]) dX5_comparingCodes_249 (by decide) rfl ?_
  refine sx_goto (pc := 251) (tgt := 283) dX5_comparingCodes_251 (by decide) ?_
  refine sx_wk (sx_s1 sx_m1 (sx_s1 sx_m0 sx_s0)) ?_
  exact tB_X5_comparingCodes_283 hG hP  h
def B_X5_comparingCodes_248   (V : sv_V) : Option sv_V := B_X5_comparingCodes_249  (0 : Int32) V
set_option maxRecDepth 20000 in
theorem tB_X5_comparingCodes_248 {g : sx_G} (hG : sx_Go g) {P : Option Value → sv_V → Prop} {Vr : sv_V} (hP : P none Vr)    {V : sv_V} (h : B_X5_comparingCodes_248   V = some Vr) : sv_N g qX5_comparingCodes 2 248 [(0, .ref 69)] [] V P := by
  unfold B_X5_comparingCodes_248 at h
  refine sx_iconst (pc := 248) (v := 0) dX5_comparingCodes_248 (by decide) ?_
  refine sx_wk (sx_s1 sx_m0 sx_s0) ?_
  exact tB_X5_comparingCodes_249 hG hP  h
def B_X5_comparingCodes_267  (s0 : Int32) (V : sv_V) : Option sv_V := B_X5_comparingCodes_283  s0 V
set_option maxRecDepth 20000 in
theorem tB_X5_comparingCodes_267 {g : sx_G} (hG : sx_Go g) {P : Option Value → sv_V → Prop} {Vr : sv_V} (hP : P none Vr)   {s0 : Int32} {V : sv_V} (h : B_X5_comparingCodes_267  s0 V = some Vr) : sv_N g qX5_comparingCodes 2 267 [(0, .ref 69)] [.int s0] V P := by
  unfold B_X5_comparingCodes_267 at h
  refine sx_istore (pc := 267) (lo' := [(4, .int s0), (0, .ref 69)]) dX5_comparingCodes_267 (by decide) rfl ?_
  refine sx_goto (pc := 269) (tgt := 283) dX5_comparingCodes_269 (by decide) ?_
  refine sx_wk (sx_s1 sx_m1 (sx_s1 sx_m0 sx_s0)) ?_
  exact tB_X5_comparingCodes_283 hG hP  h
def B_X5_comparingCodes_262   (V : sv_V) : Option sv_V := B_X5_comparingCodes_267  (1 : Int32) V
set_option maxRecDepth 20000 in
theorem tB_X5_comparingCodes_262 {g : sx_G} (hG : sx_Go g) {P : Option Value → sv_V → Prop} {Vr : sv_V} (hP : P none Vr)    {V : sv_V} (h : B_X5_comparingCodes_262   V = some Vr) : sv_N g qX5_comparingCodes 2 262 [(0, .ref 69)] [] V P := by
  unfold B_X5_comparingCodes_262 at h
  refine sx_iconst (pc := 262) (v := 1) dX5_comparingCodes_262 (by decide) ?_
  refine sx_goto (pc := 263) (tgt := 267) dX5_comparingCodes_263 (by decide) ?_
  refine sx_wk (sx_s1 sx_m0 sx_s0) ?_
  exact tB_X5_comparingCodes_267 hG hP  h
def B_X5_comparingCodes_281  (s0 : Int32) (V : sv_V) : Option sv_V := B_X5_comparingCodes_283  s0 V
set_option maxRecDepth 20000 in
theorem tB_X5_comparingCodes_281 {g : sx_G} (hG : sx_Go g) {P : Option Value → sv_V → Prop} {Vr : sv_V} (hP : P none Vr)   {s0 : Int32} {V : sv_V} (h : B_X5_comparingCodes_281  s0 V = some Vr) : sv_N g qX5_comparingCodes 2 281 [(0, .ref 69)] [.int s0] V P := by
  unfold B_X5_comparingCodes_281 at h
  refine sx_istore (pc := 281) (lo' := [(4, .int s0), (0, .ref 69)]) dX5_comparingCodes_281 (by decide) rfl ?_
  refine sx_wk (sx_s1 sx_m1 (sx_s1 sx_m0 sx_s0)) ?_
  exact tB_X5_comparingCodes_283 hG hP  h
def B_X5_comparingCodes_272  (l2 : Int32) (V : sv_V) : Option sv_V := if l2 = 0 then (B_X5_comparingCodes_281  (1 : Int32) V) else (B_X5_comparingCodes_281  (0 : Int32) V)
set_option maxRecDepth 20000 in
theorem tB_X5_comparingCodes_272 {g : sx_G} (hG : sx_Go g) {P : Option Value → sv_V → Prop} {Vr : sv_V} (hP : P none Vr)   {l2 : Int32} {V : sv_V} (h : B_X5_comparingCodes_272  l2 V = some Vr) : sv_N g qX5_comparingCodes 2 272 [(0, .ref 69), (2, .int l2)] [] V P := by
  unfold B_X5_comparingCodes_272 at h
  refine sx_iload_n (pc := 272) dX5_comparingCodes_272 sx_m1 ?_
  refine sx_if_ne (pc := 273) (tgt := 280) dX5_comparingCodes_273 (by decide) (fun c4 => ?_) (fun c4 => ?_)
  · have h := sx_neg c4 h
    refine sx_iconst (pc := 280) (v := 0) dX5_comparingCodes_280 (by decide) ?_
    refine sx_wk (sx_s1 sx_m0 sx_s0) ?_
    exact tB_X5_comparingCodes_281 hG hP  h
  · have h := sx_pos c4 h
    refine sx_iconst (pc := 276) (v := 1) dX5_comparingCodes_276 (by decide) ?_
    refine sx_goto (pc := 277) (tgt := 281) dX5_comparingCodes_277 (by decide) ?_
    refine sx_wk (sx_s1 sx_m0 sx_s0) ?_
    exact tB_X5_comparingCodes_281 hG hP  h
def B_X5_comparingCodes_22  (l1 : Int32) (l2 : Int32) (s0 : Int32) (V : sv_V) : Option sv_V := if l1 = 80 then (if l2 ≤ s0 then (B_X5_comparingCodes_98  (0 : Int32) V) else (B_X5_comparingCodes_98  (1 : Int32) V)) else (if l1 = 81 then (if l2 < s0 then (B_X5_comparingCodes_113  (0 : Int32) V) else (B_X5_comparingCodes_113  (1 : Int32) V)) else (if l1 = 82 then (if s0 ≤ l2 then (B_X5_comparingCodes_128  (0 : Int32) V) else (B_X5_comparingCodes_128  (1 : Int32) V)) else (if l1 = 83 then (if s0 < l2 then (B_X5_comparingCodes_143  (0 : Int32) V) else (B_X5_comparingCodes_143  (1 : Int32) V)) else (if l1 = 84 then (if s0 = l2 then (B_X5_comparingCodes_158  (1 : Int32) V) else (B_X5_comparingCodes_158  (0 : Int32) V)) else (if l1 = 85 then (if s0 = l2 then (B_X5_comparingCodes_173  (0 : Int32) V) else (B_X5_comparingCodes_173  (1 : Int32) V)) else (if l1 = 86 then ((F_X9_rounded l2.toInt64 V).bind (fun (x20, V18) => if (lg_cmp (x20 &&& (127 : Int64)) (64 : Int64)) = 0 then (B_X5_comparingCodes_203  (1 : Int32) V18) else (B_X5_comparingCodes_203  (0 : Int32) V18))) else (if l1 = 87 then ((F_X9_rounded l2.toInt64 V).bind (fun (x25, V23) => if (lg_cmp (x25 &&& (127 : Int64)) (0 : Int64)) = 0 then (B_X5_comparingCodes_231  (1 : Int32) V23) else (B_X5_comparingCodes_231  (0 : Int32) V23))) else (if l1 = 88 then (B_X5_comparingCodes_272  l2 V) else (if l1 = 89 then (B_X5_comparingCodes_272  l2 V) else (if l1 = 90 then (if s0 = 0 then (B_X5_comparingCodes_248   V) else (if l2 = 0 then (B_X5_comparingCodes_248   V) else (B_X5_comparingCodes_249  (1 : Int32) V))) else (if l1 = 91 then (if s0 = 0 then (if l2 = 0 then (B_X5_comparingCodes_267  (0 : Int32) V) else (B_X5_comparingCodes_262   V)) else (B_X5_comparingCodes_262   V)) else (B_X5_comparingCodes_272  l2 V))))))))))))
set_option maxRecDepth 20000 in
theorem tB_X5_comparingCodes_22 {g : sx_G} (hG : sx_Go g) {P : Option Value → sv_V → Prop} {Vr : sv_V} (hP : P none Vr)   {l1 : Int32} {l2 : Int32} {s0 : Int32} {V : sv_V} (h : B_X5_comparingCodes_22  l1 l2 s0 V = some Vr) : sv_N g qX5_comparingCodes 2 22 [(0, .ref 69), (1, .int l1), (2, .int l2)] [.int s0] V P := by
  unfold B_X5_comparingCodes_22 at h
  refine sx_istore_n (pc := 22) (lo' := [(3, .int s0), (0, .ref 69), (1, .int l1), (2, .int l2)]) dX5_comparingCodes_22 (by decide) rfl ?_
  refine sx_iload_n (pc := 23) dX5_comparingCodes_23 sx_m2 ?_
  by_cases c5 : l1 = 80
  · have h := sx_pos c5 h
    refine sx_tabI (pc := 24) (off := 64) (tgt := 88) dX5_comparingCodes_24 (by rw [c5]; decide) (by rw [c5]; decide) (by rw [c5]; rfl) (by decide) ?_
    refine sx_iload_n (pc := 88) dX5_comparingCodes_88 sx_m0 ?_
    refine sx_iload_n (pc := 89) dX5_comparingCodes_89 sx_m3 ?_
    refine sx_icmp_ge (pc := 90) (tgt := 97) dX5_comparingCodes_90 (by decide) (fun c6 => ?_) (fun c6 => ?_)
    · have h := sx_pos c6 h
      refine sx_iconst (pc := 97) (v := 0) dX5_comparingCodes_97 (by decide) ?_
      refine sx_wk (sx_s1 sx_m1 sx_s0) ?_
      exact tB_X5_comparingCodes_98 hG hP  h
    · have h := sx_neg c6 h
      refine sx_iconst (pc := 93) (v := 1) dX5_comparingCodes_93 (by decide) ?_
      refine sx_goto (pc := 94) (tgt := 98) dX5_comparingCodes_94 (by decide) ?_
      refine sx_wk (sx_s1 sx_m1 sx_s0) ?_
      exact tB_X5_comparingCodes_98 hG hP  h
  have h := sx_neg c5 h
  by_cases c7 : l1 = 81
  · have h := sx_pos c7 h
    refine sx_tabI (pc := 24) (off := 79) (tgt := 103) dX5_comparingCodes_24 (by rw [c7]; decide) (by rw [c7]; decide) (by rw [c7]; rfl) (by decide) ?_
    refine sx_iload_n (pc := 103) dX5_comparingCodes_103 sx_m0 ?_
    refine sx_iload_n (pc := 104) dX5_comparingCodes_104 sx_m3 ?_
    refine sx_icmp_gt (pc := 105) (tgt := 112) dX5_comparingCodes_105 (by decide) (fun c8 => ?_) (fun c8 => ?_)
    · have h := sx_pos c8 h
      refine sx_iconst (pc := 112) (v := 0) dX5_comparingCodes_112 (by decide) ?_
      refine sx_wk (sx_s1 sx_m1 sx_s0) ?_
      exact tB_X5_comparingCodes_113 hG hP  h
    · have h := sx_neg c8 h
      refine sx_iconst (pc := 108) (v := 1) dX5_comparingCodes_108 (by decide) ?_
      refine sx_goto (pc := 109) (tgt := 113) dX5_comparingCodes_109 (by decide) ?_
      refine sx_wk (sx_s1 sx_m1 sx_s0) ?_
      exact tB_X5_comparingCodes_113 hG hP  h
  have h := sx_neg c7 h
  by_cases c9 : l1 = 82
  · have h := sx_pos c9 h
    refine sx_tabI (pc := 24) (off := 94) (tgt := 118) dX5_comparingCodes_24 (by rw [c9]; decide) (by rw [c9]; decide) (by rw [c9]; rfl) (by decide) ?_
    refine sx_iload_n (pc := 118) dX5_comparingCodes_118 sx_m0 ?_
    refine sx_iload_n (pc := 119) dX5_comparingCodes_119 sx_m3 ?_
    refine sx_icmp_le (pc := 120) (tgt := 127) dX5_comparingCodes_120 (by decide) (fun c10 => ?_) (fun c10 => ?_)
    · have h := sx_pos c10 h
      refine sx_iconst (pc := 127) (v := 0) dX5_comparingCodes_127 (by decide) ?_
      refine sx_wk (sx_s1 sx_m1 sx_s0) ?_
      exact tB_X5_comparingCodes_128 hG hP  h
    · have h := sx_neg c10 h
      refine sx_iconst (pc := 123) (v := 1) dX5_comparingCodes_123 (by decide) ?_
      refine sx_goto (pc := 124) (tgt := 128) dX5_comparingCodes_124 (by decide) ?_
      refine sx_wk (sx_s1 sx_m1 sx_s0) ?_
      exact tB_X5_comparingCodes_128 hG hP  h
  have h := sx_neg c9 h
  by_cases c11 : l1 = 83
  · have h := sx_pos c11 h
    refine sx_tabI (pc := 24) (off := 109) (tgt := 133) dX5_comparingCodes_24 (by rw [c11]; decide) (by rw [c11]; decide) (by rw [c11]; rfl) (by decide) ?_
    refine sx_iload_n (pc := 133) dX5_comparingCodes_133 sx_m0 ?_
    refine sx_iload_n (pc := 134) dX5_comparingCodes_134 sx_m3 ?_
    refine sx_icmp_lt (pc := 135) (tgt := 142) dX5_comparingCodes_135 (by decide) (fun c12 => ?_) (fun c12 => ?_)
    · have h := sx_pos c12 h
      refine sx_iconst (pc := 142) (v := 0) dX5_comparingCodes_142 (by decide) ?_
      refine sx_wk (sx_s1 sx_m1 sx_s0) ?_
      exact tB_X5_comparingCodes_143 hG hP  h
    · have h := sx_neg c12 h
      refine sx_iconst (pc := 138) (v := 1) dX5_comparingCodes_138 (by decide) ?_
      refine sx_goto (pc := 139) (tgt := 143) dX5_comparingCodes_139 (by decide) ?_
      refine sx_wk (sx_s1 sx_m1 sx_s0) ?_
      exact tB_X5_comparingCodes_143 hG hP  h
  have h := sx_neg c11 h
  by_cases c13 : l1 = 84
  · have h := sx_pos c13 h
    refine sx_tabI (pc := 24) (off := 124) (tgt := 148) dX5_comparingCodes_24 (by rw [c13]; decide) (by rw [c13]; decide) (by rw [c13]; rfl) (by decide) ?_
    refine sx_iload_n (pc := 148) dX5_comparingCodes_148 sx_m0 ?_
    refine sx_iload_n (pc := 149) dX5_comparingCodes_149 sx_m3 ?_
    refine sx_icmp_ne (pc := 150) (tgt := 157) dX5_comparingCodes_150 (by decide) (fun c14 => ?_) (fun c14 => ?_)
    · have h := sx_neg c14 h
      refine sx_iconst (pc := 157) (v := 0) dX5_comparingCodes_157 (by decide) ?_
      refine sx_wk (sx_s1 sx_m1 sx_s0) ?_
      exact tB_X5_comparingCodes_158 hG hP  h
    · have h := sx_pos c14 h
      refine sx_iconst (pc := 153) (v := 1) dX5_comparingCodes_153 (by decide) ?_
      refine sx_goto (pc := 154) (tgt := 158) dX5_comparingCodes_154 (by decide) ?_
      refine sx_wk (sx_s1 sx_m1 sx_s0) ?_
      exact tB_X5_comparingCodes_158 hG hP  h
  have h := sx_neg c13 h
  by_cases c15 : l1 = 85
  · have h := sx_pos c15 h
    refine sx_tabI (pc := 24) (off := 139) (tgt := 163) dX5_comparingCodes_24 (by rw [c15]; decide) (by rw [c15]; decide) (by rw [c15]; rfl) (by decide) ?_
    refine sx_iload_n (pc := 163) dX5_comparingCodes_163 sx_m0 ?_
    refine sx_iload_n (pc := 164) dX5_comparingCodes_164 sx_m3 ?_
    refine sx_icmp_eq (pc := 165) (tgt := 172) dX5_comparingCodes_165 (by decide) (fun c16 => ?_) (fun c16 => ?_)
    · have h := sx_pos c16 h
      refine sx_iconst (pc := 172) (v := 0) dX5_comparingCodes_172 (by decide) ?_
      refine sx_wk (sx_s1 sx_m1 sx_s0) ?_
      exact tB_X5_comparingCodes_173 hG hP  h
    · have h := sx_neg c16 h
      refine sx_iconst (pc := 168) (v := 1) dX5_comparingCodes_168 (by decide) ?_
      refine sx_goto (pc := 169) (tgt := 173) dX5_comparingCodes_169 (by decide) ?_
      refine sx_wk (sx_s1 sx_m1 sx_s0) ?_
      exact tB_X5_comparingCodes_173 hG hP  h
  have h := sx_neg c15 h
  by_cases c17 : l1 = 86
  · have h := sx_pos c17 h
    refine sx_tabI (pc := 24) (off := 154) (tgt := 178) dX5_comparingCodes_24 (by rw [c17]; decide) (by rw [c17]; decide) (by rw [c17]; rfl) (by decide) ?_
    refine sx_aload_n (pc := 178) dX5_comparingCodes_178 sx_m1 ?_
    refine sv_getO (pc := 179) hG dX5_comparingCodes_179 f_5_12 lay_69 rfl cr_69_1 ?_
    refine sx_iload_n (pc := 182) dX5_comparingCodes_182 sx_m3 ?_
    refine sx_i2l (pc := 183) dX5_comparingCodes_183 ?_
    obtain ⟨⟨x20, V18⟩, g19, h⟩ := sx_bnd h
    refine sv_cV (pc := 184) (y := qX9_rounded) (o := (some (.long x20))) (as := [.long l2.toInt64]) (V1 := V18) hG dX5_comparingCodes_184 l_X5_414 y0X9_rounded yvX9_rounded rfl (Nat.le_of_ble_eq_true rfl) lay_70 kr_9 (by decide) (Nat.le_of_ble_eq_true rfl) rfl rfl rfl (t_X9_rounded hG ⟨rfl, rfl⟩ g19) ?_
    refine sx_ldc2 (pc := 187) dX5_comparingCodes_187 k_X5_417 ?_
    refine sx_land (pc := 190) dX5_comparingCodes_190 ?_
    refine sx_ldc2 (pc := 191) dX5_comparingCodes_191 k_X5_68 ?_
    refine sx_lcmp (pc := 194) dX5_comparingCodes_194 ?_
    refine sx_if_ne (pc := 195) (tgt := 202) dX5_comparingCodes_195 (by decide) (fun c21 => ?_) (fun c21 => ?_)
    · have h := sx_neg c21 h
      refine sx_iconst (pc := 202) (v := 0) dX5_comparingCodes_202 (by decide) ?_
      refine sx_wk (sx_s1 sx_m1 sx_s0) ?_
      exact tB_X5_comparingCodes_203 hG hP  h
    · have h := sx_pos c21 h
      refine sx_iconst (pc := 198) (v := 1) dX5_comparingCodes_198 (by decide) ?_
      refine sx_goto (pc := 199) (tgt := 203) dX5_comparingCodes_199 (by decide) ?_
      refine sx_wk (sx_s1 sx_m1 sx_s0) ?_
      exact tB_X5_comparingCodes_203 hG hP  h
  have h := sx_neg c17 h
  by_cases c22 : l1 = 87
  · have h := sx_pos c22 h
    refine sx_tabI (pc := 24) (off := 184) (tgt := 208) dX5_comparingCodes_24 (by rw [c22]; decide) (by rw [c22]; decide) (by rw [c22]; rfl) (by decide) ?_
    refine sx_aload_n (pc := 208) dX5_comparingCodes_208 sx_m1 ?_
    refine sv_getO (pc := 209) hG dX5_comparingCodes_209 f_5_12 lay_69 rfl cr_69_1 ?_
    refine sx_iload_n (pc := 212) dX5_comparingCodes_212 sx_m3 ?_
    refine sx_i2l (pc := 213) dX5_comparingCodes_213 ?_
    obtain ⟨⟨x25, V23⟩, g24, h⟩ := sx_bnd h
    refine sv_cV (pc := 214) (y := qX9_rounded) (o := (some (.long x25))) (as := [.long l2.toInt64]) (V1 := V23) hG dX5_comparingCodes_214 l_X5_414 y0X9_rounded yvX9_rounded rfl (Nat.le_of_ble_eq_true rfl) lay_70 kr_9 (by decide) (Nat.le_of_ble_eq_true rfl) rfl rfl rfl (t_X9_rounded hG ⟨rfl, rfl⟩ g24) ?_
    refine sx_ldc2 (pc := 217) dX5_comparingCodes_217 k_X5_417 ?_
    refine sx_land (pc := 220) dX5_comparingCodes_220 ?_
    refine sx_lconst (pc := 221) (v := 0) dX5_comparingCodes_221 rfl ?_
    refine sx_lcmp (pc := 222) dX5_comparingCodes_222 ?_
    refine sx_if_ne (pc := 223) (tgt := 230) dX5_comparingCodes_223 (by decide) (fun c26 => ?_) (fun c26 => ?_)
    · have h := sx_neg c26 h
      refine sx_iconst (pc := 230) (v := 0) dX5_comparingCodes_230 (by decide) ?_
      refine sx_wk (sx_s1 sx_m1 sx_s0) ?_
      exact tB_X5_comparingCodes_231 hG hP  h
    · have h := sx_pos c26 h
      refine sx_iconst (pc := 226) (v := 1) dX5_comparingCodes_226 (by decide) ?_
      refine sx_goto (pc := 227) (tgt := 231) dX5_comparingCodes_227 (by decide) ?_
      refine sx_wk (sx_s1 sx_m1 sx_s0) ?_
      exact tB_X5_comparingCodes_231 hG hP  h
  have h := sx_neg c22 h
  by_cases c27 : l1 = 88
  · have h := sx_pos c27 h
    refine sx_tabI (pc := 24) (off := 248) (tgt := 272) dX5_comparingCodes_24 (by rw [c27]; decide) (by rw [c27]; decide) (by rw [c27]; rfl) (by decide) ?_
    refine sx_wk (sx_s1 sx_m1 (sx_s1 sx_m3 sx_s0)) ?_
    exact tB_X5_comparingCodes_272 hG hP  h
  have h := sx_neg c27 h
  by_cases c28 : l1 = 89
  · have h := sx_pos c28 h
    refine sx_tabI (pc := 24) (off := 248) (tgt := 272) dX5_comparingCodes_24 (by rw [c28]; decide) (by rw [c28]; decide) (by rw [c28]; rfl) (by decide) ?_
    refine sx_wk (sx_s1 sx_m1 (sx_s1 sx_m3 sx_s0)) ?_
    exact tB_X5_comparingCodes_272 hG hP  h
  have h := sx_neg c28 h
  by_cases c29 : l1 = 90
  · have h := sx_pos c29 h
    refine sx_tabI (pc := 24) (off := 212) (tgt := 236) dX5_comparingCodes_24 (by rw [c29]; decide) (by rw [c29]; decide) (by rw [c29]; rfl) (by decide) ?_
    refine sx_iload_n (pc := 236) dX5_comparingCodes_236 sx_m0 ?_
    refine sx_if_eq (pc := 237) (tgt := 248) dX5_comparingCodes_237 (by decide) (fun c30 => ?_) (fun c30 => ?_)
    · have h := sx_pos c30 h
      refine sx_wk (sx_s1 sx_m1 sx_s0) ?_
      exact tB_X5_comparingCodes_248 hG hP  h
    · have h := sx_neg c30 h
      refine sx_iload_n (pc := 240) dX5_comparingCodes_240 sx_m3 ?_
      refine sx_if_eq (pc := 241) (tgt := 248) dX5_comparingCodes_241 (by decide) (fun c31 => ?_) (fun c31 => ?_)
      · have h := sx_pos c31 h
        refine sx_wk (sx_s1 sx_m1 sx_s0) ?_
        exact tB_X5_comparingCodes_248 hG hP  h
      · have h := sx_neg c31 h
        refine sx_iconst (pc := 244) (v := 1) dX5_comparingCodes_244 (by decide) ?_
        refine sx_goto (pc := 245) (tgt := 249) dX5_comparingCodes_245 (by decide) ?_
        refine sx_wk (sx_s1 sx_m1 sx_s0) ?_
        exact tB_X5_comparingCodes_249 hG hP  h
  have h := sx_neg c29 h
  by_cases c32 : l1 = 91
  · have h := sx_pos c32 h
    refine sx_tabI (pc := 24) (off := 230) (tgt := 254) dX5_comparingCodes_24 (by rw [c32]; decide) (by rw [c32]; decide) (by rw [c32]; rfl) (by decide) ?_
    refine sx_iload_n (pc := 254) dX5_comparingCodes_254 sx_m0 ?_
    refine sx_if_ne (pc := 255) (tgt := 262) dX5_comparingCodes_255 (by decide) (fun c33 => ?_) (fun c33 => ?_)
    · have h := sx_neg c33 h
      refine sx_wk (sx_s1 sx_m1 sx_s0) ?_
      exact tB_X5_comparingCodes_262 hG hP  h
    · have h := sx_pos c33 h
      refine sx_iload_n (pc := 258) dX5_comparingCodes_258 sx_m3 ?_
      refine sx_if_eq (pc := 259) (tgt := 266) dX5_comparingCodes_259 (by decide) (fun c34 => ?_) (fun c34 => ?_)
      · have h := sx_pos c34 h
        refine sx_iconst (pc := 266) (v := 0) dX5_comparingCodes_266 (by decide) ?_
        refine sx_wk (sx_s1 sx_m1 sx_s0) ?_
        exact tB_X5_comparingCodes_267 hG hP  h
      · have h := sx_neg c34 h
        refine sx_wk (sx_s1 sx_m1 sx_s0) ?_
        exact tB_X5_comparingCodes_262 hG hP  h
  have h := sx_neg c32 h
  refine sx_tabO (pc := 24) (tgt := 272) dX5_comparingCodes_24 (by have ec5 := lv_neT (a := 80) c5 rfl; have ec7 := lv_neT (a := 81) c7 rfl; have ec9 := lv_neT (a := 82) c9 rfl; have ec11 := lv_neT (a := 83) c11 rfl; have ec13 := lv_neT (a := 84) c13 rfl; have ec15 := lv_neT (a := 85) c15 rfl; have ec17 := lv_neT (a := 86) c17 rfl; have ec22 := lv_neT (a := 87) c22 rfl; have ec27 := lv_neT (a := 88) c27 rfl; have ec28 := lv_neT (a := 89) c28 rfl; have ec29 := lv_neT (a := 90) c29 rfl; have ec32 := lv_neT (a := 91) c32 rfl; omega) (by decide) ?_
  refine sx_wk (sx_s1 sx_m1 (sx_s1 sx_m3 sx_s0)) ?_
  exact tB_X5_comparingCodes_272 hG hP  h
def F_X5_comparingCodes (l1 : Int32) (V : sv_V) : Option sv_V := (F_X5_pop  V).bind (fun (x37, V35) => if sx_in l1 256 = true then if (V35.1 1006 l1.toNatClampNeg) = (2 : Int32) then ((F_X5_pop  V35).bind (fun (x42, V40) => B_X5_comparingCodes_22  l1 x37 x42 V40)) else (B_X5_comparingCodes_22  l1 x37 (0 : Int32) V35) else none)
set_option maxRecDepth 20000 in
theorem t_X5_comparingCodes {g : sx_G} (hG : sx_Go g) {P : Option Value → sv_V → Prop} {Vr : sv_V} (hP : P none Vr) {l1 : Int32} {V : sv_V} (h : F_X5_comparingCodes l1 V = some Vr) : sv_N g qX5_comparingCodes 2 0 [(0, .ref 69), (1, .int l1)] [] V P := by
  unfold F_X5_comparingCodes at h
  refine sx_aload_n (pc := 0) dX5_comparingCodes_0 sx_m0 ?_
  obtain ⟨⟨x37, V35⟩, g36, h⟩ := sx_bnd h
  refine sv_cV (pc := 1) (y := qX5_pop) (o := (some (.int x37))) (as := []) (V1 := V35) hG dX5_comparingCodes_1 l_X5_242 y0X5_pop yvX5_pop rfl (Nat.le_of_ble_eq_true rfl) lay_69 kr_5 (by decide) (Nat.le_of_ble_eq_true rfl) rfl rfl rfl (t_X5_pop hG ⟨rfl, rfl⟩ g36) ?_
  refine sx_istore_n (pc := 4) (lo' := [(2, .int x37), (0, .ref 69), (1, .int l1)]) dX5_comparingCodes_4 (by decide) rfl ?_
  refine sv_getS (pc := 5) (j := 5) dX5_comparingCodes_5 rfl n_X5_160 ?_
  refine sx_iload_n (pc := 8) dX5_comparingCodes_8 sx_m2 ?_
  obtain ⟨g38, h⟩ := sx_grd h
  refine sv_xld (pc := 9) hG dX5_comparingCodes_9 lay_1006 g38 ?_
  refine sx_iconst (pc := 10) (v := 2) dX5_comparingCodes_10 (by decide) ?_
  refine sx_icmp_ne (pc := 11) (tgt := 21) dX5_comparingCodes_11 (by decide) (fun c39 => ?_) (fun c39 => ?_)
  · have h := sx_neg c39 h
    refine sx_iconst (pc := 21) (v := 0) dX5_comparingCodes_21 (by decide) ?_
    refine sx_wk (sx_s1 sx_m1 (sx_s1 sx_m2 (sx_s1 sx_m0 sx_s0))) ?_
    exact tB_X5_comparingCodes_22 hG hP  h
  · have h := sx_pos c39 h
    refine sx_aload_n (pc := 14) dX5_comparingCodes_14 sx_m1 ?_
    obtain ⟨⟨x42, V40⟩, g41, h⟩ := sx_bnd h
    refine sv_cV (pc := 15) (y := qX5_pop) (o := (some (.int x42))) (as := []) (V1 := V40) hG dX5_comparingCodes_15 l_X5_242 y0X5_pop yvX5_pop rfl (Nat.le_of_ble_eq_true rfl) lay_69 kr_5 (by decide) (Nat.le_of_ble_eq_true rfl) rfl rfl rfl (t_X5_pop hG ⟨rfl, rfl⟩ g41) ?_
    refine sx_goto (pc := 18) (tgt := 22) dX5_comparingCodes_18 (by decide) ?_
    refine sx_wk (sx_s1 sx_m1 (sx_s1 sx_m2 (sx_s1 sx_m0 sx_s0))) ?_
    exact tB_X5_comparingCodes_22 hG hP  h
theorem dX5_reckoningCodes_0 : decode cX5_reckoningCodes 0 = .ok (.aload_n 0, 1) := by decide +kernel
theorem dX5_reckoningCodes_1 : decode cX5_reckoningCodes 1 = .ok (.invokevirtual 242, 3) := by decide +kernel
theorem dX5_reckoningCodes_4 : decode cX5_reckoningCodes 4 = .ok (.i2l, 1) := by decide +kernel
theorem dX5_reckoningCodes_5 : decode cX5_reckoningCodes 5 = .ok (.lstore_n 2, 1) := by decide +kernel
theorem dX5_reckoningCodes_6 : decode cX5_reckoningCodes 6 = .ok (.getstatic 160, 3) := by decide +kernel
theorem dX5_reckoningCodes_9 : decode cX5_reckoningCodes 9 = .ok (.iload_n 1, 1) := by decide +kernel
theorem dX5_reckoningCodes_10 : decode cX5_reckoningCodes 10 = .ok (.iaload, 1) := by decide +kernel
theorem dX5_reckoningCodes_11 : decode cX5_reckoningCodes 11 = .ok (.iconst 2, 1) := by decide +kernel
theorem dX5_reckoningCodes_12 : decode cX5_reckoningCodes 12 = .ok (.if_icmp .ne 11, 3) := by decide +kernel
theorem dX5_reckoningCodes_15 : decode cX5_reckoningCodes 15 = .ok (.aload_n 0, 1) := by decide +kernel
theorem dX5_reckoningCodes_16 : decode cX5_reckoningCodes 16 = .ok (.invokevirtual 242, 3) := by decide +kernel
theorem dX5_reckoningCodes_19 : decode cX5_reckoningCodes 19 = .ok (.i2l, 1) := by decide +kernel
theorem dX5_reckoningCodes_20 : decode cX5_reckoningCodes 20 = .ok (.goto 4, 3) := by decide +kernel
theorem dX5_reckoningCodes_23 : decode cX5_reckoningCodes 23 = .ok (.lconst 0, 1) := by decide +kernel
theorem dX5_reckoningCodes_24 : decode cX5_reckoningCodes 24 = .ok (.lstore 4, 2) := by decide +kernel
theorem dX5_reckoningCodes_26 : decode cX5_reckoningCodes 26 = .ok (.iload_n 1, 1) := by decide +kernel
theorem dX5_reckoningCodes_27 : decode cX5_reckoningCodes 27 = .ok (.tableswitch 345 96 140 #[193, 202, 211, 237, 252, 269, 276, 292, 310, 310, 310, 310, 345, 345, 345, 345, 345, 345, 345, 345, 345, 345, 345, 345, 345, 345, 345, 345, 345, 345, 345, 345, 345, 345, 345, 345, 345, 345, 345, 345, 345, 345, 345, 323, 334], 193) := by decide +kernel
theorem dX5_reckoningCodes_220 : decode cX5_reckoningCodes 220 = .ok (.aload_n 0, 1) := by decide +kernel
theorem dX5_reckoningCodes_221 : decode cX5_reckoningCodes 221 = .ok (.lload 4, 2) := by decide +kernel
theorem dX5_reckoningCodes_223 : decode cX5_reckoningCodes 223 = .ok (.lload_n 2, 1) := by decide +kernel
theorem dX5_reckoningCodes_224 : decode cX5_reckoningCodes 224 = .ok (.ladd, 1) := by decide +kernel
theorem dX5_reckoningCodes_225 : decode cX5_reckoningCodes 225 = .ok (.invokevirtual 232, 3) := by decide +kernel
theorem dX5_reckoningCodes_228 : decode cX5_reckoningCodes 228 = .ok (.return_, 1) := by decide +kernel
theorem dX5_reckoningCodes_229 : decode cX5_reckoningCodes 229 = .ok (.aload_n 0, 1) := by decide +kernel
theorem dX5_reckoningCodes_230 : decode cX5_reckoningCodes 230 = .ok (.lload 4, 2) := by decide +kernel
theorem dX5_reckoningCodes_232 : decode cX5_reckoningCodes 232 = .ok (.lload_n 2, 1) := by decide +kernel
theorem dX5_reckoningCodes_233 : decode cX5_reckoningCodes 233 = .ok (.lsub, 1) := by decide +kernel
theorem dX5_reckoningCodes_234 : decode cX5_reckoningCodes 234 = .ok (.invokevirtual 232, 3) := by decide +kernel
theorem dX5_reckoningCodes_237 : decode cX5_reckoningCodes 237 = .ok (.return_, 1) := by decide +kernel
theorem dX5_reckoningCodes_238 : decode cX5_reckoningCodes 238 = .ok (.lload_n 2, 1) := by decide +kernel
theorem dX5_reckoningCodes_239 : decode cX5_reckoningCodes 239 = .ok (.lconst 0, 1) := by decide +kernel
theorem dX5_reckoningCodes_240 : decode cX5_reckoningCodes 240 = .ok (.lcmp, 1) := by decide +kernel
theorem dX5_reckoningCodes_241 : decode cX5_reckoningCodes 241 = .ok (.ifCond .ne 10, 3) := by decide +kernel
theorem dX5_reckoningCodes_244 : decode cX5_reckoningCodes 244 = .ok (.aload_n 0, 1) := by decide +kernel
theorem dX5_reckoningCodes_245 : decode cX5_reckoningCodes 245 = .ok (.bipush 7, 2) := by decide +kernel
theorem dX5_reckoningCodes_247 : decode cX5_reckoningCodes 247 = .ok (.putfield 56, 3) := by decide +kernel
theorem dX5_reckoningCodes_250 : decode cX5_reckoningCodes 250 = .ok (.return_, 1) := by decide +kernel
theorem dX5_reckoningCodes_251 : decode cX5_reckoningCodes 251 = .ok (.aload_n 0, 1) := by decide +kernel
theorem dX5_reckoningCodes_252 : decode cX5_reckoningCodes 252 = .ok (.lload 4, 2) := by decide +kernel
theorem dX5_reckoningCodes_254 : decode cX5_reckoningCodes 254 = .ok (.ldc2_w 68, 3) := by decide +kernel
theorem dX5_reckoningCodes_257 : decode cX5_reckoningCodes 257 = .ok (.lmul, 1) := by decide +kernel
theorem dX5_reckoningCodes_258 : decode cX5_reckoningCodes 258 = .ok (.lload_n 2, 1) := by decide +kernel
theorem dX5_reckoningCodes_259 : decode cX5_reckoningCodes 259 = .ok (.ldiv, 1) := by decide +kernel
theorem dX5_reckoningCodes_260 : decode cX5_reckoningCodes 260 = .ok (.invokevirtual 232, 3) := by decide +kernel
theorem dX5_reckoningCodes_263 : decode cX5_reckoningCodes 263 = .ok (.return_, 1) := by decide +kernel
theorem dX5_reckoningCodes_264 : decode cX5_reckoningCodes 264 = .ok (.aload_n 0, 1) := by decide +kernel
theorem dX5_reckoningCodes_265 : decode cX5_reckoningCodes 265 = .ok (.lload 4, 2) := by decide +kernel
theorem dX5_reckoningCodes_267 : decode cX5_reckoningCodes 267 = .ok (.lload_n 2, 1) := by decide +kernel
theorem dX5_reckoningCodes_268 : decode cX5_reckoningCodes 268 = .ok (.lmul, 1) := by decide +kernel
theorem dX5_reckoningCodes_269 : decode cX5_reckoningCodes 269 = .ok (.ldc2_w 68, 3) := by decide +kernel
theorem dX5_reckoningCodes_272 : decode cX5_reckoningCodes 272 = .ok (.invokestatic 75, 3) := by decide +kernel
theorem dX5_reckoningCodes_275 : decode cX5_reckoningCodes 275 = .ok (.invokevirtual 232, 3) := by decide +kernel
theorem dX5_reckoningCodes_278 : decode cX5_reckoningCodes 278 = .ok (.return_, 1) := by decide +kernel
theorem dX5_reckoningCodes_279 : decode cX5_reckoningCodes 279 = .ok (.aload_n 0, 1) := by decide +kernel
theorem dX5_reckoningCodes_280 : decode cX5_reckoningCodes 280 = .ok (.lload_n 2, 1) := by decide +kernel
theorem dX5_reckoningCodes_281 : decode cX5_reckoningCodes 281 = .ok (.lconst 0, 1) := by decide +kernel
theorem dX5_reckoningCodes_282 : decode cX5_reckoningCodes 282 = .ok (.lcmp, 1) := by decide +kernel
theorem dX5_reckoningCodes_283 : decode cX5_reckoningCodes 283 = .ok (.ifCond .ge 8, 3) := by decide +kernel
theorem dX5_reckoningCodes_286 : decode cX5_reckoningCodes 286 = .ok (.lload_n 2, 1) := by decide +kernel
theorem dX5_reckoningCodes_287 : decode cX5_reckoningCodes 287 = .ok (.lneg, 1) := by decide +kernel
theorem dX5_reckoningCodes_288 : decode cX5_reckoningCodes 288 = .ok (.goto 4, 3) := by decide +kernel
theorem dX5_reckoningCodes_291 : decode cX5_reckoningCodes 291 = .ok (.lload_n 2, 1) := by decide +kernel
theorem dX5_reckoningCodes_292 : decode cX5_reckoningCodes 292 = .ok (.invokevirtual 232, 3) := by decide +kernel
theorem dX5_reckoningCodes_295 : decode cX5_reckoningCodes 295 = .ok (.return_, 1) := by decide +kernel
theorem dX5_reckoningCodes_296 : decode cX5_reckoningCodes 296 = .ok (.aload_n 0, 1) := by decide +kernel
theorem dX5_reckoningCodes_297 : decode cX5_reckoningCodes 297 = .ok (.lload_n 2, 1) := by decide +kernel
theorem dX5_reckoningCodes_298 : decode cX5_reckoningCodes 298 = .ok (.lneg, 1) := by decide +kernel
theorem dX5_reckoningCodes_299 : decode cX5_reckoningCodes 299 = .ok (.invokevirtual 232, 3) := by decide +kernel
theorem dX5_reckoningCodes_302 : decode cX5_reckoningCodes 302 = .ok (.return_, 1) := by decide +kernel
theorem dX5_reckoningCodes_303 : decode cX5_reckoningCodes 303 = .ok (.aload_n 0, 1) := by decide +kernel
theorem dX5_reckoningCodes_304 : decode cX5_reckoningCodes 304 = .ok (.lload_n 2, 1) := by decide +kernel
theorem dX5_reckoningCodes_305 : decode cX5_reckoningCodes 305 = .ok (.ldc2_w 68, 3) := by decide +kernel
theorem dX5_reckoningCodes_308 : decode cX5_reckoningCodes 308 = .ok (.invokestatic 419, 3) := by decide +kernel
theorem dX5_reckoningCodes_311 : decode cX5_reckoningCodes 311 = .ok (.ldc2_w 68, 3) := by decide +kernel
theorem dX5_reckoningCodes_314 : decode cX5_reckoningCodes 314 = .ok (.lmul, 1) := by decide +kernel
theorem dX5_reckoningCodes_315 : decode cX5_reckoningCodes 315 = .ok (.invokevirtual 232, 3) := by decide +kernel
theorem dX5_reckoningCodes_318 : decode cX5_reckoningCodes 318 = .ok (.return_, 1) := by decide +kernel
theorem dX5_reckoningCodes_319 : decode cX5_reckoningCodes 319 = .ok (.aload_n 0, 1) := by decide +kernel
theorem dX5_reckoningCodes_320 : decode cX5_reckoningCodes 320 = .ok (.lload_n 2, 1) := by decide +kernel
theorem dX5_reckoningCodes_321 : decode cX5_reckoningCodes 321 = .ok (.lneg, 1) := by decide +kernel
theorem dX5_reckoningCodes_322 : decode cX5_reckoningCodes 322 = .ok (.ldc2_w 68, 3) := by decide +kernel
theorem dX5_reckoningCodes_325 : decode cX5_reckoningCodes 325 = .ok (.invokestatic 419, 3) := by decide +kernel
theorem dX5_reckoningCodes_328 : decode cX5_reckoningCodes 328 = .ok (.lneg, 1) := by decide +kernel
theorem dX5_reckoningCodes_329 : decode cX5_reckoningCodes 329 = .ok (.ldc2_w 68, 3) := by decide +kernel
theorem dX5_reckoningCodes_332 : decode cX5_reckoningCodes 332 = .ok (.lmul, 1) := by decide +kernel
theorem dX5_reckoningCodes_333 : decode cX5_reckoningCodes 333 = .ok (.invokevirtual 232, 3) := by decide +kernel
theorem dX5_reckoningCodes_336 : decode cX5_reckoningCodes 336 = .ok (.return_, 1) := by decide +kernel
theorem dX5_reckoningCodes_337 : decode cX5_reckoningCodes 337 = .ok (.aload_n 0, 1) := by decide +kernel
theorem dX5_reckoningCodes_338 : decode cX5_reckoningCodes 338 = .ok (.aload_n 0, 1) := by decide +kernel
theorem dX5_reckoningCodes_339 : decode cX5_reckoningCodes 339 = .ok (.getfield 12, 3) := by decide +kernel
theorem dX5_reckoningCodes_342 : decode cX5_reckoningCodes 342 = .ok (.lload_n 2, 1) := by decide +kernel
theorem dX5_reckoningCodes_343 : decode cX5_reckoningCodes 343 = .ok (.invokevirtual 414, 3) := by decide +kernel
theorem dX5_reckoningCodes_346 : decode cX5_reckoningCodes 346 = .ok (.invokevirtual 232, 3) := by decide +kernel
theorem dX5_reckoningCodes_349 : decode cX5_reckoningCodes 349 = .ok (.return_, 1) := by decide +kernel
theorem dX5_reckoningCodes_350 : decode cX5_reckoningCodes 350 = .ok (.aload_n 0, 1) := by decide +kernel
theorem dX5_reckoningCodes_351 : decode cX5_reckoningCodes 351 = .ok (.lload 4, 2) := by decide +kernel
theorem dX5_reckoningCodes_353 : decode cX5_reckoningCodes 353 = .ok (.lload_n 2, 1) := by decide +kernel
theorem dX5_reckoningCodes_354 : decode cX5_reckoningCodes 354 = .ok (.invokestatic 424, 3) := by decide +kernel
theorem dX5_reckoningCodes_357 : decode cX5_reckoningCodes 357 = .ok (.invokevirtual 232, 3) := by decide +kernel
theorem dX5_reckoningCodes_360 : decode cX5_reckoningCodes 360 = .ok (.return_, 1) := by decide +kernel
theorem dX5_reckoningCodes_361 : decode cX5_reckoningCodes 361 = .ok (.aload_n 0, 1) := by decide +kernel
theorem dX5_reckoningCodes_362 : decode cX5_reckoningCodes 362 = .ok (.lload 4, 2) := by decide +kernel
theorem dX5_reckoningCodes_364 : decode cX5_reckoningCodes 364 = .ok (.lload_n 2, 1) := by decide +kernel
theorem dX5_reckoningCodes_365 : decode cX5_reckoningCodes 365 = .ok (.invokestatic 427, 3) := by decide +kernel
theorem dX5_reckoningCodes_368 : decode cX5_reckoningCodes 368 = .ok (.invokevirtual 232, 3) := by decide +kernel
theorem dX5_reckoningCodes_371 : decode cX5_reckoningCodes 371 = .ok (.return_, 1) := by decide +kernel
theorem dX5_reckoningCodes_372 : decode cX5_reckoningCodes 372 = .ok (.aload_n 0, 1) := by decide +kernel
theorem dX5_reckoningCodes_373 : decode cX5_reckoningCodes 373 = .ok (.lload_n 2, 1) := by decide +kernel
theorem dX5_reckoningCodes_374 : decode cX5_reckoningCodes 374 = .ok (.invokevirtual 232, 3) := by decide +kernel
theorem dX5_reckoningCodes_377 : decode cX5_reckoningCodes 377 = .ok (.return_, 1) := by decide +kernel
def B_X5_reckoningCodes_292  (s1 : Int64) (V : sv_V) : Option sv_V := (F_X5_push s1 V).bind (fun V1 => some V1)
set_option maxRecDepth 20000 in
theorem tB_X5_reckoningCodes_292 {g : sx_G} (hG : sx_Go g) {P : Option Value → sv_V → Prop} {Vr : sv_V} (hP : P none Vr)   {s1 : Int64} {V : sv_V} (h : B_X5_reckoningCodes_292  s1 V = some Vr) : sv_N g qX5_reckoningCodes 2 292 [] [.long s1, .ref 69] V P := by
  unfold B_X5_reckoningCodes_292 at h
  obtain ⟨V1, g2, h⟩ := sx_bnd h
  refine sv_cV (pc := 292) (y := qX5_push) (o := none) (as := [.long s1]) (V1 := V1) hG dX5_reckoningCodes_292 l_X5_232 y0X5_push yvX5_push rfl (Nat.le_of_ble_eq_true rfl) lay_69 kr_5 (by decide) (Nat.le_of_ble_eq_true rfl) rfl rfl rfl (t_X5_push hG ⟨rfl, rfl⟩ g2) ?_
  exact sv_vret (pc := 295) dX5_reckoningCodes_295 rfl h hP
def B_X5_reckoningCodes_337  (l2 : Int64) (V : sv_V) : Option sv_V := (F_X9_rounded l2 V).bind (fun (x5, V3) => (F_X5_push x5 V3).bind (fun V6 => some V6))
set_option maxRecDepth 20000 in
theorem tB_X5_reckoningCodes_337 {g : sx_G} (hG : sx_Go g) {P : Option Value → sv_V → Prop} {Vr : sv_V} (hP : P none Vr)   {l2 : Int64} {V : sv_V} (h : B_X5_reckoningCodes_337  l2 V = some Vr) : sv_N g qX5_reckoningCodes 2 337 [(0, .ref 69), (2, .long l2)] [] V P := by
  unfold B_X5_reckoningCodes_337 at h
  refine sx_aload_n (pc := 337) dX5_reckoningCodes_337 sx_m0 ?_
  refine sx_aload_n (pc := 338) dX5_reckoningCodes_338 sx_m0 ?_
  refine sv_getO (pc := 339) hG dX5_reckoningCodes_339 f_5_12 lay_69 rfl cr_69_1 ?_
  refine sx_lload_n (pc := 342) dX5_reckoningCodes_342 sx_m1 ?_
  obtain ⟨⟨x5, V3⟩, g4, h⟩ := sx_bnd h
  refine sv_cV (pc := 343) (y := qX9_rounded) (o := (some (.long x5))) (as := [.long l2]) (V1 := V3) hG dX5_reckoningCodes_343 l_X5_414 y0X9_rounded yvX9_rounded rfl (Nat.le_of_ble_eq_true rfl) lay_70 kr_9 (by decide) (Nat.le_of_ble_eq_true rfl) rfl rfl rfl (t_X9_rounded hG ⟨rfl, rfl⟩ g4) ?_
  obtain ⟨V6, g7, h⟩ := sx_bnd h
  refine sv_cV (pc := 346) (y := qX5_push) (o := none) (as := [.long x5]) (V1 := V6) hG dX5_reckoningCodes_346 l_X5_232 y0X5_push yvX5_push rfl (Nat.le_of_ble_eq_true rfl) lay_69 kr_5 (by decide) (Nat.le_of_ble_eq_true rfl) rfl rfl rfl (t_X5_push hG ⟨rfl, rfl⟩ g7) ?_
  exact sv_vret (pc := 349) dX5_reckoningCodes_349 rfl h hP
def B_X5_reckoningCodes_372  (l2 : Int64) (V : sv_V) : Option sv_V := (F_X5_push l2 V).bind (fun V8 => some V8)
set_option maxRecDepth 20000 in
theorem tB_X5_reckoningCodes_372 {g : sx_G} (hG : sx_Go g) {P : Option Value → sv_V → Prop} {Vr : sv_V} (hP : P none Vr)   {l2 : Int64} {V : sv_V} (h : B_X5_reckoningCodes_372  l2 V = some Vr) : sv_N g qX5_reckoningCodes 2 372 [(0, .ref 69), (2, .long l2)] [] V P := by
  unfold B_X5_reckoningCodes_372 at h
  refine sx_aload_n (pc := 372) dX5_reckoningCodes_372 sx_m0 ?_
  refine sx_lload_n (pc := 373) dX5_reckoningCodes_373 sx_m1 ?_
  obtain ⟨V8, g9, h⟩ := sx_bnd h
  refine sv_cV (pc := 374) (y := qX5_push) (o := none) (as := [.long l2]) (V1 := V8) hG dX5_reckoningCodes_374 l_X5_232 y0X5_push yvX5_push rfl (Nat.le_of_ble_eq_true rfl) lay_69 kr_5 (by decide) (Nat.le_of_ble_eq_true rfl) rfl rfl rfl (t_X5_push hG ⟨rfl, rfl⟩ g9) ?_
  exact sv_vret (pc := 377) dX5_reckoningCodes_377 rfl h hP
def B_X5_reckoningCodes_24  (l1 : Int32) (l2 : Int64) (s0 : Int64) (V : sv_V) : Option sv_V := if l1 = 96 then ((F_X5_push (s0 + l2) V).bind (fun V11 => some V11)) else (if l1 = 97 then ((F_X5_push (s0 - l2) V).bind (fun V14 => some V14)) else (if l1 = 98 then (if (lg_cmp l2 (0 : Int64)) = 0 then (sx_let (sv_I V 69 14 (7 : Int32)) (fun V21 => some V21)) else (if ¬ l2 = 0 then (F_X5_push ((s0 * (64 : Int64)) / l2) V).bind (fun V19 => some V19) else none)) else (if l1 = 99 then ((F_X11_nearest (s0 * l2) (64 : Int64) V).bind (fun (x25, V23) => (F_X5_push x25 V23).bind (fun V26 => some V26))) else (if l1 = 100 then (if 0 ≤ (lg_cmp l2 (0 : Int64)) then (B_X5_reckoningCodes_292  l2 V) else (B_X5_reckoningCodes_292  (-l2) V)) else (if l1 = 101 then ((F_X5_push (-l2) V).bind (fun V31 => some V31)) else (if l1 = 102 then ((F_J9_floorDiv_f86c9 l2 (64 : Int64) V).bind (fun (x36, V34) => (F_X5_push (x36 * (64 : Int64)) V34).bind (fun V37 => some V37))) else (if l1 = 103 then ((F_J9_floorDiv_f86c9 (-l2) (64 : Int64) V).bind (fun (x42, V40) => (F_X5_push ((-x42) * (64 : Int64)) V40).bind (fun V43 => some V43))) else (if l1 = 104 then (B_X5_reckoningCodes_337  l2 V) else (if l1 = 105 then (B_X5_reckoningCodes_337  l2 V) else (if l1 = 106 then (B_X5_reckoningCodes_337  l2 V) else (if l1 = 107 then (B_X5_reckoningCodes_337  l2 V) else (if l1 = 108 then (B_X5_reckoningCodes_372  l2 V) else (if l1 = 109 then (B_X5_reckoningCodes_372  l2 V) else (if l1 = 110 then (B_X5_reckoningCodes_372  l2 V) else (if l1 = 111 then (B_X5_reckoningCodes_372  l2 V) else (if l1 = 112 then (B_X5_reckoningCodes_372  l2 V) else (if l1 = 113 then (B_X5_reckoningCodes_372  l2 V) else (if l1 = 114 then (B_X5_reckoningCodes_372  l2 V) else (if l1 = 115 then (B_X5_reckoningCodes_372  l2 V) else (if l1 = 116 then (B_X5_reckoningCodes_372  l2 V) else (if l1 = 117 then (B_X5_reckoningCodes_372  l2 V) else (if l1 = 118 then (B_X5_reckoningCodes_372  l2 V) else (if l1 = 119 then (B_X5_reckoningCodes_372  l2 V) else (if l1 = 120 then (B_X5_reckoningCodes_372  l2 V) else (if l1 = 121 then (B_X5_reckoningCodes_372  l2 V) else (if l1 = 122 then (B_X5_reckoningCodes_372  l2 V) else (if l1 = 123 then (B_X5_reckoningCodes_372  l2 V) else (if l1 = 124 then (B_X5_reckoningCodes_372  l2 V) else (if l1 = 125 then (B_X5_reckoningCodes_372  l2 V) else (if l1 = 126 then (B_X5_reckoningCodes_372  l2 V) else (if l1 = 127 then (B_X5_reckoningCodes_372  l2 V) else (if l1 = 128 then (B_X5_reckoningCodes_372  l2 V) else (if l1 = 129 then (B_X5_reckoningCodes_372  l2 V) else (if l1 = 130 then (B_X5_reckoningCodes_372  l2 V) else (if l1 = 131 then (B_X5_reckoningCodes_372  l2 V) else (if l1 = 132 then (B_X5_reckoningCodes_372  l2 V) else (if l1 = 133 then (B_X5_reckoningCodes_372  l2 V) else (if l1 = 134 then (B_X5_reckoningCodes_372  l2 V) else (if l1 = 135 then (B_X5_reckoningCodes_372  l2 V) else (if l1 = 136 then (B_X5_reckoningCodes_372  l2 V) else (if l1 = 137 then (B_X5_reckoningCodes_372  l2 V) else (if l1 = 138 then (B_X5_reckoningCodes_372  l2 V) else (if l1 = 139 then ((F_J9_max_f86c9 s0 l2 V).bind (fun (x83, V81) => (F_X5_push x83 V81).bind (fun V84 => some V84))) else (if l1 = 140 then ((F_J9_min_f86c9 s0 l2 V).bind (fun (x89, V87) => (F_X5_push x89 V87).bind (fun V90 => some V90))) else (B_X5_reckoningCodes_372  l2 V)))))))))))))))))))))))))))))))))))))))))))))
set_option maxRecDepth 20000 in
theorem tB_X5_reckoningCodes_24 {g : sx_G} (hG : sx_Go g) {P : Option Value → sv_V → Prop} {Vr : sv_V} (hP : P none Vr)   {l1 : Int32} {l2 : Int64} {s0 : Int64} {V : sv_V} (h : B_X5_reckoningCodes_24  l1 l2 s0 V = some Vr) : sv_N g qX5_reckoningCodes 2 24 [(0, .ref 69), (1, .int l1), (2, .long l2)] [.long s0] V P := by
  unfold B_X5_reckoningCodes_24 at h
  refine sx_lstore (pc := 24) (lo' := [(4, .long s0), (0, .ref 69), (1, .int l1), (2, .long l2)]) dX5_reckoningCodes_24 (by decide) rfl ?_
  refine sx_iload_n (pc := 26) dX5_reckoningCodes_26 sx_m2 ?_
  by_cases c10 : l1 = 96
  · have h := sx_pos c10 h
    refine sx_tabI (pc := 27) (off := 193) (tgt := 220) dX5_reckoningCodes_27 (by rw [c10]; decide) (by rw [c10]; decide) (by rw [c10]; rfl) (by decide) ?_
    refine sx_aload_n (pc := 220) dX5_reckoningCodes_220 sx_m1 ?_
    refine sx_lload (pc := 221) dX5_reckoningCodes_221 sx_m0 ?_
    refine sx_lload_n (pc := 223) dX5_reckoningCodes_223 sx_m3 ?_
    refine sx_ladd (pc := 224) dX5_reckoningCodes_224 ?_
    obtain ⟨V11, g12, h⟩ := sx_bnd h
    refine sv_cV (pc := 225) (y := qX5_push) (o := none) (as := [.long (s0 + l2)]) (V1 := V11) hG dX5_reckoningCodes_225 l_X5_232 y0X5_push yvX5_push rfl (Nat.le_of_ble_eq_true rfl) lay_69 kr_5 (by decide) (Nat.le_of_ble_eq_true rfl) rfl rfl rfl (t_X5_push hG ⟨rfl, rfl⟩ g12) ?_
    exact sv_vret (pc := 228) dX5_reckoningCodes_228 rfl h hP
  have h := sx_neg c10 h
  by_cases c13 : l1 = 97
  · have h := sx_pos c13 h
    refine sx_tabI (pc := 27) (off := 202) (tgt := 229) dX5_reckoningCodes_27 (by rw [c13]; decide) (by rw [c13]; decide) (by rw [c13]; rfl) (by decide) ?_
    refine sx_aload_n (pc := 229) dX5_reckoningCodes_229 sx_m1 ?_
    refine sx_lload (pc := 230) dX5_reckoningCodes_230 sx_m0 ?_
    refine sx_lload_n (pc := 232) dX5_reckoningCodes_232 sx_m3 ?_
    refine sx_lsub (pc := 233) dX5_reckoningCodes_233 ?_
    obtain ⟨V14, g15, h⟩ := sx_bnd h
    refine sv_cV (pc := 234) (y := qX5_push) (o := none) (as := [.long (s0 - l2)]) (V1 := V14) hG dX5_reckoningCodes_234 l_X5_232 y0X5_push yvX5_push rfl (Nat.le_of_ble_eq_true rfl) lay_69 kr_5 (by decide) (Nat.le_of_ble_eq_true rfl) rfl rfl rfl (t_X5_push hG ⟨rfl, rfl⟩ g15) ?_
    exact sv_vret (pc := 237) dX5_reckoningCodes_237 rfl h hP
  have h := sx_neg c13 h
  by_cases c16 : l1 = 98
  · have h := sx_pos c16 h
    refine sx_tabI (pc := 27) (off := 211) (tgt := 238) dX5_reckoningCodes_27 (by rw [c16]; decide) (by rw [c16]; decide) (by rw [c16]; rfl) (by decide) ?_
    refine sx_lload_n (pc := 238) dX5_reckoningCodes_238 sx_m3 ?_
    refine sx_lconst (pc := 239) (v := 0) dX5_reckoningCodes_239 rfl ?_
    refine sx_lcmp (pc := 240) dX5_reckoningCodes_240 ?_
    refine sx_if_ne (pc := 241) (tgt := 251) dX5_reckoningCodes_241 (by decide) (fun c17 => ?_) (fun c17 => ?_)
    · have h := sx_neg c17 h
      refine sx_aload_n (pc := 251) dX5_reckoningCodes_251 sx_m1 ?_
      refine sx_lload (pc := 252) dX5_reckoningCodes_252 sx_m0 ?_
      refine sx_ldc2 (pc := 254) dX5_reckoningCodes_254 k_X5_68 ?_
      refine sx_lmul (pc := 257) dX5_reckoningCodes_257 ?_
      refine sx_lload_n (pc := 258) dX5_reckoningCodes_258 sx_m3 ?_
      obtain ⟨g18, h⟩ := sx_grd h
      refine sx_ldiv (pc := 259) dX5_reckoningCodes_259 g18 ?_
      obtain ⟨V19, g20, h⟩ := sx_bnd h
      refine sv_cV (pc := 260) (y := qX5_push) (o := none) (as := [.long ((s0 * (64 : Int64)) / l2)]) (V1 := V19) hG dX5_reckoningCodes_260 l_X5_232 y0X5_push yvX5_push rfl (Nat.le_of_ble_eq_true rfl) lay_69 kr_5 (by decide) (Nat.le_of_ble_eq_true rfl) rfl rfl rfl (t_X5_push hG ⟨rfl, rfl⟩ g20) ?_
      exact sv_vret (pc := 263) dX5_reckoningCodes_263 rfl h hP
    · have h := sx_pos c17 h
      refine sx_aload_n (pc := 244) dX5_reckoningCodes_244 sx_m1 ?_
      refine sx_bipush (pc := 245) (v := 7) dX5_reckoningCodes_245 (by decide) ?_
      obtain ⟨V21, hV21⟩ : ∃ z : sv_V, z = sv_I V 69 14 (7 : Int32) := ⟨_, rfl⟩
      have h := sx_letE hV21 h
      refine sv_putI (pc := 247) hG dX5_reckoningCodes_247 f_5_56 lay_69 rfl hV21 ?_
      exact sv_vret (pc := 250) dX5_reckoningCodes_250 rfl h hP
  have h := sx_neg c16 h
  by_cases c22 : l1 = 99
  · have h := sx_pos c22 h
    refine sx_tabI (pc := 27) (off := 237) (tgt := 264) dX5_reckoningCodes_27 (by rw [c22]; decide) (by rw [c22]; decide) (by rw [c22]; rfl) (by decide) ?_
    refine sx_aload_n (pc := 264) dX5_reckoningCodes_264 sx_m1 ?_
    refine sx_lload (pc := 265) dX5_reckoningCodes_265 sx_m0 ?_
    refine sx_lload_n (pc := 267) dX5_reckoningCodes_267 sx_m3 ?_
    refine sx_lmul (pc := 268) dX5_reckoningCodes_268 ?_
    refine sx_ldc2 (pc := 269) dX5_reckoningCodes_269 k_X5_68 ?_
    obtain ⟨⟨x25, V23⟩, g24, h⟩ := sx_bnd h
    refine sv_cN (pc := 272) (y := qX11_nearest) (o := (some (.long x25))) (as := [.long (s0 * l2), .long (64 : Int64)]) (V1 := V23) dX5_reckoningCodes_272 n_X5_75 y0X11_nearest ysX11_nearest rfl (Nat.le_of_ble_eq_true rfl) (by decide) (Nat.le_of_ble_eq_true rfl) rfl rfl rfl (t_X11_nearest hG ⟨rfl, rfl⟩ g24) ?_
    obtain ⟨V26, g27, h⟩ := sx_bnd h
    refine sv_cV (pc := 275) (y := qX5_push) (o := none) (as := [.long x25]) (V1 := V26) hG dX5_reckoningCodes_275 l_X5_232 y0X5_push yvX5_push rfl (Nat.le_of_ble_eq_true rfl) lay_69 kr_5 (by decide) (Nat.le_of_ble_eq_true rfl) rfl rfl rfl (t_X5_push hG ⟨rfl, rfl⟩ g27) ?_
    exact sv_vret (pc := 278) dX5_reckoningCodes_278 rfl h hP
  have h := sx_neg c22 h
  by_cases c28 : l1 = 100
  · have h := sx_pos c28 h
    refine sx_tabI (pc := 27) (off := 252) (tgt := 279) dX5_reckoningCodes_27 (by rw [c28]; decide) (by rw [c28]; decide) (by rw [c28]; rfl) (by decide) ?_
    refine sx_aload_n (pc := 279) dX5_reckoningCodes_279 sx_m1 ?_
    refine sx_lload_n (pc := 280) dX5_reckoningCodes_280 sx_m3 ?_
    refine sx_lconst (pc := 281) (v := 0) dX5_reckoningCodes_281 rfl ?_
    refine sx_lcmp (pc := 282) dX5_reckoningCodes_282 ?_
    refine sx_if_ge (pc := 283) (tgt := 291) dX5_reckoningCodes_283 (by decide) (fun c29 => ?_) (fun c29 => ?_)
    · have h := sx_pos c29 h
      refine sx_lload_n (pc := 291) dX5_reckoningCodes_291 sx_m3 ?_
      refine sx_wk sx_s0 ?_
      exact tB_X5_reckoningCodes_292 hG hP  h
    · have h := sx_neg c29 h
      refine sx_lload_n (pc := 286) dX5_reckoningCodes_286 sx_m3 ?_
      refine sx_lneg (pc := 287) dX5_reckoningCodes_287 ?_
      refine sx_goto (pc := 288) (tgt := 292) dX5_reckoningCodes_288 (by decide) ?_
      refine sx_wk sx_s0 ?_
      exact tB_X5_reckoningCodes_292 hG hP  h
  have h := sx_neg c28 h
  by_cases c30 : l1 = 101
  · have h := sx_pos c30 h
    refine sx_tabI (pc := 27) (off := 269) (tgt := 296) dX5_reckoningCodes_27 (by rw [c30]; decide) (by rw [c30]; decide) (by rw [c30]; rfl) (by decide) ?_
    refine sx_aload_n (pc := 296) dX5_reckoningCodes_296 sx_m1 ?_
    refine sx_lload_n (pc := 297) dX5_reckoningCodes_297 sx_m3 ?_
    refine sx_lneg (pc := 298) dX5_reckoningCodes_298 ?_
    obtain ⟨V31, g32, h⟩ := sx_bnd h
    refine sv_cV (pc := 299) (y := qX5_push) (o := none) (as := [.long (-l2)]) (V1 := V31) hG dX5_reckoningCodes_299 l_X5_232 y0X5_push yvX5_push rfl (Nat.le_of_ble_eq_true rfl) lay_69 kr_5 (by decide) (Nat.le_of_ble_eq_true rfl) rfl rfl rfl (t_X5_push hG ⟨rfl, rfl⟩ g32) ?_
    exact sv_vret (pc := 302) dX5_reckoningCodes_302 rfl h hP
  have h := sx_neg c30 h
  by_cases c33 : l1 = 102
  · have h := sx_pos c33 h
    refine sx_tabI (pc := 27) (off := 276) (tgt := 303) dX5_reckoningCodes_27 (by rw [c33]; decide) (by rw [c33]; decide) (by rw [c33]; rfl) (by decide) ?_
    refine sx_aload_n (pc := 303) dX5_reckoningCodes_303 sx_m1 ?_
    refine sx_lload_n (pc := 304) dX5_reckoningCodes_304 sx_m3 ?_
    refine sx_ldc2 (pc := 305) dX5_reckoningCodes_305 k_X5_68 ?_
    obtain ⟨⟨x36, V34⟩, g35, h⟩ := sx_bnd h
    refine sv_cS (pc := 308) (y := qJ9_floorDiv_f86c9) (o := (some (.long x36))) (as := [.long l2, .long (64 : Int64)]) (V1 := V34) dX5_reckoningCodes_308 l_X5_419 y0J9_floorDiv_f86c9 ysJ9_floorDiv_f86c9 rfl (Nat.le_of_ble_eq_true rfl) (by decide) (Nat.le_of_ble_eq_true rfl) rfl rfl rfl (t_J9_floorDiv_f86c9 hG ⟨rfl, rfl⟩ g35) ?_
    refine sx_ldc2 (pc := 311) dX5_reckoningCodes_311 k_X5_68 ?_
    refine sx_lmul (pc := 314) dX5_reckoningCodes_314 ?_
    obtain ⟨V37, g38, h⟩ := sx_bnd h
    refine sv_cV (pc := 315) (y := qX5_push) (o := none) (as := [.long (x36 * (64 : Int64))]) (V1 := V37) hG dX5_reckoningCodes_315 l_X5_232 y0X5_push yvX5_push rfl (Nat.le_of_ble_eq_true rfl) lay_69 kr_5 (by decide) (Nat.le_of_ble_eq_true rfl) rfl rfl rfl (t_X5_push hG ⟨rfl, rfl⟩ g38) ?_
    exact sv_vret (pc := 318) dX5_reckoningCodes_318 rfl h hP
  have h := sx_neg c33 h
  by_cases c39 : l1 = 103
  · have h := sx_pos c39 h
    refine sx_tabI (pc := 27) (off := 292) (tgt := 319) dX5_reckoningCodes_27 (by rw [c39]; decide) (by rw [c39]; decide) (by rw [c39]; rfl) (by decide) ?_
    refine sx_aload_n (pc := 319) dX5_reckoningCodes_319 sx_m1 ?_
    refine sx_lload_n (pc := 320) dX5_reckoningCodes_320 sx_m3 ?_
    refine sx_lneg (pc := 321) dX5_reckoningCodes_321 ?_
    refine sx_ldc2 (pc := 322) dX5_reckoningCodes_322 k_X5_68 ?_
    obtain ⟨⟨x42, V40⟩, g41, h⟩ := sx_bnd h
    refine sv_cS (pc := 325) (y := qJ9_floorDiv_f86c9) (o := (some (.long x42))) (as := [.long (-l2), .long (64 : Int64)]) (V1 := V40) dX5_reckoningCodes_325 l_X5_419 y0J9_floorDiv_f86c9 ysJ9_floorDiv_f86c9 rfl (Nat.le_of_ble_eq_true rfl) (by decide) (Nat.le_of_ble_eq_true rfl) rfl rfl rfl (t_J9_floorDiv_f86c9 hG ⟨rfl, rfl⟩ g41) ?_
    refine sx_lneg (pc := 328) dX5_reckoningCodes_328 ?_
    refine sx_ldc2 (pc := 329) dX5_reckoningCodes_329 k_X5_68 ?_
    refine sx_lmul (pc := 332) dX5_reckoningCodes_332 ?_
    obtain ⟨V43, g44, h⟩ := sx_bnd h
    refine sv_cV (pc := 333) (y := qX5_push) (o := none) (as := [.long ((-x42) * (64 : Int64))]) (V1 := V43) hG dX5_reckoningCodes_333 l_X5_232 y0X5_push yvX5_push rfl (Nat.le_of_ble_eq_true rfl) lay_69 kr_5 (by decide) (Nat.le_of_ble_eq_true rfl) rfl rfl rfl (t_X5_push hG ⟨rfl, rfl⟩ g44) ?_
    exact sv_vret (pc := 336) dX5_reckoningCodes_336 rfl h hP
  have h := sx_neg c39 h
  by_cases c45 : l1 = 104
  · have h := sx_pos c45 h
    refine sx_tabI (pc := 27) (off := 310) (tgt := 337) dX5_reckoningCodes_27 (by rw [c45]; decide) (by rw [c45]; decide) (by rw [c45]; rfl) (by decide) ?_
    refine sx_wk (sx_s1 sx_m1 (sx_s1 sx_m3 sx_s0)) ?_
    exact tB_X5_reckoningCodes_337 hG hP  h
  have h := sx_neg c45 h
  by_cases c46 : l1 = 105
  · have h := sx_pos c46 h
    refine sx_tabI (pc := 27) (off := 310) (tgt := 337) dX5_reckoningCodes_27 (by rw [c46]; decide) (by rw [c46]; decide) (by rw [c46]; rfl) (by decide) ?_
    refine sx_wk (sx_s1 sx_m1 (sx_s1 sx_m3 sx_s0)) ?_
    exact tB_X5_reckoningCodes_337 hG hP  h
  have h := sx_neg c46 h
  by_cases c47 : l1 = 106
  · have h := sx_pos c47 h
    refine sx_tabI (pc := 27) (off := 310) (tgt := 337) dX5_reckoningCodes_27 (by rw [c47]; decide) (by rw [c47]; decide) (by rw [c47]; rfl) (by decide) ?_
    refine sx_wk (sx_s1 sx_m1 (sx_s1 sx_m3 sx_s0)) ?_
    exact tB_X5_reckoningCodes_337 hG hP  h
  have h := sx_neg c47 h
  by_cases c48 : l1 = 107
  · have h := sx_pos c48 h
    refine sx_tabI (pc := 27) (off := 310) (tgt := 337) dX5_reckoningCodes_27 (by rw [c48]; decide) (by rw [c48]; decide) (by rw [c48]; rfl) (by decide) ?_
    refine sx_wk (sx_s1 sx_m1 (sx_s1 sx_m3 sx_s0)) ?_
    exact tB_X5_reckoningCodes_337 hG hP  h
  have h := sx_neg c48 h
  by_cases c49 : l1 = 108
  · have h := sx_pos c49 h
    refine sx_tabI (pc := 27) (off := 345) (tgt := 372) dX5_reckoningCodes_27 (by rw [c49]; decide) (by rw [c49]; decide) (by rw [c49]; rfl) (by decide) ?_
    refine sx_wk (sx_s1 sx_m1 (sx_s1 sx_m3 sx_s0)) ?_
    exact tB_X5_reckoningCodes_372 hG hP  h
  have h := sx_neg c49 h
  by_cases c50 : l1 = 109
  · have h := sx_pos c50 h
    refine sx_tabI (pc := 27) (off := 345) (tgt := 372) dX5_reckoningCodes_27 (by rw [c50]; decide) (by rw [c50]; decide) (by rw [c50]; rfl) (by decide) ?_
    refine sx_wk (sx_s1 sx_m1 (sx_s1 sx_m3 sx_s0)) ?_
    exact tB_X5_reckoningCodes_372 hG hP  h
  have h := sx_neg c50 h
  by_cases c51 : l1 = 110
  · have h := sx_pos c51 h
    refine sx_tabI (pc := 27) (off := 345) (tgt := 372) dX5_reckoningCodes_27 (by rw [c51]; decide) (by rw [c51]; decide) (by rw [c51]; rfl) (by decide) ?_
    refine sx_wk (sx_s1 sx_m1 (sx_s1 sx_m3 sx_s0)) ?_
    exact tB_X5_reckoningCodes_372 hG hP  h
  have h := sx_neg c51 h
  by_cases c52 : l1 = 111
  · have h := sx_pos c52 h
    refine sx_tabI (pc := 27) (off := 345) (tgt := 372) dX5_reckoningCodes_27 (by rw [c52]; decide) (by rw [c52]; decide) (by rw [c52]; rfl) (by decide) ?_
    refine sx_wk (sx_s1 sx_m1 (sx_s1 sx_m3 sx_s0)) ?_
    exact tB_X5_reckoningCodes_372 hG hP  h
  have h := sx_neg c52 h
  by_cases c53 : l1 = 112
  · have h := sx_pos c53 h
    refine sx_tabI (pc := 27) (off := 345) (tgt := 372) dX5_reckoningCodes_27 (by rw [c53]; decide) (by rw [c53]; decide) (by rw [c53]; rfl) (by decide) ?_
    refine sx_wk (sx_s1 sx_m1 (sx_s1 sx_m3 sx_s0)) ?_
    exact tB_X5_reckoningCodes_372 hG hP  h
  have h := sx_neg c53 h
  by_cases c54 : l1 = 113
  · have h := sx_pos c54 h
    refine sx_tabI (pc := 27) (off := 345) (tgt := 372) dX5_reckoningCodes_27 (by rw [c54]; decide) (by rw [c54]; decide) (by rw [c54]; rfl) (by decide) ?_
    refine sx_wk (sx_s1 sx_m1 (sx_s1 sx_m3 sx_s0)) ?_
    exact tB_X5_reckoningCodes_372 hG hP  h
  have h := sx_neg c54 h
  by_cases c55 : l1 = 114
  · have h := sx_pos c55 h
    refine sx_tabI (pc := 27) (off := 345) (tgt := 372) dX5_reckoningCodes_27 (by rw [c55]; decide) (by rw [c55]; decide) (by rw [c55]; rfl) (by decide) ?_
    refine sx_wk (sx_s1 sx_m1 (sx_s1 sx_m3 sx_s0)) ?_
    exact tB_X5_reckoningCodes_372 hG hP  h
  have h := sx_neg c55 h
  by_cases c56 : l1 = 115
  · have h := sx_pos c56 h
    refine sx_tabI (pc := 27) (off := 345) (tgt := 372) dX5_reckoningCodes_27 (by rw [c56]; decide) (by rw [c56]; decide) (by rw [c56]; rfl) (by decide) ?_
    refine sx_wk (sx_s1 sx_m1 (sx_s1 sx_m3 sx_s0)) ?_
    exact tB_X5_reckoningCodes_372 hG hP  h
  have h := sx_neg c56 h
  by_cases c57 : l1 = 116
  · have h := sx_pos c57 h
    refine sx_tabI (pc := 27) (off := 345) (tgt := 372) dX5_reckoningCodes_27 (by rw [c57]; decide) (by rw [c57]; decide) (by rw [c57]; rfl) (by decide) ?_
    refine sx_wk (sx_s1 sx_m1 (sx_s1 sx_m3 sx_s0)) ?_
    exact tB_X5_reckoningCodes_372 hG hP  h
  have h := sx_neg c57 h
  by_cases c58 : l1 = 117
  · have h := sx_pos c58 h
    refine sx_tabI (pc := 27) (off := 345) (tgt := 372) dX5_reckoningCodes_27 (by rw [c58]; decide) (by rw [c58]; decide) (by rw [c58]; rfl) (by decide) ?_
    refine sx_wk (sx_s1 sx_m1 (sx_s1 sx_m3 sx_s0)) ?_
    exact tB_X5_reckoningCodes_372 hG hP  h
  have h := sx_neg c58 h
  by_cases c59 : l1 = 118
  · have h := sx_pos c59 h
    refine sx_tabI (pc := 27) (off := 345) (tgt := 372) dX5_reckoningCodes_27 (by rw [c59]; decide) (by rw [c59]; decide) (by rw [c59]; rfl) (by decide) ?_
    refine sx_wk (sx_s1 sx_m1 (sx_s1 sx_m3 sx_s0)) ?_
    exact tB_X5_reckoningCodes_372 hG hP  h
  have h := sx_neg c59 h
  by_cases c60 : l1 = 119
  · have h := sx_pos c60 h
    refine sx_tabI (pc := 27) (off := 345) (tgt := 372) dX5_reckoningCodes_27 (by rw [c60]; decide) (by rw [c60]; decide) (by rw [c60]; rfl) (by decide) ?_
    refine sx_wk (sx_s1 sx_m1 (sx_s1 sx_m3 sx_s0)) ?_
    exact tB_X5_reckoningCodes_372 hG hP  h
  have h := sx_neg c60 h
  by_cases c61 : l1 = 120
  · have h := sx_pos c61 h
    refine sx_tabI (pc := 27) (off := 345) (tgt := 372) dX5_reckoningCodes_27 (by rw [c61]; decide) (by rw [c61]; decide) (by rw [c61]; rfl) (by decide) ?_
    refine sx_wk (sx_s1 sx_m1 (sx_s1 sx_m3 sx_s0)) ?_
    exact tB_X5_reckoningCodes_372 hG hP  h
  have h := sx_neg c61 h
  by_cases c62 : l1 = 121
  · have h := sx_pos c62 h
    refine sx_tabI (pc := 27) (off := 345) (tgt := 372) dX5_reckoningCodes_27 (by rw [c62]; decide) (by rw [c62]; decide) (by rw [c62]; rfl) (by decide) ?_
    refine sx_wk (sx_s1 sx_m1 (sx_s1 sx_m3 sx_s0)) ?_
    exact tB_X5_reckoningCodes_372 hG hP  h
  have h := sx_neg c62 h
  by_cases c63 : l1 = 122
  · have h := sx_pos c63 h
    refine sx_tabI (pc := 27) (off := 345) (tgt := 372) dX5_reckoningCodes_27 (by rw [c63]; decide) (by rw [c63]; decide) (by rw [c63]; rfl) (by decide) ?_
    refine sx_wk (sx_s1 sx_m1 (sx_s1 sx_m3 sx_s0)) ?_
    exact tB_X5_reckoningCodes_372 hG hP  h
  have h := sx_neg c63 h
  by_cases c64 : l1 = 123
  · have h := sx_pos c64 h
    refine sx_tabI (pc := 27) (off := 345) (tgt := 372) dX5_reckoningCodes_27 (by rw [c64]; decide) (by rw [c64]; decide) (by rw [c64]; rfl) (by decide) ?_
    refine sx_wk (sx_s1 sx_m1 (sx_s1 sx_m3 sx_s0)) ?_
    exact tB_X5_reckoningCodes_372 hG hP  h
  have h := sx_neg c64 h
  by_cases c65 : l1 = 124
  · have h := sx_pos c65 h
    refine sx_tabI (pc := 27) (off := 345) (tgt := 372) dX5_reckoningCodes_27 (by rw [c65]; decide) (by rw [c65]; decide) (by rw [c65]; rfl) (by decide) ?_
    refine sx_wk (sx_s1 sx_m1 (sx_s1 sx_m3 sx_s0)) ?_
    exact tB_X5_reckoningCodes_372 hG hP  h
  have h := sx_neg c65 h
  by_cases c66 : l1 = 125
  · have h := sx_pos c66 h
    refine sx_tabI (pc := 27) (off := 345) (tgt := 372) dX5_reckoningCodes_27 (by rw [c66]; decide) (by rw [c66]; decide) (by rw [c66]; rfl) (by decide) ?_
    refine sx_wk (sx_s1 sx_m1 (sx_s1 sx_m3 sx_s0)) ?_
    exact tB_X5_reckoningCodes_372 hG hP  h
  have h := sx_neg c66 h
  by_cases c67 : l1 = 126
  · have h := sx_pos c67 h
    refine sx_tabI (pc := 27) (off := 345) (tgt := 372) dX5_reckoningCodes_27 (by rw [c67]; decide) (by rw [c67]; decide) (by rw [c67]; rfl) (by decide) ?_
    refine sx_wk (sx_s1 sx_m1 (sx_s1 sx_m3 sx_s0)) ?_
    exact tB_X5_reckoningCodes_372 hG hP  h
  have h := sx_neg c67 h
  by_cases c68 : l1 = 127
  · have h := sx_pos c68 h
    refine sx_tabI (pc := 27) (off := 345) (tgt := 372) dX5_reckoningCodes_27 (by rw [c68]; decide) (by rw [c68]; decide) (by rw [c68]; rfl) (by decide) ?_
    refine sx_wk (sx_s1 sx_m1 (sx_s1 sx_m3 sx_s0)) ?_
    exact tB_X5_reckoningCodes_372 hG hP  h
  have h := sx_neg c68 h
  by_cases c69 : l1 = 128
  · have h := sx_pos c69 h
    refine sx_tabI (pc := 27) (off := 345) (tgt := 372) dX5_reckoningCodes_27 (by rw [c69]; decide) (by rw [c69]; decide) (by rw [c69]; rfl) (by decide) ?_
    refine sx_wk (sx_s1 sx_m1 (sx_s1 sx_m3 sx_s0)) ?_
    exact tB_X5_reckoningCodes_372 hG hP  h
  have h := sx_neg c69 h
  by_cases c70 : l1 = 129
  · have h := sx_pos c70 h
    refine sx_tabI (pc := 27) (off := 345) (tgt := 372) dX5_reckoningCodes_27 (by rw [c70]; decide) (by rw [c70]; decide) (by rw [c70]; rfl) (by decide) ?_
    refine sx_wk (sx_s1 sx_m1 (sx_s1 sx_m3 sx_s0)) ?_
    exact tB_X5_reckoningCodes_372 hG hP  h
  have h := sx_neg c70 h
  by_cases c71 : l1 = 130
  · have h := sx_pos c71 h
    refine sx_tabI (pc := 27) (off := 345) (tgt := 372) dX5_reckoningCodes_27 (by rw [c71]; decide) (by rw [c71]; decide) (by rw [c71]; rfl) (by decide) ?_
    refine sx_wk (sx_s1 sx_m1 (sx_s1 sx_m3 sx_s0)) ?_
    exact tB_X5_reckoningCodes_372 hG hP  h
  have h := sx_neg c71 h
  by_cases c72 : l1 = 131
  · have h := sx_pos c72 h
    refine sx_tabI (pc := 27) (off := 345) (tgt := 372) dX5_reckoningCodes_27 (by rw [c72]; decide) (by rw [c72]; decide) (by rw [c72]; rfl) (by decide) ?_
    refine sx_wk (sx_s1 sx_m1 (sx_s1 sx_m3 sx_s0)) ?_
    exact tB_X5_reckoningCodes_372 hG hP  h
  have h := sx_neg c72 h
  by_cases c73 : l1 = 132
  · have h := sx_pos c73 h
    refine sx_tabI (pc := 27) (off := 345) (tgt := 372) dX5_reckoningCodes_27 (by rw [c73]; decide) (by rw [c73]; decide) (by rw [c73]; rfl) (by decide) ?_
    refine sx_wk (sx_s1 sx_m1 (sx_s1 sx_m3 sx_s0)) ?_
    exact tB_X5_reckoningCodes_372 hG hP  h
  have h := sx_neg c73 h
  by_cases c74 : l1 = 133
  · have h := sx_pos c74 h
    refine sx_tabI (pc := 27) (off := 345) (tgt := 372) dX5_reckoningCodes_27 (by rw [c74]; decide) (by rw [c74]; decide) (by rw [c74]; rfl) (by decide) ?_
    refine sx_wk (sx_s1 sx_m1 (sx_s1 sx_m3 sx_s0)) ?_
    exact tB_X5_reckoningCodes_372 hG hP  h
  have h := sx_neg c74 h
  by_cases c75 : l1 = 134
  · have h := sx_pos c75 h
    refine sx_tabI (pc := 27) (off := 345) (tgt := 372) dX5_reckoningCodes_27 (by rw [c75]; decide) (by rw [c75]; decide) (by rw [c75]; rfl) (by decide) ?_
    refine sx_wk (sx_s1 sx_m1 (sx_s1 sx_m3 sx_s0)) ?_
    exact tB_X5_reckoningCodes_372 hG hP  h
  have h := sx_neg c75 h
  by_cases c76 : l1 = 135
  · have h := sx_pos c76 h
    refine sx_tabI (pc := 27) (off := 345) (tgt := 372) dX5_reckoningCodes_27 (by rw [c76]; decide) (by rw [c76]; decide) (by rw [c76]; rfl) (by decide) ?_
    refine sx_wk (sx_s1 sx_m1 (sx_s1 sx_m3 sx_s0)) ?_
    exact tB_X5_reckoningCodes_372 hG hP  h
  have h := sx_neg c76 h
  by_cases c77 : l1 = 136
  · have h := sx_pos c77 h
    refine sx_tabI (pc := 27) (off := 345) (tgt := 372) dX5_reckoningCodes_27 (by rw [c77]; decide) (by rw [c77]; decide) (by rw [c77]; rfl) (by decide) ?_
    refine sx_wk (sx_s1 sx_m1 (sx_s1 sx_m3 sx_s0)) ?_
    exact tB_X5_reckoningCodes_372 hG hP  h
  have h := sx_neg c77 h
  by_cases c78 : l1 = 137
  · have h := sx_pos c78 h
    refine sx_tabI (pc := 27) (off := 345) (tgt := 372) dX5_reckoningCodes_27 (by rw [c78]; decide) (by rw [c78]; decide) (by rw [c78]; rfl) (by decide) ?_
    refine sx_wk (sx_s1 sx_m1 (sx_s1 sx_m3 sx_s0)) ?_
    exact tB_X5_reckoningCodes_372 hG hP  h
  have h := sx_neg c78 h
  by_cases c79 : l1 = 138
  · have h := sx_pos c79 h
    refine sx_tabI (pc := 27) (off := 345) (tgt := 372) dX5_reckoningCodes_27 (by rw [c79]; decide) (by rw [c79]; decide) (by rw [c79]; rfl) (by decide) ?_
    refine sx_wk (sx_s1 sx_m1 (sx_s1 sx_m3 sx_s0)) ?_
    exact tB_X5_reckoningCodes_372 hG hP  h
  have h := sx_neg c79 h
  by_cases c80 : l1 = 139
  · have h := sx_pos c80 h
    refine sx_tabI (pc := 27) (off := 323) (tgt := 350) dX5_reckoningCodes_27 (by rw [c80]; decide) (by rw [c80]; decide) (by rw [c80]; rfl) (by decide) ?_
    refine sx_aload_n (pc := 350) dX5_reckoningCodes_350 sx_m1 ?_
    refine sx_lload (pc := 351) dX5_reckoningCodes_351 sx_m0 ?_
    refine sx_lload_n (pc := 353) dX5_reckoningCodes_353 sx_m3 ?_
    obtain ⟨⟨x83, V81⟩, g82, h⟩ := sx_bnd h
    refine sv_cS (pc := 354) (y := qJ9_max_f86c9) (o := (some (.long x83))) (as := [.long s0, .long l2]) (V1 := V81) dX5_reckoningCodes_354 l_X5_424 y0J9_max_f86c9 ysJ9_max_f86c9 rfl (Nat.le_of_ble_eq_true rfl) (by decide) (Nat.le_of_ble_eq_true rfl) rfl rfl rfl (t_J9_max_f86c9 hG ⟨rfl, rfl⟩ g82) ?_
    obtain ⟨V84, g85, h⟩ := sx_bnd h
    refine sv_cV (pc := 357) (y := qX5_push) (o := none) (as := [.long x83]) (V1 := V84) hG dX5_reckoningCodes_357 l_X5_232 y0X5_push yvX5_push rfl (Nat.le_of_ble_eq_true rfl) lay_69 kr_5 (by decide) (Nat.le_of_ble_eq_true rfl) rfl rfl rfl (t_X5_push hG ⟨rfl, rfl⟩ g85) ?_
    exact sv_vret (pc := 360) dX5_reckoningCodes_360 rfl h hP
  have h := sx_neg c80 h
  by_cases c86 : l1 = 140
  · have h := sx_pos c86 h
    refine sx_tabI (pc := 27) (off := 334) (tgt := 361) dX5_reckoningCodes_27 (by rw [c86]; decide) (by rw [c86]; decide) (by rw [c86]; rfl) (by decide) ?_
    refine sx_aload_n (pc := 361) dX5_reckoningCodes_361 sx_m1 ?_
    refine sx_lload (pc := 362) dX5_reckoningCodes_362 sx_m0 ?_
    refine sx_lload_n (pc := 364) dX5_reckoningCodes_364 sx_m3 ?_
    obtain ⟨⟨x89, V87⟩, g88, h⟩ := sx_bnd h
    refine sv_cS (pc := 365) (y := qJ9_min_f86c9) (o := (some (.long x89))) (as := [.long s0, .long l2]) (V1 := V87) dX5_reckoningCodes_365 l_X5_427 y0J9_min_f86c9 ysJ9_min_f86c9 rfl (Nat.le_of_ble_eq_true rfl) (by decide) (Nat.le_of_ble_eq_true rfl) rfl rfl rfl (t_J9_min_f86c9 hG ⟨rfl, rfl⟩ g88) ?_
    obtain ⟨V90, g91, h⟩ := sx_bnd h
    refine sv_cV (pc := 368) (y := qX5_push) (o := none) (as := [.long x89]) (V1 := V90) hG dX5_reckoningCodes_368 l_X5_232 y0X5_push yvX5_push rfl (Nat.le_of_ble_eq_true rfl) lay_69 kr_5 (by decide) (Nat.le_of_ble_eq_true rfl) rfl rfl rfl (t_X5_push hG ⟨rfl, rfl⟩ g91) ?_
    exact sv_vret (pc := 371) dX5_reckoningCodes_371 rfl h hP
  have h := sx_neg c86 h
  refine sx_tabO (pc := 27) (tgt := 372) dX5_reckoningCodes_27 (by have ec10 := lv_neT (a := 96) c10 rfl; have ec13 := lv_neT (a := 97) c13 rfl; have ec16 := lv_neT (a := 98) c16 rfl; have ec22 := lv_neT (a := 99) c22 rfl; have ec28 := lv_neT (a := 100) c28 rfl; have ec30 := lv_neT (a := 101) c30 rfl; have ec33 := lv_neT (a := 102) c33 rfl; have ec39 := lv_neT (a := 103) c39 rfl; have ec45 := lv_neT (a := 104) c45 rfl; have ec46 := lv_neT (a := 105) c46 rfl; have ec47 := lv_neT (a := 106) c47 rfl; have ec48 := lv_neT (a := 107) c48 rfl; have ec49 := lv_neT (a := 108) c49 rfl; have ec50 := lv_neT (a := 109) c50 rfl; have ec51 := lv_neT (a := 110) c51 rfl; have ec52 := lv_neT (a := 111) c52 rfl; have ec53 := lv_neT (a := 112) c53 rfl; have ec54 := lv_neT (a := 113) c54 rfl; have ec55 := lv_neT (a := 114) c55 rfl; have ec56 := lv_neT (a := 115) c56 rfl; have ec57 := lv_neT (a := 116) c57 rfl; have ec58 := lv_neT (a := 117) c58 rfl; have ec59 := lv_neT (a := 118) c59 rfl; have ec60 := lv_neT (a := 119) c60 rfl; have ec61 := lv_neT (a := 120) c61 rfl; have ec62 := lv_neT (a := 121) c62 rfl; have ec63 := lv_neT (a := 122) c63 rfl; have ec64 := lv_neT (a := 123) c64 rfl; have ec65 := lv_neT (a := 124) c65 rfl; have ec66 := lv_neT (a := 125) c66 rfl; have ec67 := lv_neT (a := 126) c67 rfl; have ec68 := lv_neT (a := 127) c68 rfl; have ec69 := lv_neT (a := 128) c69 rfl; have ec70 := lv_neT (a := 129) c70 rfl; have ec71 := lv_neT (a := 130) c71 rfl; have ec72 := lv_neT (a := 131) c72 rfl; have ec73 := lv_neT (a := 132) c73 rfl; have ec74 := lv_neT (a := 133) c74 rfl; have ec75 := lv_neT (a := 134) c75 rfl; have ec76 := lv_neT (a := 135) c76 rfl; have ec77 := lv_neT (a := 136) c77 rfl; have ec78 := lv_neT (a := 137) c78 rfl; have ec79 := lv_neT (a := 138) c79 rfl; have ec80 := lv_neT (a := 139) c80 rfl; have ec86 := lv_neT (a := 140) c86 rfl; omega) (by decide) ?_
  refine sx_wk (sx_s1 sx_m1 (sx_s1 sx_m3 sx_s0)) ?_
  exact tB_X5_reckoningCodes_372 hG hP  h
def F_X5_reckoningCodes (l1 : Int32) (V : sv_V) : Option sv_V := (F_X5_pop  V).bind (fun (x94, V92) => sx_let (x94.toInt64) (fun x95 => if sx_in l1 256 = true then if (V92.1 1006 l1.toNatClampNeg) = (2 : Int32) then ((F_X5_pop  V92).bind (fun (x100, V98) => B_X5_reckoningCodes_24  l1 x95 x100.toInt64 V98)) else (B_X5_reckoningCodes_24  l1 x95 (0 : Int64) V92) else none))
set_option maxRecDepth 20000 in
theorem t_X5_reckoningCodes {g : sx_G} (hG : sx_Go g) {P : Option Value → sv_V → Prop} {Vr : sv_V} (hP : P none Vr) {l1 : Int32} {V : sv_V} (h : F_X5_reckoningCodes l1 V = some Vr) : sv_N g qX5_reckoningCodes 2 0 [(0, .ref 69), (1, .int l1)] [] V P := by
  unfold F_X5_reckoningCodes at h
  refine sx_aload_n (pc := 0) dX5_reckoningCodes_0 sx_m0 ?_
  obtain ⟨⟨x94, V92⟩, g93, h⟩ := sx_bnd h
  refine sv_cV (pc := 1) (y := qX5_pop) (o := (some (.int x94))) (as := []) (V1 := V92) hG dX5_reckoningCodes_1 l_X5_242 y0X5_pop yvX5_pop rfl (Nat.le_of_ble_eq_true rfl) lay_69 kr_5 (by decide) (Nat.le_of_ble_eq_true rfl) rfl rfl rfl (t_X5_pop hG ⟨rfl, rfl⟩ g93) ?_
  refine sx_i2l (pc := 4) dX5_reckoningCodes_4 ?_
  refine sv_tJ (fun x95 hx95 => ?_)
  have h := sx_letE hx95 h
  refine sx_lstore_n (pc := 5) (lo' := [(2, .long x95), (0, .ref 69), (1, .int l1)]) dX5_reckoningCodes_5 (by decide) rfl ?_
  refine sv_getS (pc := 6) (j := 5) dX5_reckoningCodes_6 rfl n_X5_160 ?_
  refine sx_iload_n (pc := 9) dX5_reckoningCodes_9 sx_m2 ?_
  obtain ⟨g96, h⟩ := sx_grd h
  refine sv_xld (pc := 10) hG dX5_reckoningCodes_10 lay_1006 g96 ?_
  refine sx_iconst (pc := 11) (v := 2) dX5_reckoningCodes_11 (by decide) ?_
  refine sx_icmp_ne (pc := 12) (tgt := 23) dX5_reckoningCodes_12 (by decide) (fun c97 => ?_) (fun c97 => ?_)
  · have h := sx_neg c97 h
    refine sx_lconst (pc := 23) (v := 0) dX5_reckoningCodes_23 rfl ?_
    refine sx_wk (sx_s1 sx_m1 (sx_s1 sx_m2 (sx_s1 sx_m0 sx_s0))) ?_
    exact tB_X5_reckoningCodes_24 hG hP  h
  · have h := sx_pos c97 h
    refine sx_aload_n (pc := 15) dX5_reckoningCodes_15 sx_m1 ?_
    obtain ⟨⟨x100, V98⟩, g99, h⟩ := sx_bnd h
    refine sv_cV (pc := 16) (y := qX5_pop) (o := (some (.int x100))) (as := []) (V1 := V98) hG dX5_reckoningCodes_16 l_X5_242 y0X5_pop yvX5_pop rfl (Nat.le_of_ble_eq_true rfl) lay_69 kr_5 (by decide) (Nat.le_of_ble_eq_true rfl) rfl rfl rfl (t_X5_pop hG ⟨rfl, rfl⟩ g99) ?_
    refine sx_i2l (pc := 19) dX5_reckoningCodes_19 ?_
    refine sx_goto (pc := 20) (tgt := 24) dX5_reckoningCodes_20 (by decide) ?_
    refine sx_wk (sx_s1 sx_m1 (sx_s1 sx_m2 (sx_s1 sx_m0 sx_s0))) ?_
    exact tB_X5_reckoningCodes_24 hG hP  h
theorem dX5_touchPoint_0 : decode cX5_touchPoint 0 = .ok (.aload_n 0, 1) := by decide +kernel
theorem dX5_touchPoint_1 : decode cX5_touchPoint 1 = .ok (.invokevirtual 242, 3) := by decide +kernel
theorem dX5_touchPoint_4 : decode cX5_touchPoint 4 = .ok (.istore_n 2, 1) := by decide +kernel
theorem dX5_touchPoint_5 : decode cX5_touchPoint 5 = .ok (.aload_n 0, 1) := by decide +kernel
theorem dX5_touchPoint_6 : decode cX5_touchPoint 6 = .ok (.iconst 0, 1) := by decide +kernel
theorem dX5_touchPoint_7 : decode cX5_touchPoint 7 = .ok (.invokevirtual 255, 3) := by decide +kernel
theorem dX5_touchPoint_10 : decode cX5_touchPoint 10 = .ok (.astore_n 3, 1) := by decide +kernel
theorem dX5_touchPoint_11 : decode cX5_touchPoint 11 = .ok (.aload_n 0, 1) := by decide +kernel
theorem dX5_touchPoint_12 : decode cX5_touchPoint 12 = .ok (.aload_n 3, 1) := by decide +kernel
theorem dX5_touchPoint_13 : decode cX5_touchPoint 13 = .ok (.iload_n 2, 1) := by decide +kernel
theorem dX5_touchPoint_14 : decode cX5_touchPoint 14 = .ok (.invokevirtual 259, 3) := by decide +kernel
theorem dX5_touchPoint_17 : decode cX5_touchPoint 17 = .ok (.ifCond .ne 4, 3) := by decide +kernel
theorem dX5_touchPoint_20 : decode cX5_touchPoint 20 = .ok (.return_, 1) := by decide +kernel
theorem dX5_touchPoint_21 : decode cX5_touchPoint 21 = .ok (.aload_n 0, 1) := by decide +kernel
theorem dX5_touchPoint_22 : decode cX5_touchPoint 22 = .ok (.aload_n 3, 1) := by decide +kernel
theorem dX5_touchPoint_23 : decode cX5_touchPoint 23 = .ok (.getfield 198, 3) := by decide +kernel
theorem dX5_touchPoint_26 : decode cX5_touchPoint 26 = .ok (.iload_n 2, 1) := by decide +kernel
theorem dX5_touchPoint_27 : decode cX5_touchPoint 27 = .ok (.iaload, 1) := by decide +kernel
theorem dX5_touchPoint_28 : decode cX5_touchPoint 28 = .ok (.i2l, 1) := by decide +kernel
theorem dX5_touchPoint_29 : decode cX5_touchPoint 29 = .ok (.aload_n 3, 1) := by decide +kernel
theorem dX5_touchPoint_30 : decode cX5_touchPoint 30 = .ok (.getfield 201, 3) := by decide +kernel
theorem dX5_touchPoint_33 : decode cX5_touchPoint 33 = .ok (.iload_n 2, 1) := by decide +kernel
theorem dX5_touchPoint_34 : decode cX5_touchPoint 34 = .ok (.iaload, 1) := by decide +kernel
theorem dX5_touchPoint_35 : decode cX5_touchPoint 35 = .ok (.i2l, 1) := by decide +kernel
theorem dX5_touchPoint_36 : decode cX5_touchPoint 36 = .ok (.invokevirtual 465, 3) := by decide +kernel
theorem dX5_touchPoint_39 : decode cX5_touchPoint 39 = .ok (.lstore 4, 2) := by decide +kernel
theorem dX5_touchPoint_41 : decode cX5_touchPoint 41 = .ok (.aload_n 0, 1) := by decide +kernel
theorem dX5_touchPoint_42 : decode cX5_touchPoint 42 = .ok (.aload_n 3, 1) := by decide +kernel
theorem dX5_touchPoint_43 : decode cX5_touchPoint 43 = .ok (.iload_n 2, 1) := by decide +kernel
theorem dX5_touchPoint_44 : decode cX5_touchPoint 44 = .ok (.iload_n 1, 1) := by decide +kernel
theorem dX5_touchPoint_45 : decode cX5_touchPoint 45 = .ok (.bipush 47, 2) := by decide +kernel
theorem dX5_touchPoint_47 : decode cX5_touchPoint 47 = .ok (.if_icmp .ne 18, 3) := by decide +kernel
theorem dX5_touchPoint_50 : decode cX5_touchPoint 50 = .ok (.aload_n 0, 1) := by decide +kernel
theorem dX5_touchPoint_51 : decode cX5_touchPoint 51 = .ok (.getfield 12, 3) := by decide +kernel
theorem dX5_touchPoint_54 : decode cX5_touchPoint 54 = .ok (.lload 4, 2) := by decide +kernel
theorem dX5_touchPoint_56 : decode cX5_touchPoint 56 = .ok (.invokevirtual 414, 3) := by decide +kernel
theorem dX5_touchPoint_59 : decode cX5_touchPoint 59 = .ok (.lload 4, 2) := by decide +kernel
theorem dX5_touchPoint_61 : decode cX5_touchPoint 61 = .ok (.lsub, 1) := by decide +kernel
theorem dX5_touchPoint_62 : decode cX5_touchPoint 62 = .ok (.goto 4, 3) := by decide +kernel
theorem dX5_touchPoint_65 : decode cX5_touchPoint 65 = .ok (.lconst 0, 1) := by decide +kernel
theorem dX5_touchPoint_66 : decode cX5_touchPoint 66 = .ok (.invokevirtual 461, 3) := by decide +kernel
theorem dX5_touchPoint_69 : decode cX5_touchPoint 69 = .ok (.aload_n 0, 1) := by decide +kernel
theorem dX5_touchPoint_70 : decode cX5_touchPoint 70 = .ok (.getfield 12, 3) := by decide +kernel
theorem dX5_touchPoint_73 : decode cX5_touchPoint 73 = .ok (.getfield 275, 3) := by decide +kernel
theorem dX5_touchPoint_76 : decode cX5_touchPoint 76 = .ok (.iconst 0, 1) := by decide +kernel
theorem dX5_touchPoint_77 : decode cX5_touchPoint 77 = .ok (.iload_n 2, 1) := by decide +kernel
theorem dX5_touchPoint_78 : decode cX5_touchPoint 78 = .ok (.iastore, 1) := by decide +kernel
theorem dX5_touchPoint_79 : decode cX5_touchPoint 79 = .ok (.aload_n 0, 1) := by decide +kernel
theorem dX5_touchPoint_80 : decode cX5_touchPoint 80 = .ok (.getfield 12, 3) := by decide +kernel
theorem dX5_touchPoint_83 : decode cX5_touchPoint 83 = .ok (.getfield 275, 3) := by decide +kernel
theorem dX5_touchPoint_86 : decode cX5_touchPoint 86 = .ok (.iconst 1, 1) := by decide +kernel
theorem dX5_touchPoint_87 : decode cX5_touchPoint 87 = .ok (.iload_n 2, 1) := by decide +kernel
theorem dX5_touchPoint_88 : decode cX5_touchPoint 88 = .ok (.iastore, 1) := by decide +kernel
theorem dX5_touchPoint_89 : decode cX5_touchPoint 89 = .ok (.return_, 1) := by decide +kernel
def B_X5_touchPoint_66  (l2 : Int32) (s1 : Nat) (s2 : Int32) (s3 : Int64) (V : sv_V) : Option sv_V := (F_X5_move s1 s2 s3 V).bind (fun V1 => sx_let (sv_I V1 71 (0 : Int32).toNatClampNeg l2) (fun V3 => sx_let (sv_I V3 71 (1 : Int32).toNatClampNeg l2) (fun V4 => some V4)))
set_option maxRecDepth 20000 in
theorem tB_X5_touchPoint_66 {g : sx_G} (hG : sx_Go g) {P : Option Value → sv_V → Prop} {Vr : sv_V} (hP : P none Vr)   {l2 : Int32} {s1 : Nat} {s2 : Int32} {s3 : Int64} {V : sv_V} (h : B_X5_touchPoint_66  l2 s1 s2 s3 V = some Vr) : sv_N g qX5_touchPoint 2 66 [(0, .ref 69), (2, .int l2)] [.long s3, .int s2, .ref s1, .ref 69] V P := by
  unfold B_X5_touchPoint_66 at h
  obtain ⟨V1, g2, h⟩ := sx_bnd h
  refine sv_cV (pc := 66) (y := qX5_move) (o := none) (as := [.ref s1, .int s2, .long s3]) (V1 := V1) hG dX5_touchPoint_66 l_X5_461 y0X5_move yvX5_move rfl (Nat.le_of_ble_eq_true rfl) lay_69 kr_5 (by decide) (Nat.le_of_ble_eq_true rfl) rfl rfl rfl (t_X5_move hG ⟨rfl, rfl⟩ g2) ?_
  refine sx_aload_n (pc := 69) dX5_touchPoint_69 sx_m0 ?_
  refine sv_getO (pc := 70) hG dX5_touchPoint_70 f_5_12 lay_69 rfl cr_69_1 ?_
  refine sv_getA (pc := 73) hG dX5_touchPoint_73 f_5_275 lay_70 rfl cr_70_6 ?_
  refine sx_iconst (pc := 76) (v := 0) dX5_touchPoint_76 (by decide) ?_
  refine sx_iload_n (pc := 77) dX5_touchPoint_77 sx_m1 ?_
  obtain ⟨V3, hV3⟩ : ∃ z : sv_V, z = sv_I V1 71 (0 : Int32).toNatClampNeg l2 := ⟨_, rfl⟩
  have h := sx_letE hV3 h
  refine sv_iast (pc := 78) hG dX5_touchPoint_78 lay_71 (by decide) hV3 ?_
  refine sx_aload_n (pc := 79) dX5_touchPoint_79 sx_m0 ?_
  refine sv_getO (pc := 80) hG dX5_touchPoint_80 f_5_12 lay_69 rfl cr_69_1 ?_
  refine sv_getA (pc := 83) hG dX5_touchPoint_83 f_5_275 lay_70 rfl cr_70_6 ?_
  refine sx_iconst (pc := 86) (v := 1) dX5_touchPoint_86 (by decide) ?_
  refine sx_iload_n (pc := 87) dX5_touchPoint_87 sx_m1 ?_
  obtain ⟨V4, hV4⟩ : ∃ z : sv_V, z = sv_I V3 71 (1 : Int32).toNatClampNeg l2 := ⟨_, rfl⟩
  have h := sx_letE hV4 h
  refine sv_iast (pc := 88) hG dX5_touchPoint_88 lay_71 (by decide) hV4 ?_
  exact sv_vret (pc := 89) dX5_touchPoint_89 rfl h hP
def F_X5_touchPoint (l1 : Int32) (V : sv_V) : Option sv_V := (F_X5_pop  V).bind (fun (x7, V5) => (F_X5_zone (0 : Int32) V5).bind (fun (x10, V8) => (F_X5_isThere x10 x7 V8).bind (fun (x13, V11) => if x13 = 0 then (some V11) else (if lay x10 = .inl 8 then (cr x10 0).bind (fun b16 => (sv_len 0 b16).bind (fun n18 => if sx_in x7 n18 = true then (cr x10 1).bind (fun b21 => (sv_len 0 b21).bind (fun n23 => if sx_in x7 n23 = true then (F_X5_longByP ((V11.1 b16 x7.toNatClampNeg).toInt64) ((V11.1 b21 x7.toNatClampNeg).toInt64) V11).bind (fun (x28, V26) => if l1 = (47 : Int32) then ((F_X9_rounded x28 V26).bind (fun (x32, V30) => B_X5_touchPoint_66  x7 x10 x7 (x32 - x28) V30)) else (B_X5_touchPoint_66  x7 x10 x7 (0 : Int64) V26)) else none)) else none)) else none))))
set_option maxRecDepth 20000 in
theorem t_X5_touchPoint {g : sx_G} (hG : sx_Go g) {P : Option Value → sv_V → Prop} {Vr : sv_V} (hP : P none Vr) {l1 : Int32} {V : sv_V} (h : F_X5_touchPoint l1 V = some Vr) : sv_N g qX5_touchPoint 2 0 [(0, .ref 69), (1, .int l1)] [] V P := by
  unfold F_X5_touchPoint at h
  refine sx_aload_n (pc := 0) dX5_touchPoint_0 sx_m0 ?_
  obtain ⟨⟨x7, V5⟩, g6, h⟩ := sx_bnd h
  refine sv_cV (pc := 1) (y := qX5_pop) (o := (some (.int x7))) (as := []) (V1 := V5) hG dX5_touchPoint_1 l_X5_242 y0X5_pop yvX5_pop rfl (Nat.le_of_ble_eq_true rfl) lay_69 kr_5 (by decide) (Nat.le_of_ble_eq_true rfl) rfl rfl rfl (t_X5_pop hG ⟨rfl, rfl⟩ g6) ?_
  refine sx_istore_n (pc := 4) (lo' := [(2, .int x7), (0, .ref 69), (1, .int l1)]) dX5_touchPoint_4 (by decide) rfl ?_
  refine sx_aload_n (pc := 5) dX5_touchPoint_5 sx_m1 ?_
  refine sx_iconst (pc := 6) (v := 0) dX5_touchPoint_6 (by decide) ?_
  obtain ⟨⟨x10, V8⟩, g9, h⟩ := sx_bnd h
  refine sv_cV (pc := 7) (y := qX5_zone) (o := (some (.ref x10))) (as := [.int (0 : Int32)]) (V1 := V8) hG dX5_touchPoint_7 l_X5_255 y0X5_zone yvX5_zone rfl (Nat.le_of_ble_eq_true rfl) lay_69 kr_5 (by decide) (Nat.le_of_ble_eq_true rfl) rfl rfl rfl (t_X5_zone hG ⟨rfl, rfl⟩ g9) ?_
  refine sx_astore_n (pc := 10) (lo' := [(3, .ref x10), (2, .int x7), (0, .ref 69), (1, .int l1)]) dX5_touchPoint_10 (by decide) rfl ?_
  refine sx_aload_n (pc := 11) dX5_touchPoint_11 sx_m2 ?_
  refine sx_aload_n (pc := 12) dX5_touchPoint_12 sx_m0 ?_
  refine sx_iload_n (pc := 13) dX5_touchPoint_13 sx_m1 ?_
  obtain ⟨⟨x13, V11⟩, g12, h⟩ := sx_bnd h
  refine sv_cV (pc := 14) (y := qX5_isThere) (o := (some (.int x13))) (as := [.ref x10, .int x7]) (V1 := V11) hG dX5_touchPoint_14 l_X5_259 y0X5_isThere yvX5_isThere rfl (Nat.le_of_ble_eq_true rfl) lay_69 kr_5 (by decide) (Nat.le_of_ble_eq_true rfl) rfl rfl rfl (t_X5_isThere hG ⟨rfl, rfl⟩ g12) ?_
  refine sx_if_ne (pc := 17) (tgt := 21) dX5_touchPoint_17 (by decide) (fun c14 => ?_) (fun c14 => ?_)
  · have h := sx_neg c14 h
    refine sx_aload_n (pc := 21) dX5_touchPoint_21 sx_m2 ?_
    refine sx_aload_n (pc := 22) dX5_touchPoint_22 sx_m0 ?_
    obtain ⟨g15, h⟩ := sx_grd h
    obtain ⟨b16, g17, h⟩ := sx_bnd h
    refine sv_getA (pc := 23) hG dX5_touchPoint_23 f_5_198 g15 rfl g17 ?_
    refine sx_iload_n (pc := 26) dX5_touchPoint_26 sx_m1 ?_
    obtain ⟨n18, g19, h⟩ := sx_bnd h
    obtain ⟨g20, h⟩ := sx_grd h
    refine sv_iald (pc := 27) hG dX5_touchPoint_27 (sv_len_e g19) g20 ?_
    refine sx_i2l (pc := 28) dX5_touchPoint_28 ?_
    refine sx_aload_n (pc := 29) dX5_touchPoint_29 sx_m0 ?_
    obtain ⟨b21, g22, h⟩ := sx_bnd h
    refine sv_getA (pc := 30) hG dX5_touchPoint_30 f_5_201 g15 rfl g22 ?_
    refine sx_iload_n (pc := 33) dX5_touchPoint_33 sx_m1 ?_
    obtain ⟨n23, g24, h⟩ := sx_bnd h
    obtain ⟨g25, h⟩ := sx_grd h
    refine sv_iald (pc := 34) hG dX5_touchPoint_34 (sv_len_e g24) g25 ?_
    refine sx_i2l (pc := 35) dX5_touchPoint_35 ?_
    obtain ⟨⟨x28, V26⟩, g27, h⟩ := sx_bnd h
    refine sv_cV (pc := 36) (y := qX5_longByP) (o := (some (.long x28))) (as := [.long ((V11.1 b16 x7.toNatClampNeg).toInt64), .long ((V11.1 b21 x7.toNatClampNeg).toInt64)]) (V1 := V26) hG dX5_touchPoint_36 l_X5_465 y0X5_longByP yvX5_longByP rfl (Nat.le_of_ble_eq_true rfl) lay_69 kr_5 (by decide) (Nat.le_of_ble_eq_true rfl) rfl rfl rfl (t_X5_longByP hG ⟨rfl, rfl⟩ g27) ?_
    refine sx_lstore (pc := 39) (lo' := [(4, .long x28), (3, .ref x10), (2, .int x7), (0, .ref 69), (1, .int l1)]) dX5_touchPoint_39 (by decide) rfl ?_
    refine sx_aload_n (pc := 41) dX5_touchPoint_41 sx_m3 ?_
    refine sx_aload_n (pc := 42) dX5_touchPoint_42 sx_m1 ?_
    refine sx_iload_n (pc := 43) dX5_touchPoint_43 sx_m2 ?_
    refine sx_iload_n (pc := 44) dX5_touchPoint_44 sx_m4 ?_
    refine sx_bipush (pc := 45) (v := 47) dX5_touchPoint_45 (by decide) ?_
    refine sx_icmp_ne (pc := 47) (tgt := 65) dX5_touchPoint_47 (by decide) (fun c29 => ?_) (fun c29 => ?_)
    · have h := sx_neg c29 h
      refine sx_lconst (pc := 65) (v := 0) dX5_touchPoint_65 rfl ?_
      refine sx_wk (sx_s1 sx_m3 (sx_s1 sx_m2 sx_s0)) ?_
      exact tB_X5_touchPoint_66 hG hP  h
    · have h := sx_pos c29 h
      refine sx_aload_n (pc := 50) dX5_touchPoint_50 sx_m3 ?_
      refine sv_getO (pc := 51) hG dX5_touchPoint_51 f_5_12 lay_69 rfl cr_69_1 ?_
      refine sx_lload (pc := 54) dX5_touchPoint_54 sx_m0 ?_
      obtain ⟨⟨x32, V30⟩, g31, h⟩ := sx_bnd h
      refine sv_cV (pc := 56) (y := qX9_rounded) (o := (some (.long x32))) (as := [.long x28]) (V1 := V30) hG dX5_touchPoint_56 l_X5_414 y0X9_rounded yvX9_rounded rfl (Nat.le_of_ble_eq_true rfl) lay_70 kr_9 (by decide) (Nat.le_of_ble_eq_true rfl) rfl rfl rfl (t_X9_rounded hG ⟨rfl, rfl⟩ g31) ?_
      refine sx_lload (pc := 59) dX5_touchPoint_59 sx_m0 ?_
      refine sx_lsub (pc := 61) dX5_touchPoint_61 ?_
      refine sx_goto (pc := 62) (tgt := 66) dX5_touchPoint_62 (by decide) ?_
      refine sx_wk (sx_s1 sx_m3 (sx_s1 sx_m2 sx_s0)) ?_
      exact tB_X5_touchPoint_66 hG hP  h
  · have h := sx_pos c14 h
    exact sv_vret (pc := 20) dX5_touchPoint_20 rfl h hP
theorem dX5_fillUntouched_0 : decode cX5_fillUntouched 0 = .ok (.iconst 0, 1) := by decide +kernel
theorem dX5_fillUntouched_1 : decode cX5_fillUntouched 1 = .ok (.istore 4, 2) := by decide +kernel
theorem dX5_fillUntouched_3 : decode cX5_fillUntouched 3 = .ok (.iload 4, 2) := by decide +kernel
theorem dX5_fillUntouched_5 : decode cX5_fillUntouched 5 = .ok (.aload_n 0, 1) := by decide +kernel
theorem dX5_fillUntouched_6 : decode cX5_fillUntouched 6 = .ok (.getfield 38, 3) := by decide +kernel
theorem dX5_fillUntouched_9 : decode cX5_fillUntouched 9 = .ok (.getfield 480, 3) := by decide +kernel
theorem dX5_fillUntouched_12 : decode cX5_fillUntouched 12 = .ok (.if_icmp .ge 121, 3) := by decide +kernel
theorem dX5_fillUntouched_15 : decode cX5_fillUntouched 15 = .ok (.aload_n 0, 1) := by decide +kernel
theorem dX5_fillUntouched_16 : decode cX5_fillUntouched 16 = .ok (.getfield 38, 3) := by decide +kernel
theorem dX5_fillUntouched_19 : decode cX5_fillUntouched 19 = .ok (.iload 4, 2) := by decide +kernel
theorem dX5_fillUntouched_21 : decode cX5_fillUntouched 21 = .ok (.invokevirtual 483, 3) := by decide +kernel
theorem dX5_fillUntouched_24 : decode cX5_fillUntouched 24 = .ok (.istore 5, 2) := by decide +kernel
theorem dX5_fillUntouched_26 : decode cX5_fillUntouched 26 = .ok (.aload_n 0, 1) := by decide +kernel
theorem dX5_fillUntouched_27 : decode cX5_fillUntouched 27 = .ok (.getfield 38, 3) := by decide +kernel
theorem dX5_fillUntouched_30 : decode cX5_fillUntouched 30 = .ok (.getfield 486, 3) := by decide +kernel
theorem dX5_fillUntouched_33 : decode cX5_fillUntouched 33 = .ok (.iload 4, 2) := by decide +kernel
theorem dX5_fillUntouched_35 : decode cX5_fillUntouched 35 = .ok (.iaload, 1) := by decide +kernel
theorem dX5_fillUntouched_36 : decode cX5_fillUntouched 36 = .ok (.iload 5, 2) := by decide +kernel
theorem dX5_fillUntouched_38 : decode cX5_fillUntouched 38 = .ok (.isub, 1) := by decide +kernel
theorem dX5_fillUntouched_39 : decode cX5_fillUntouched 39 = .ok (.iconst 1, 1) := by decide +kernel
theorem dX5_fillUntouched_40 : decode cX5_fillUntouched 40 = .ok (.iadd, 1) := by decide +kernel
theorem dX5_fillUntouched_41 : decode cX5_fillUntouched 41 = .ok (.istore 6, 2) := by decide +kernel
theorem dX5_fillUntouched_43 : decode cX5_fillUntouched 43 = .ok (.aload_n 0, 1) := by decide +kernel
theorem dX5_fillUntouched_44 : decode cX5_fillUntouched 44 = .ok (.iload 5, 2) := by decide +kernel
theorem dX5_fillUntouched_46 : decode cX5_fillUntouched 46 = .ok (.iload 6, 2) := by decide +kernel
theorem dX5_fillUntouched_48 : decode cX5_fillUntouched 48 = .ok (.iload_n 3, 1) := by decide +kernel
theorem dX5_fillUntouched_49 : decode cX5_fillUntouched 49 = .ok (.invokevirtual 487, 3) := by decide +kernel
theorem dX5_fillUntouched_52 : decode cX5_fillUntouched 52 = .ok (.istore 7, 2) := by decide +kernel
theorem dX5_fillUntouched_54 : decode cX5_fillUntouched 54 = .ok (.iload 7, 2) := by decide +kernel
theorem dX5_fillUntouched_56 : decode cX5_fillUntouched 56 = .ok (.istore 8, 2) := by decide +kernel
theorem dX5_fillUntouched_58 : decode cX5_fillUntouched 58 = .ok (.iconst 1, 1) := by decide +kernel
theorem dX5_fillUntouched_59 : decode cX5_fillUntouched 59 = .ok (.istore 9, 2) := by decide +kernel
theorem dX5_fillUntouched_61 : decode cX5_fillUntouched 61 = .ok (.iload 7, 2) := by decide +kernel
theorem dX5_fillUntouched_63 : decode cX5_fillUntouched 63 = .ok (.iconst (-1), 1) := by decide +kernel
theorem dX5_fillUntouched_64 : decode cX5_fillUntouched 64 = .ok (.if_icmp .eq 63, 3) := by decide +kernel
theorem dX5_fillUntouched_67 : decode cX5_fillUntouched 67 = .ok (.iload 9, 2) := by decide +kernel
theorem dX5_fillUntouched_69 : decode cX5_fillUntouched 69 = .ok (.iload 6, 2) := by decide +kernel
theorem dX5_fillUntouched_71 : decode cX5_fillUntouched 71 = .ok (.if_icmp .gt 56, 3) := by decide +kernel
theorem dX5_fillUntouched_74 : decode cX5_fillUntouched 74 = .ok (.iload 5, 2) := by decide +kernel
theorem dX5_fillUntouched_76 : decode cX5_fillUntouched 76 = .ok (.iload 7, 2) := by decide +kernel
theorem dX5_fillUntouched_78 : decode cX5_fillUntouched 78 = .ok (.iload 5, 2) := by decide +kernel
theorem dX5_fillUntouched_80 : decode cX5_fillUntouched 80 = .ok (.isub, 1) := by decide +kernel
theorem dX5_fillUntouched_81 : decode cX5_fillUntouched 81 = .ok (.iload 9, 2) := by decide +kernel
theorem dX5_fillUntouched_83 : decode cX5_fillUntouched 83 = .ok (.iadd, 1) := by decide +kernel
theorem dX5_fillUntouched_84 : decode cX5_fillUntouched 84 = .ok (.iload 6, 2) := by decide +kernel
theorem dX5_fillUntouched_86 : decode cX5_fillUntouched 86 = .ok (.irem, 1) := by decide +kernel
theorem dX5_fillUntouched_87 : decode cX5_fillUntouched 87 = .ok (.iadd, 1) := by decide +kernel
theorem dX5_fillUntouched_88 : decode cX5_fillUntouched 88 = .ok (.istore 10, 2) := by decide +kernel
theorem dX5_fillUntouched_90 : decode cX5_fillUntouched 90 = .ok (.aload_n 0, 1) := by decide +kernel
theorem dX5_fillUntouched_91 : decode cX5_fillUntouched 91 = .ok (.getfield 38, 3) := by decide +kernel
theorem dX5_fillUntouched_94 : decode cX5_fillUntouched 94 = .ok (.getfield 220, 3) := by decide +kernel
theorem dX5_fillUntouched_97 : decode cX5_fillUntouched 97 = .ok (.iload 10, 2) := by decide +kernel
theorem dX5_fillUntouched_99 : decode cX5_fillUntouched 99 = .ok (.iaload, 1) := by decide +kernel
theorem dX5_fillUntouched_100 : decode cX5_fillUntouched 100 = .ok (.iload_n 3, 1) := by decide +kernel
theorem dX5_fillUntouched_101 : decode cX5_fillUntouched 101 = .ok (.iand, 1) := by decide +kernel
theorem dX5_fillUntouched_102 : decode cX5_fillUntouched 102 = .ok (.ifCond .eq 19, 3) := by decide +kernel
theorem dX5_fillUntouched_105 : decode cX5_fillUntouched 105 = .ok (.aload_n 0, 1) := by decide +kernel
theorem dX5_fillUntouched_106 : decode cX5_fillUntouched 106 = .ok (.aload_n 1, 1) := by decide +kernel
theorem dX5_fillUntouched_107 : decode cX5_fillUntouched 107 = .ok (.aload_n 2, 1) := by decide +kernel
theorem dX5_fillUntouched_108 : decode cX5_fillUntouched 108 = .ok (.iload 8, 2) := by decide +kernel
theorem dX5_fillUntouched_110 : decode cX5_fillUntouched 110 = .ok (.iload 10, 2) := by decide +kernel
theorem dX5_fillUntouched_112 : decode cX5_fillUntouched 112 = .ok (.iload 4, 2) := by decide +kernel
theorem dX5_fillUntouched_114 : decode cX5_fillUntouched 114 = .ok (.invokevirtual 491, 3) := by decide +kernel
theorem dX5_fillUntouched_117 : decode cX5_fillUntouched 117 = .ok (.iload 10, 2) := by decide +kernel
theorem dX5_fillUntouched_119 : decode cX5_fillUntouched 119 = .ok (.istore 8, 2) := by decide +kernel
theorem dX5_fillUntouched_121 : decode cX5_fillUntouched 121 = .ok (.iinc 9 1, 3) := by decide +kernel
theorem dX5_fillUntouched_124 : decode cX5_fillUntouched 124 = .ok (.goto (-63), 3) := by decide +kernel
theorem dX5_fillUntouched_127 : decode cX5_fillUntouched 127 = .ok (.iinc 4 1, 3) := by decide +kernel
theorem dX5_fillUntouched_130 : decode cX5_fillUntouched 130 = .ok (.goto (-127), 3) := by decide +kernel
theorem dX5_fillUntouched_133 : decode cX5_fillUntouched 133 = .ok (.return_, 1) := by decide +kernel
def B_X5_fillUntouched_121 (N : Nat) (k3 : Nat → Nat → Int32 → Int32 → sv_V → Option sv_V) (k61 : Nat → Nat → Int32 → Int32 → Int32 → Int32 → Int32 → Int32 → Int32 → sv_V → Option sv_V) (l1 : Nat) (l2 : Nat) (l3 : Int32) (l4 : Int32) (l5 : Int32) (l6 : Int32) (l7 : Int32) (l8 : Int32) (l9 : Int32) (V : sv_V) : Option sv_V := sx_let (l9 + 1) (fun x1 => k61 l1 l2 l3 l4 l5 l6 l7 l8 x1 V)
set_option maxRecDepth 20000 in
theorem tB_X5_fillUntouched_121 {g : sx_G} (hG : sx_Go g) {P : Option Value → sv_V → Prop} {Vr : sv_V} (hP : P none Vr) {N : Nat} {k3 : Nat → Nat → Int32 → Int32 → sv_V → Option sv_V} {k61 : Nat → Nat → Int32 → Int32 → Int32 → Int32 → Int32 → Int32 → Int32 → sv_V → Option sv_V} (hk3 : ∀ (l1 : Nat) (l2 : Nat) (l3 : Int32) (l4 : Int32) (V : sv_V), k3 l1 l2 l3 l4 V = some Vr → sv_N g qX5_fillUntouched 2 3 [(0, .ref 69), (1, .ref l1), (2, .ref l2), (3, .int l3), (4, .int l4)] [] V P) (hk61 : ∀ (l1 : Nat) (l2 : Nat) (l3 : Int32) (l4 : Int32) (l5 : Int32) (l6 : Int32) (l7 : Int32) (l8 : Int32) (l9 : Int32) (V : sv_V), k61 l1 l2 l3 l4 l5 l6 l7 l8 l9 V = some Vr → sv_N g qX5_fillUntouched 2 61 [(0, .ref 69), (1, .ref l1), (2, .ref l2), (3, .int l3), (4, .int l4), (5, .int l5), (6, .int l6), (7, .int l7), (8, .int l8), (9, .int l9)] [] V P) {l1 : Nat} {l2 : Nat} {l3 : Int32} {l4 : Int32} {l5 : Int32} {l6 : Int32} {l7 : Int32} {l8 : Int32} {l9 : Int32} {V : sv_V} (h : B_X5_fillUntouched_121 N k3 k61 l1 l2 l3 l4 l5 l6 l7 l8 l9 V = some Vr) : sv_N g qX5_fillUntouched 2 121 [(0, .ref 69), (1, .ref l1), (2, .ref l2), (3, .int l3), (4, .int l4), (5, .int l5), (6, .int l6), (7, .int l7), (8, .int l8), (9, .int l9)] [] V P := by
  unfold B_X5_fillUntouched_121 at h
  obtain ⟨x1, hx1⟩ : ∃ z : Int32, z = l9 + 1 := ⟨_, rfl⟩
  have h := sx_letE hx1 h
  refine sx_iinc (pc := 121) (v := x1) (lo' := [(9, .int x1), (0, .ref 69), (1, .ref l1), (2, .ref l2), (3, .int l3), (4, .int l4), (5, .int l5), (6, .int l6), (7, .int l7), (8, .int l8)]) dX5_fillUntouched_121 sx_m9 (by rw [hx1]; rfl) (by decide) rfl ?_
  refine sx_goto (pc := 124) (tgt := 61) dX5_fillUntouched_124 (by decide) ?_
  refine sx_wk (sx_s1 sx_m1 (sx_s1 sx_m2 (sx_s1 sx_m3 (sx_s1 sx_m4 (sx_s1 sx_m5 (sx_s1 sx_m6 (sx_s1 sx_m7 (sx_s1 sx_m8 (sx_s1 sx_m9 (sx_s1 sx_m0 sx_s0)))))))))) ?_
  exact hk61 _ _ _ _ _ _ _ _ _ _ h
def B_X5_fillUntouched_127 (N : Nat) (k3 : Nat → Nat → Int32 → Int32 → sv_V → Option sv_V) (l1 : Nat) (l2 : Nat) (l3 : Int32) (l4 : Int32) (V : sv_V) : Option sv_V := sx_let (l4 + 1) (fun x2 => k3 l1 l2 l3 x2 V)
set_option maxRecDepth 20000 in
theorem tB_X5_fillUntouched_127 {g : sx_G} (hG : sx_Go g) {P : Option Value → sv_V → Prop} {Vr : sv_V} (hP : P none Vr) {N : Nat} {k3 : Nat → Nat → Int32 → Int32 → sv_V → Option sv_V} (hk3 : ∀ (l1 : Nat) (l2 : Nat) (l3 : Int32) (l4 : Int32) (V : sv_V), k3 l1 l2 l3 l4 V = some Vr → sv_N g qX5_fillUntouched 2 3 [(0, .ref 69), (1, .ref l1), (2, .ref l2), (3, .int l3), (4, .int l4)] [] V P) {l1 : Nat} {l2 : Nat} {l3 : Int32} {l4 : Int32} {V : sv_V} (h : B_X5_fillUntouched_127 N k3 l1 l2 l3 l4 V = some Vr) : sv_N g qX5_fillUntouched 2 127 [(0, .ref 69), (1, .ref l1), (2, .ref l2), (3, .int l3), (4, .int l4)] [] V P := by
  unfold B_X5_fillUntouched_127 at h
  obtain ⟨x2, hx2⟩ : ∃ z : Int32, z = l4 + 1 := ⟨_, rfl⟩
  have h := sx_letE hx2 h
  refine sx_iinc (pc := 127) (v := x2) (lo' := [(4, .int x2), (0, .ref 69), (1, .ref l1), (2, .ref l2), (3, .int l3)]) dX5_fillUntouched_127 sx_m4 (by rw [hx2]; rfl) (by decide) rfl ?_
  refine sx_goto (pc := 130) (tgt := 3) dX5_fillUntouched_130 (by decide) ?_
  refine sx_wk (sx_s1 sx_m1 (sx_s1 sx_m2 (sx_s1 sx_m3 (sx_s1 sx_m4 (sx_s1 sx_m0 sx_s0))))) ?_
  exact hk3 _ _ _ _ _ h
def B_X5_fillUntouched_61 (N : Nat) (k3 : Nat → Nat → Int32 → Int32 → sv_V → Option sv_V) (k61 : Nat → Nat → Int32 → Int32 → Int32 → Int32 → Int32 → Int32 → Int32 → sv_V → Option sv_V) (l1 : Nat) (l2 : Nat) (l3 : Int32) (l4 : Int32) (l5 : Int32) (l6 : Int32) (l7 : Int32) (l8 : Int32) (l9 : Int32) (V : sv_V) : Option sv_V := if l7 = (-1 : Int32) then (B_X5_fillUntouched_127 N k3 l1 l2 l3 l4 V) else (if l6 < l9 then (B_X5_fillUntouched_127 N k3 l1 l2 l3 l4 V) else (if ¬ l6 = 0 then sx_let (l5 + (((l7 - l5) + l9) - ((l7 - l5) + l9) / l6 * l6)) (fun x6 => (V.2.2 69 7).bind (fun b7 => if lay b7 = .inl 8 then (cr b7 4).bind (fun b10 => (sv_len 0 b10).bind (fun n12 => if sx_in x6 n12 = true then if ((V.1 b10 x6.toNatClampNeg) &&& l3) = 0 then (B_X5_fillUntouched_121 N k3 k61 l1 l2 l3 l4 l5 l6 l7 l8 l9 V) else ((F_X5_fillBetween N l1 l2 l8 x6 l4 V).bind (fun V16 => B_X5_fillUntouched_121 N k3 k61 l1 l2 l3 l4 l5 l6 l7 x6 l9 V16)) else none)) else none)) else none))
set_option maxRecDepth 20000 in
theorem tB_X5_fillUntouched_61 {g : sx_G} (hG : sx_Go g) {P : Option Value → sv_V → Prop} {Vr : sv_V} (hP : P none Vr) {N : Nat} {k3 : Nat → Nat → Int32 → Int32 → sv_V → Option sv_V} {k61 : Nat → Nat → Int32 → Int32 → Int32 → Int32 → Int32 → Int32 → Int32 → sv_V → Option sv_V} (hk3 : ∀ (l1 : Nat) (l2 : Nat) (l3 : Int32) (l4 : Int32) (V : sv_V), k3 l1 l2 l3 l4 V = some Vr → sv_N g qX5_fillUntouched 2 3 [(0, .ref 69), (1, .ref l1), (2, .ref l2), (3, .int l3), (4, .int l4)] [] V P) (hk61 : ∀ (l1 : Nat) (l2 : Nat) (l3 : Int32) (l4 : Int32) (l5 : Int32) (l6 : Int32) (l7 : Int32) (l8 : Int32) (l9 : Int32) (V : sv_V), k61 l1 l2 l3 l4 l5 l6 l7 l8 l9 V = some Vr → sv_N g qX5_fillUntouched 2 61 [(0, .ref 69), (1, .ref l1), (2, .ref l2), (3, .int l3), (4, .int l4), (5, .int l5), (6, .int l6), (7, .int l7), (8, .int l8), (9, .int l9)] [] V P) {l1 : Nat} {l2 : Nat} {l3 : Int32} {l4 : Int32} {l5 : Int32} {l6 : Int32} {l7 : Int32} {l8 : Int32} {l9 : Int32} {V : sv_V} (h : B_X5_fillUntouched_61 N k3 k61 l1 l2 l3 l4 l5 l6 l7 l8 l9 V = some Vr) : sv_N g qX5_fillUntouched 2 61 [(0, .ref 69), (1, .ref l1), (2, .ref l2), (3, .int l3), (4, .int l4), (5, .int l5), (6, .int l6), (7, .int l7), (8, .int l8), (9, .int l9)] [] V P := by
  unfold B_X5_fillUntouched_61 at h
  refine sx_iload (pc := 61) dX5_fillUntouched_61 sx_m7 ?_
  refine sx_iconst (pc := 63) (v := (-1)) dX5_fillUntouched_63 (by decide) ?_
  refine sx_icmp_eq (pc := 64) (tgt := 127) dX5_fillUntouched_64 (by decide) (fun c3 => ?_) (fun c3 => ?_)
  · have h := sx_pos c3 h
    refine sx_wk (sx_s1 sx_m0 (sx_s1 sx_m1 (sx_s1 sx_m2 (sx_s1 sx_m3 (sx_s1 sx_m4 sx_s0))))) ?_
    exact tB_X5_fillUntouched_127 hG hP hk3 h
  · have h := sx_neg c3 h
    refine sx_iload (pc := 67) dX5_fillUntouched_67 sx_m9 ?_
    refine sx_iload (pc := 69) dX5_fillUntouched_69 sx_m6 ?_
    refine sx_icmp_gt (pc := 71) (tgt := 127) dX5_fillUntouched_71 (by decide) (fun c4 => ?_) (fun c4 => ?_)
    · have h := sx_pos c4 h
      refine sx_wk (sx_s1 sx_m0 (sx_s1 sx_m1 (sx_s1 sx_m2 (sx_s1 sx_m3 (sx_s1 sx_m4 sx_s0))))) ?_
      exact tB_X5_fillUntouched_127 hG hP hk3 h
    · have h := sx_neg c4 h
      refine sx_iload (pc := 74) dX5_fillUntouched_74 sx_m5 ?_
      refine sx_iload (pc := 76) dX5_fillUntouched_76 sx_m7 ?_
      refine sx_iload (pc := 78) dX5_fillUntouched_78 sx_m5 ?_
      refine sx_isub (pc := 80) dX5_fillUntouched_80 ?_
      refine sx_iload (pc := 81) dX5_fillUntouched_81 sx_m9 ?_
      refine sx_iadd (pc := 83) dX5_fillUntouched_83 ?_
      refine sx_iload (pc := 84) dX5_fillUntouched_84 sx_m6 ?_
      obtain ⟨g5, h⟩ := sx_grd h
      refine sx_irem (pc := 86) dX5_fillUntouched_86 g5 ?_
      refine sx_iadd (pc := 87) dX5_fillUntouched_87 ?_
      refine sv_tI (fun x6 hx6 => ?_)
      have h := sx_letE hx6 h
      refine sx_istore (pc := 88) (lo' := [(10, .int x6), (0, .ref 69), (1, .ref l1), (2, .ref l2), (3, .int l3), (4, .int l4), (5, .int l5), (6, .int l6), (7, .int l7), (8, .int l8), (9, .int l9)]) dX5_fillUntouched_88 (by decide) rfl ?_
      refine sx_aload_n (pc := 90) dX5_fillUntouched_90 sx_m1 ?_
      obtain ⟨b7, g8, h⟩ := sx_bnd h
      refine sv_getV (pc := 91) hG dX5_fillUntouched_91 f_5_38 lay_69 rfl rfl g8 ?_
      obtain ⟨g9, h⟩ := sx_grd h
      obtain ⟨b10, g11, h⟩ := sx_bnd h
      refine sv_getA (pc := 94) hG dX5_fillUntouched_94 f_5_220 g9 rfl g11 ?_
      refine sx_iload (pc := 97) dX5_fillUntouched_97 sx_m0 ?_
      obtain ⟨n12, g13, h⟩ := sx_bnd h
      obtain ⟨g14, h⟩ := sx_grd h
      refine sv_iald (pc := 99) hG dX5_fillUntouched_99 (sv_len_e g13) g14 ?_
      refine sx_iload_n (pc := 100) dX5_fillUntouched_100 sx_m4 ?_
      refine sx_iand (pc := 101) dX5_fillUntouched_101 ?_
      refine sx_if_eq (pc := 102) (tgt := 121) dX5_fillUntouched_102 (by decide) (fun c15 => ?_) (fun c15 => ?_)
      · have h := sx_pos c15 h
        refine sx_wk (sx_s1 sx_m1 (sx_s1 sx_m2 (sx_s1 sx_m3 (sx_s1 sx_m4 (sx_s1 sx_m5 (sx_s1 sx_m6 (sx_s1 sx_m7 (sx_s1 sx_m8 (sx_s1 sx_m9 (sx_s1 sx_m10 sx_s0)))))))))) ?_
        exact tB_X5_fillUntouched_121 hG hP hk3 hk61 h
      · have h := sx_neg c15 h
        refine sx_aload_n (pc := 105) dX5_fillUntouched_105 sx_m1 ?_
        refine sx_aload_n (pc := 106) dX5_fillUntouched_106 sx_m2 ?_
        refine sx_aload_n (pc := 107) dX5_fillUntouched_107 sx_m3 ?_
        refine sx_iload (pc := 108) dX5_fillUntouched_108 sx_m9 ?_
        refine sx_iload (pc := 110) dX5_fillUntouched_110 sx_m0 ?_
        refine sx_iload (pc := 112) dX5_fillUntouched_112 sx_m5 ?_
        obtain ⟨V16, g17, h⟩ := sx_bnd h
        refine sv_cV (pc := 114) (y := qX5_fillBetween) (o := none) (as := [.ref l1, .ref l2, .int l8, .int x6, .int l4]) (V1 := V16) hG dX5_fillUntouched_114 l_X5_491 y0X5_fillBetween yvX5_fillBetween rfl (Nat.le_of_ble_eq_true rfl) lay_69 kr_5 (by decide) (Nat.le_of_ble_eq_true rfl) rfl rfl rfl (t_X5_fillBetween hG ⟨rfl, rfl⟩ g17) ?_
        refine sx_iload (pc := 117) dX5_fillUntouched_117 sx_m0 ?_
        refine sx_istore (pc := 119) (lo' := [(8, .int x6), (10, .int x6), (0, .ref 69), (1, .ref l1), (2, .ref l2), (3, .int l3), (4, .int l4), (5, .int l5), (6, .int l6), (7, .int l7), (9, .int l9)]) dX5_fillUntouched_119 (by decide) rfl ?_
        refine sx_wk (sx_s1 sx_m2 (sx_s1 sx_m3 (sx_s1 sx_m4 (sx_s1 sx_m5 (sx_s1 sx_m6 (sx_s1 sx_m7 (sx_s1 sx_m8 (sx_s1 sx_m9 (sx_s1 sx_m0 (sx_s1 sx_m10 sx_s0)))))))))) ?_
        exact tB_X5_fillUntouched_121 hG hP hk3 hk61 h
theorem tL_X5_fillUntouched_61 {g : sx_G} (hG : sx_Go g) {P : Option Value → sv_V → Prop} {Vr : sv_V} (hP : P none Vr) {N : Nat} {k3 : Nat → Nat → Int32 → Int32 → sv_V → Option sv_V} (hk3 : ∀ (l1 : Nat) (l2 : Nat) (l3 : Int32) (l4 : Int32) (V : sv_V), k3 l1 l2 l3 l4 V = some Vr → sv_N g qX5_fillUntouched 2 3 [(0, .ref 69), (1, .ref l1), (2, .ref l2), (3, .int l3), (4, .int l4)] [] V P) : ∀ (n : Nat) (l1 : Nat) (l2 : Nat) (l3 : Int32) (l4 : Int32) (l5 : Int32) (l6 : Int32) (l7 : Int32) (l8 : Int32) (l9 : Int32) (V : sv_V), sx_lp10 (B_X5_fillUntouched_61 N k3) n l1 l2 l3 l4 l5 l6 l7 l8 l9 V = some Vr → sv_N g qX5_fillUntouched 2 61 [(0, .ref 69), (1, .ref l1), (2, .ref l2), (3, .int l3), (4, .int l4), (5, .int l5), (6, .int l6), (7, .int l7), (8, .int l8), (9, .int l9)] [] V P :=
  sx_lp10_ind (fun k0 ih _ _ _ _ _ _ _ _ _ V h => tB_X5_fillUntouched_61 hG hP hk3 ih h)
def B_X5_fillUntouched_3 (N : Nat) (k3 : Nat → Nat → Int32 → Int32 → sv_V → Option sv_V) (l1 : Nat) (l2 : Nat) (l3 : Int32) (l4 : Int32) (V : sv_V) : Option sv_V := (V.2.2 69 7).bind (fun b18 => if lay b18 = .inl 8 then if (V.1 b18 10) ≤ l4 then (some V) else ((V.2.2 69 7).bind (fun b22 => (F_X8_firstOf b22 l4 V).bind (fun (x26, V24) => if lay b22 = .inl 8 then (V24.2.2 69 7).bind (fun b28 => if lay b28 = .inl 8 then (cr b28 6).bind (fun b31 => (sv_len 0 b31).bind (fun n33 => if sx_in l4 n33 = true then sx_let (((V24.1 b31 l4.toNatClampNeg) - x26) + (1 : Int32)) (fun x36 => (F_X5_firstTouched N x26 x36 l3 V24).bind (fun (x39, V37) => sx_lp10 (B_X5_fillUntouched_61 N k3) N l1 l2 l3 l4 x26 x36 x39 x39 (1 : Int32) V37)) else none)) else none) else none))) else none)
set_option maxRecDepth 20000 in
theorem tB_X5_fillUntouched_3 {g : sx_G} (hG : sx_Go g) {P : Option Value → sv_V → Prop} {Vr : sv_V} (hP : P none Vr) {N : Nat} {k3 : Nat → Nat → Int32 → Int32 → sv_V → Option sv_V} (hk3 : ∀ (l1 : Nat) (l2 : Nat) (l3 : Int32) (l4 : Int32) (V : sv_V), k3 l1 l2 l3 l4 V = some Vr → sv_N g qX5_fillUntouched 2 3 [(0, .ref 69), (1, .ref l1), (2, .ref l2), (3, .int l3), (4, .int l4)] [] V P) {l1 : Nat} {l2 : Nat} {l3 : Int32} {l4 : Int32} {V : sv_V} (h : B_X5_fillUntouched_3 N k3 l1 l2 l3 l4 V = some Vr) : sv_N g qX5_fillUntouched 2 3 [(0, .ref 69), (1, .ref l1), (2, .ref l2), (3, .int l3), (4, .int l4)] [] V P := by
  unfold B_X5_fillUntouched_3 at h
  refine sx_iload (pc := 3) dX5_fillUntouched_3 sx_m4 ?_
  refine sx_aload_n (pc := 5) dX5_fillUntouched_5 sx_m0 ?_
  obtain ⟨b18, g19, h⟩ := sx_bnd h
  refine sv_getV (pc := 6) hG dX5_fillUntouched_6 f_5_38 lay_69 rfl rfl g19 ?_
  obtain ⟨g20, h⟩ := sx_grd h
  refine sv_getI (pc := 9) hG dX5_fillUntouched_9 f_5_480 g20 rfl ?_
  refine sx_icmp_ge (pc := 12) (tgt := 133) dX5_fillUntouched_12 (by decide) (fun c21 => ?_) (fun c21 => ?_)
  · have h := sx_pos c21 h
    exact sv_vret (pc := 133) dX5_fillUntouched_133 rfl h hP
  · have h := sx_neg c21 h
    refine sx_aload_n (pc := 15) dX5_fillUntouched_15 sx_m0 ?_
    obtain ⟨b22, g23, h⟩ := sx_bnd h
    refine sv_getV (pc := 16) hG dX5_fillUntouched_16 f_5_38 lay_69 rfl rfl g23 ?_
    refine sx_iload (pc := 19) dX5_fillUntouched_19 sx_m4 ?_
    obtain ⟨⟨x26, V24⟩, g25, h⟩ := sx_bnd h
    obtain ⟨g27, h⟩ := sx_grd h
    refine sv_cV (pc := 21) (y := qX8_firstOf) (o := (some (.int x26))) (as := [.int l4]) (V1 := V24) hG dX5_fillUntouched_21 l_X5_483 y0X8_firstOf yvX8_firstOf rfl (Nat.le_of_ble_eq_true rfl) g27 kr_8 (by decide) (Nat.le_of_ble_eq_true rfl) rfl rfl rfl (t_X8_firstOf hG ⟨rfl, rfl⟩ g25) ?_
    refine sx_istore (pc := 24) (lo' := [(5, .int x26), (0, .ref 69), (1, .ref l1), (2, .ref l2), (3, .int l3), (4, .int l4)]) dX5_fillUntouched_24 (by decide) rfl ?_
    refine sx_aload_n (pc := 26) dX5_fillUntouched_26 sx_m1 ?_
    obtain ⟨b28, g29, h⟩ := sx_bnd h
    refine sv_getV (pc := 27) hG dX5_fillUntouched_27 f_5_38 lay_69 rfl rfl g29 ?_
    obtain ⟨g30, h⟩ := sx_grd h
    obtain ⟨b31, g32, h⟩ := sx_bnd h
    refine sv_getA (pc := 30) hG dX5_fillUntouched_30 f_5_486 g30 rfl g32 ?_
    refine sx_iload (pc := 33) dX5_fillUntouched_33 sx_m5 ?_
    obtain ⟨n33, g34, h⟩ := sx_bnd h
    obtain ⟨g35, h⟩ := sx_grd h
    refine sv_iald (pc := 35) hG dX5_fillUntouched_35 (sv_len_e g34) g35 ?_
    refine sx_iload (pc := 36) dX5_fillUntouched_36 sx_m0 ?_
    refine sx_isub (pc := 38) dX5_fillUntouched_38 ?_
    refine sx_iconst (pc := 39) (v := 1) dX5_fillUntouched_39 (by decide) ?_
    refine sx_iadd (pc := 40) dX5_fillUntouched_40 ?_
    refine sv_tI (fun x36 hx36 => ?_)
    have h := sx_letE hx36 h
    refine sx_istore (pc := 41) (lo' := [(6, .int x36), (5, .int x26), (0, .ref 69), (1, .ref l1), (2, .ref l2), (3, .int l3), (4, .int l4)]) dX5_fillUntouched_41 (by decide) rfl ?_
    refine sx_aload_n (pc := 43) dX5_fillUntouched_43 sx_m2 ?_
    refine sx_iload (pc := 44) dX5_fillUntouched_44 sx_m1 ?_
    refine sx_iload (pc := 46) dX5_fillUntouched_46 sx_m0 ?_
    refine sx_iload_n (pc := 48) dX5_fillUntouched_48 sx_m5 ?_
    obtain ⟨⟨x39, V37⟩, g38, h⟩ := sx_bnd h
    refine sv_cV (pc := 49) (y := qX5_firstTouched) (o := (some (.int x39))) (as := [.int x26, .int x36, .int l3]) (V1 := V37) hG dX5_fillUntouched_49 l_X5_487 y0X5_firstTouched yvX5_firstTouched rfl (Nat.le_of_ble_eq_true rfl) lay_69 kr_5 (by decide) (Nat.le_of_ble_eq_true rfl) rfl rfl rfl (t_X5_firstTouched hG ⟨rfl, rfl⟩ g38) ?_
    refine sx_istore (pc := 52) (lo' := [(7, .int x39), (6, .int x36), (5, .int x26), (0, .ref 69), (1, .ref l1), (2, .ref l2), (3, .int l3), (4, .int l4)]) dX5_fillUntouched_52 (by decide) rfl ?_
    refine sx_iload (pc := 54) dX5_fillUntouched_54 sx_m0 ?_
    refine sx_istore (pc := 56) (lo' := [(8, .int x39), (7, .int x39), (6, .int x36), (5, .int x26), (0, .ref 69), (1, .ref l1), (2, .ref l2), (3, .int l3), (4, .int l4)]) dX5_fillUntouched_56 (by decide) rfl ?_
    refine sx_iconst (pc := 58) (v := 1) dX5_fillUntouched_58 (by decide) ?_
    refine sx_istore (pc := 59) (lo' := [(9, .int (1 : Int32)), (8, .int x39), (7, .int x39), (6, .int x36), (5, .int x26), (0, .ref 69), (1, .ref l1), (2, .ref l2), (3, .int l3), (4, .int l4)]) dX5_fillUntouched_59 (by decide) rfl ?_
    refine sx_wk (sx_s1 sx_m5 (sx_s1 sx_m6 (sx_s1 sx_m7 (sx_s1 sx_m8 (sx_s1 sx_m9 (sx_s1 sx_m4 (sx_s1 sx_m3 (sx_s1 sx_m2 (sx_s1 sx_m1 (sx_s1 sx_m0 sx_s0)))))))))) ?_
    exact tL_X5_fillUntouched_61 hG hP hk3 N _ _ _ _ _ _ _ _ _ _ h
theorem tL_X5_fillUntouched_3 {g : sx_G} (hG : sx_Go g) {P : Option Value → sv_V → Prop} {Vr : sv_V} (hP : P none Vr) {N : Nat}   : ∀ (n : Nat) (l1 : Nat) (l2 : Nat) (l3 : Int32) (l4 : Int32) (V : sv_V), sx_lp5 (B_X5_fillUntouched_3 N ) n l1 l2 l3 l4 V = some Vr → sv_N g qX5_fillUntouched 2 3 [(0, .ref 69), (1, .ref l1), (2, .ref l2), (3, .int l3), (4, .int l4)] [] V P :=
  sx_lp5_ind (fun k0 ih _ _ _ _ V h => tB_X5_fillUntouched_3 hG hP ih h)
def F_X5_fillUntouched (N : Nat) (l1 : Nat) (l2 : Nat) (l3 : Int32) (V : sv_V) : Option sv_V := sx_lp5 (B_X5_fillUntouched_3 N ) N l1 l2 l3 (0 : Int32) V
set_option maxRecDepth 20000 in
theorem t_X5_fillUntouched {g : sx_G} (hG : sx_Go g) {P : Option Value → sv_V → Prop} {Vr : sv_V} (hP : P none Vr) {N : Nat} {l1 : Nat} {l2 : Nat} {l3 : Int32} {V : sv_V} (h : F_X5_fillUntouched N l1 l2 l3 V = some Vr) : sv_N g qX5_fillUntouched 2 0 [(0, .ref 69), (1, .ref l1), (2, .ref l2), (3, .int l3)] [] V P := by
  unfold F_X5_fillUntouched at h
  refine sx_iconst (pc := 0) (v := 0) dX5_fillUntouched_0 (by decide) ?_
  refine sx_istore (pc := 1) (lo' := [(4, .int (0 : Int32)), (0, .ref 69), (1, .ref l1), (2, .ref l2), (3, .int l3)]) dX5_fillUntouched_1 (by decide) rfl ?_
  refine sx_wk (sx_s1 sx_m1 (sx_s1 sx_m2 (sx_s1 sx_m3 (sx_s1 sx_m4 (sx_s1 sx_m0 sx_s0))))) ?_
  exact tL_X5_fillUntouched_3 hG hP  N _ _ _ _ _ h
theorem dX5_manyPointCodes_0 : decode cX5_manyPointCodes 0 = .ok (.iload_n 1, 1) := by decide +kernel
theorem dX5_manyPointCodes_1 : decode cX5_manyPointCodes 1 = .ok (.tableswitch 56 56 60 #[35, 42, 56, 56, 49], 35) := by decide +kernel
theorem dX5_manyPointCodes_36 : decode cX5_manyPointCodes 36 = .ok (.aload_n 0, 1) := by decide +kernel
theorem dX5_manyPointCodes_37 : decode cX5_manyPointCodes 37 = .ok (.invokevirtual 495, 3) := by decide +kernel
theorem dX5_manyPointCodes_40 : decode cX5_manyPointCodes 40 = .ok (.goto 21, 3) := by decide +kernel
theorem dX5_manyPointCodes_43 : decode cX5_manyPointCodes 43 = .ok (.aload_n 0, 1) := by decide +kernel
theorem dX5_manyPointCodes_44 : decode cX5_manyPointCodes 44 = .ok (.invokevirtual 498, 3) := by decide +kernel
theorem dX5_manyPointCodes_47 : decode cX5_manyPointCodes 47 = .ok (.goto 14, 3) := by decide +kernel
theorem dX5_manyPointCodes_50 : decode cX5_manyPointCodes 50 = .ok (.aload_n 0, 1) := by decide +kernel
theorem dX5_manyPointCodes_51 : decode cX5_manyPointCodes 51 = .ok (.invokevirtual 501, 3) := by decide +kernel
theorem dX5_manyPointCodes_54 : decode cX5_manyPointCodes 54 = .ok (.goto 7, 3) := by decide +kernel
theorem dX5_manyPointCodes_57 : decode cX5_manyPointCodes 57 = .ok (.aload_n 0, 1) := by decide +kernel
theorem dX5_manyPointCodes_58 : decode cX5_manyPointCodes 58 = .ok (.invokevirtual 504, 3) := by decide +kernel
theorem dX5_manyPointCodes_61 : decode cX5_manyPointCodes 61 = .ok (.return_, 1) := by decide +kernel
def B_X5_manyPointCodes_57 (N : Nat)   (V : sv_V) : Option sv_V := (F_X5_turnPoints N  V).bind (fun V1 => some V1)
set_option maxRecDepth 20000 in
theorem tB_X5_manyPointCodes_57 {g : sx_G} (hG : sx_Go g) {P : Option Value → sv_V → Prop} {Vr : sv_V} (hP : P none Vr) {N : Nat}    {V : sv_V} (h : B_X5_manyPointCodes_57 N   V = some Vr) : sv_N g qX5_manyPointCodes 3 57 [(0, .ref 69)] [] V P := by
  unfold B_X5_manyPointCodes_57 at h
  refine sx_aload_n (pc := 57) dX5_manyPointCodes_57 sx_m0 ?_
  obtain ⟨V1, g2, h⟩ := sx_bnd h
  refine sv_cV (pc := 58) (y := qX5_turnPoints) (o := none) (as := []) (V1 := V1) hG dX5_manyPointCodes_58 l_X5_504 y0X5_turnPoints yvX5_turnPoints rfl (Nat.le_of_ble_eq_true rfl) lay_69 kr_5 (by decide) (Nat.le_of_ble_eq_true rfl) rfl rfl rfl (t_X5_turnPoints hG ⟨rfl, rfl⟩ g2) ?_
  exact sv_vret (pc := 61) dX5_manyPointCodes_61 rfl h hP
def F_X5_manyPointCodes (N : Nat) (l1 : Int32) (V : sv_V) : Option sv_V := if l1 = 56 then ((F_X5_shiftByPixels N  V).bind (fun V4 => some V4)) else (if l1 = 57 then ((F_X5_interpolate N  V).bind (fun V7 => some V7)) else (if l1 = 58 then (B_X5_manyPointCodes_57 N   V) else (if l1 = 59 then (B_X5_manyPointCodes_57 N   V) else (if l1 = 60 then ((F_X5_alignToReference N  V).bind (fun V12 => some V12)) else (B_X5_manyPointCodes_57 N   V)))))
set_option maxRecDepth 20000 in
theorem t_X5_manyPointCodes {g : sx_G} (hG : sx_Go g) {P : Option Value → sv_V → Prop} {Vr : sv_V} (hP : P none Vr) {N : Nat} {l1 : Int32} {V : sv_V} (h : F_X5_manyPointCodes N l1 V = some Vr) : sv_N g qX5_manyPointCodes 3 0 [(0, .ref 69), (1, .int l1)] [] V P := by
  unfold F_X5_manyPointCodes at h
  refine sx_iload_n (pc := 0) dX5_manyPointCodes_0 sx_m1 ?_
  by_cases c3 : l1 = 56
  · have h := sx_pos c3 h
    refine sx_tabI (pc := 1) (off := 35) (tgt := 36) dX5_manyPointCodes_1 (by rw [c3]; decide) (by rw [c3]; decide) (by rw [c3]; rfl) (by decide) ?_
    refine sx_aload_n (pc := 36) dX5_manyPointCodes_36 sx_m0 ?_
    obtain ⟨V4, g5, h⟩ := sx_bnd h
    refine sv_cV (pc := 37) (y := qX5_shiftByPixels) (o := none) (as := []) (V1 := V4) hG dX5_manyPointCodes_37 l_X5_495 y0X5_shiftByPixels yvX5_shiftByPixels rfl (Nat.le_of_ble_eq_true rfl) lay_69 kr_5 (by decide) (Nat.le_of_ble_eq_true rfl) rfl rfl rfl (t_X5_shiftByPixels hG ⟨rfl, rfl⟩ g5) ?_
    refine sx_goto (pc := 40) (tgt := 61) dX5_manyPointCodes_40 (by decide) ?_
    exact sv_vret (pc := 61) dX5_manyPointCodes_61 rfl h hP
  have h := sx_neg c3 h
  by_cases c6 : l1 = 57
  · have h := sx_pos c6 h
    refine sx_tabI (pc := 1) (off := 42) (tgt := 43) dX5_manyPointCodes_1 (by rw [c6]; decide) (by rw [c6]; decide) (by rw [c6]; rfl) (by decide) ?_
    refine sx_aload_n (pc := 43) dX5_manyPointCodes_43 sx_m0 ?_
    obtain ⟨V7, g8, h⟩ := sx_bnd h
    refine sv_cV (pc := 44) (y := qX5_interpolate) (o := none) (as := []) (V1 := V7) hG dX5_manyPointCodes_44 l_X5_498 y0X5_interpolate yvX5_interpolate rfl (Nat.le_of_ble_eq_true rfl) lay_69 kr_5 (by decide) (Nat.le_of_ble_eq_true rfl) rfl rfl rfl (t_X5_interpolate hG ⟨rfl, rfl⟩ g8) ?_
    refine sx_goto (pc := 47) (tgt := 61) dX5_manyPointCodes_47 (by decide) ?_
    exact sv_vret (pc := 61) dX5_manyPointCodes_61 rfl h hP
  have h := sx_neg c6 h
  by_cases c9 : l1 = 58
  · have h := sx_pos c9 h
    refine sx_tabI (pc := 1) (off := 56) (tgt := 57) dX5_manyPointCodes_1 (by rw [c9]; decide) (by rw [c9]; decide) (by rw [c9]; rfl) (by decide) ?_
    refine sx_wk (sx_s1 sx_m0 sx_s0) ?_
    exact tB_X5_manyPointCodes_57 hG hP  h
  have h := sx_neg c9 h
  by_cases c10 : l1 = 59
  · have h := sx_pos c10 h
    refine sx_tabI (pc := 1) (off := 56) (tgt := 57) dX5_manyPointCodes_1 (by rw [c10]; decide) (by rw [c10]; decide) (by rw [c10]; rfl) (by decide) ?_
    refine sx_wk (sx_s1 sx_m0 sx_s0) ?_
    exact tB_X5_manyPointCodes_57 hG hP  h
  have h := sx_neg c10 h
  by_cases c11 : l1 = 60
  · have h := sx_pos c11 h
    refine sx_tabI (pc := 1) (off := 49) (tgt := 50) dX5_manyPointCodes_1 (by rw [c11]; decide) (by rw [c11]; decide) (by rw [c11]; rfl) (by decide) ?_
    refine sx_aload_n (pc := 50) dX5_manyPointCodes_50 sx_m0 ?_
    obtain ⟨V12, g13, h⟩ := sx_bnd h
    refine sv_cV (pc := 51) (y := qX5_alignToReference) (o := none) (as := []) (V1 := V12) hG dX5_manyPointCodes_51 l_X5_501 y0X5_alignToReference yvX5_alignToReference rfl (Nat.le_of_ble_eq_true rfl) lay_69 kr_5 (by decide) (Nat.le_of_ble_eq_true rfl) rfl rfl rfl (t_X5_alignToReference hG ⟨rfl, rfl⟩ g13) ?_
    refine sx_goto (pc := 54) (tgt := 61) dX5_manyPointCodes_54 (by decide) ?_
    exact sv_vret (pc := 61) dX5_manyPointCodes_61 rfl h hP
  have h := sx_neg c11 h
  refine sx_tabO (pc := 1) (tgt := 57) dX5_manyPointCodes_1 (by have ec3 := lv_neT (a := 56) c3 rfl; have ec6 := lv_neT (a := 57) c6 rfl; have ec9 := lv_neT (a := 58) c9 rfl; have ec10 := lv_neT (a := 59) c10 rfl; have ec11 := lv_neT (a := 60) c11 rfl; omega) (by decide) ?_
  refine sx_wk (sx_s1 sx_m0 sx_s0) ?_
  exact tB_X5_manyPointCodes_57 hG hP  h
theorem dX5_shiftByReference_0 : decode cX5_shiftByReference 0 = .ok (.iload_n 1, 1) := by decide +kernel
theorem dX5_shiftByReference_1 : decode cX5_shiftByReference 1 = .ok (.iconst 1, 1) := by decide +kernel
theorem dX5_shiftByReference_2 : decode cX5_shiftByReference 2 = .ok (.iand, 1) := by decide +kernel
theorem dX5_shiftByReference_3 : decode cX5_shiftByReference 3 = .ok (.iconst 1, 1) := by decide +kernel
theorem dX5_shiftByReference_4 : decode cX5_shiftByReference 4 = .ok (.if_icmp .ne 7, 3) := by decide +kernel
theorem dX5_shiftByReference_7 : decode cX5_shiftByReference 7 = .ok (.iconst 1, 1) := by decide +kernel
theorem dX5_shiftByReference_8 : decode cX5_shiftByReference 8 = .ok (.goto 4, 3) := by decide +kernel
theorem dX5_shiftByReference_11 : decode cX5_shiftByReference 11 = .ok (.iconst 0, 1) := by decide +kernel
theorem dX5_shiftByReference_12 : decode cX5_shiftByReference 12 = .ok (.istore_n 2, 1) := by decide +kernel
theorem dX5_shiftByReference_13 : decode cX5_shiftByReference 13 = .ok (.aload_n 0, 1) := by decide +kernel
theorem dX5_shiftByReference_14 : decode cX5_shiftByReference 14 = .ok (.iload_n 2, 1) := by decide +kernel
theorem dX5_shiftByReference_15 : decode cX5_shiftByReference 15 = .ok (.ifCond .eq 7, 3) := by decide +kernel
theorem dX5_shiftByReference_18 : decode cX5_shiftByReference 18 = .ok (.iconst 0, 1) := by decide +kernel
theorem dX5_shiftByReference_19 : decode cX5_shiftByReference 19 = .ok (.goto 4, 3) := by decide +kernel
theorem dX5_shiftByReference_22 : decode cX5_shiftByReference 22 = .ok (.iconst 1, 1) := by decide +kernel
theorem dX5_shiftByReference_23 : decode cX5_shiftByReference 23 = .ok (.invokevirtual 255, 3) := by decide +kernel
theorem dX5_shiftByReference_26 : decode cX5_shiftByReference 26 = .ok (.astore_n 3, 1) := by decide +kernel
theorem dX5_shiftByReference_27 : decode cX5_shiftByReference 27 = .ok (.aload_n 0, 1) := by decide +kernel
theorem dX5_shiftByReference_28 : decode cX5_shiftByReference 28 = .ok (.getfield 12, 3) := by decide +kernel
theorem dX5_shiftByReference_31 : decode cX5_shiftByReference 31 = .ok (.getfield 275, 3) := by decide +kernel
theorem dX5_shiftByReference_34 : decode cX5_shiftByReference 34 = .ok (.iload_n 2, 1) := by decide +kernel
theorem dX5_shiftByReference_35 : decode cX5_shiftByReference 35 = .ok (.ifCond .eq 7, 3) := by decide +kernel
theorem dX5_shiftByReference_38 : decode cX5_shiftByReference 38 = .ok (.iconst 1, 1) := by decide +kernel
theorem dX5_shiftByReference_39 : decode cX5_shiftByReference 39 = .ok (.goto 4, 3) := by decide +kernel
theorem dX5_shiftByReference_42 : decode cX5_shiftByReference 42 = .ok (.iconst 2, 1) := by decide +kernel
theorem dX5_shiftByReference_43 : decode cX5_shiftByReference 43 = .ok (.iaload, 1) := by decide +kernel
theorem dX5_shiftByReference_44 : decode cX5_shiftByReference 44 = .ok (.istore 4, 2) := by decide +kernel
theorem dX5_shiftByReference_46 : decode cX5_shiftByReference 46 = .ok (.aload_n 0, 1) := by decide +kernel
theorem dX5_shiftByReference_47 : decode cX5_shiftByReference 47 = .ok (.aload_n 3, 1) := by decide +kernel
theorem dX5_shiftByReference_48 : decode cX5_shiftByReference 48 = .ok (.iload 4, 2) := by decide +kernel
theorem dX5_shiftByReference_50 : decode cX5_shiftByReference 50 = .ok (.invokevirtual 259, 3) := by decide +kernel
theorem dX5_shiftByReference_53 : decode cX5_shiftByReference 53 = .ok (.ifCond .ne 4, 3) := by decide +kernel
theorem dX5_shiftByReference_56 : decode cX5_shiftByReference 56 = .ok (.return_, 1) := by decide +kernel
theorem dX5_shiftByReference_57 : decode cX5_shiftByReference 57 = .ok (.aload_n 0, 1) := by decide +kernel
theorem dX5_shiftByReference_58 : decode cX5_shiftByReference 58 = .ok (.aload_n 3, 1) := by decide +kernel
theorem dX5_shiftByReference_59 : decode cX5_shiftByReference 59 = .ok (.getfield 198, 3) := by decide +kernel
theorem dX5_shiftByReference_62 : decode cX5_shiftByReference 62 = .ok (.iload 4, 2) := by decide +kernel
theorem dX5_shiftByReference_64 : decode cX5_shiftByReference 64 = .ok (.iaload, 1) := by decide +kernel
theorem dX5_shiftByReference_65 : decode cX5_shiftByReference 65 = .ok (.aload_n 3, 1) := by decide +kernel
theorem dX5_shiftByReference_66 : decode cX5_shiftByReference 66 = .ok (.getfield 204, 3) := by decide +kernel
theorem dX5_shiftByReference_69 : decode cX5_shiftByReference 69 = .ok (.iload 4, 2) := by decide +kernel
theorem dX5_shiftByReference_71 : decode cX5_shiftByReference 71 = .ok (.iaload, 1) := by decide +kernel
theorem dX5_shiftByReference_72 : decode cX5_shiftByReference 72 = .ok (.isub, 1) := by decide +kernel
theorem dX5_shiftByReference_73 : decode cX5_shiftByReference 73 = .ok (.i2l, 1) := by decide +kernel
theorem dX5_shiftByReference_74 : decode cX5_shiftByReference 74 = .ok (.aload_n 3, 1) := by decide +kernel
theorem dX5_shiftByReference_75 : decode cX5_shiftByReference 75 = .ok (.getfield 201, 3) := by decide +kernel
theorem dX5_shiftByReference_78 : decode cX5_shiftByReference 78 = .ok (.iload 4, 2) := by decide +kernel
theorem dX5_shiftByReference_80 : decode cX5_shiftByReference 80 = .ok (.iaload, 1) := by decide +kernel
theorem dX5_shiftByReference_81 : decode cX5_shiftByReference 81 = .ok (.aload_n 3, 1) := by decide +kernel
theorem dX5_shiftByReference_82 : decode cX5_shiftByReference 82 = .ok (.getfield 207, 3) := by decide +kernel
theorem dX5_shiftByReference_85 : decode cX5_shiftByReference 85 = .ok (.iload 4, 2) := by decide +kernel
theorem dX5_shiftByReference_87 : decode cX5_shiftByReference 87 = .ok (.iaload, 1) := by decide +kernel
theorem dX5_shiftByReference_88 : decode cX5_shiftByReference 88 = .ok (.isub, 1) := by decide +kernel
theorem dX5_shiftByReference_89 : decode cX5_shiftByReference 89 = .ok (.i2l, 1) := by decide +kernel
theorem dX5_shiftByReference_90 : decode cX5_shiftByReference 90 = .ok (.invokevirtual 465, 3) := by decide +kernel
theorem dX5_shiftByReference_93 : decode cX5_shiftByReference 93 = .ok (.lstore 5, 2) := by decide +kernel
theorem dX5_shiftByReference_95 : decode cX5_shiftByReference 95 = .ok (.iload_n 1, 1) := by decide +kernel
theorem dX5_shiftByReference_96 : decode cX5_shiftByReference 96 = .ok (.bipush 52, 2) := by decide +kernel
theorem dX5_shiftByReference_98 : decode cX5_shiftByReference 98 = .ok (.if_icmp .ge 12, 3) := by decide +kernel
theorem dX5_shiftByReference_101 : decode cX5_shiftByReference 101 = .ok (.aload_n 0, 1) := by decide +kernel
theorem dX5_shiftByReference_102 : decode cX5_shiftByReference 102 = .ok (.lload 5, 2) := by decide +kernel
theorem dX5_shiftByReference_104 : decode cX5_shiftByReference 104 = .ok (.invokevirtual 507, 3) := by decide +kernel
theorem dX5_shiftByReference_107 : decode cX5_shiftByReference 107 = .ok (.goto 41, 3) := by decide +kernel
theorem dX5_shiftByReference_110 : decode cX5_shiftByReference 110 = .ok (.iload_n 1, 1) := by decide +kernel
theorem dX5_shiftByReference_111 : decode cX5_shiftByReference 111 = .ok (.bipush 54, 2) := by decide +kernel
theorem dX5_shiftByReference_113 : decode cX5_shiftByReference 113 = .ok (.if_icmp .ge 26, 3) := by decide +kernel
theorem dX5_shiftByReference_116 : decode cX5_shiftByReference 116 = .ok (.aload_n 0, 1) := by decide +kernel
theorem dX5_shiftByReference_117 : decode cX5_shiftByReference 117 = .ok (.lload 5, 2) := by decide +kernel
theorem dX5_shiftByReference_119 : decode cX5_shiftByReference 119 = .ok (.aload_n 3, 1) := by decide +kernel
theorem dX5_shiftByReference_120 : decode cX5_shiftByReference 120 = .ok (.aload_n 0, 1) := by decide +kernel
theorem dX5_shiftByReference_121 : decode cX5_shiftByReference 121 = .ok (.getfield 38, 3) := by decide +kernel
theorem dX5_shiftByReference_124 : decode cX5_shiftByReference 124 = .ok (.if_acmp .ne 8, 3) := by decide +kernel
theorem dX5_shiftByReference_127 : decode cX5_shiftByReference 127 = .ok (.iload 4, 2) := by decide +kernel
theorem dX5_shiftByReference_129 : decode cX5_shiftByReference 129 = .ok (.goto 4, 3) := by decide +kernel
theorem dX5_shiftByReference_132 : decode cX5_shiftByReference 132 = .ok (.iconst (-1), 1) := by decide +kernel
theorem dX5_shiftByReference_133 : decode cX5_shiftByReference 133 = .ok (.invokevirtual 510, 3) := by decide +kernel
theorem dX5_shiftByReference_136 : decode cX5_shiftByReference 136 = .ok (.goto 12, 3) := by decide +kernel
theorem dX5_shiftByReference_139 : decode cX5_shiftByReference 139 = .ok (.aload_n 0, 1) := by decide +kernel
theorem dX5_shiftByReference_140 : decode cX5_shiftByReference 140 = .ok (.lload 5, 2) := by decide +kernel
theorem dX5_shiftByReference_142 : decode cX5_shiftByReference 142 = .ok (.aload_n 3, 1) := by decide +kernel
theorem dX5_shiftByReference_143 : decode cX5_shiftByReference 143 = .ok (.iload 4, 2) := by decide +kernel
theorem dX5_shiftByReference_145 : decode cX5_shiftByReference 145 = .ok (.invokevirtual 514, 3) := by decide +kernel
theorem dX5_shiftByReference_148 : decode cX5_shiftByReference 148 = .ok (.return_, 1) := by decide +kernel
def B_X5_shiftByReference_133 (N : Nat)  (s1 : Int64) (s2 : Int32) (V : sv_V) : Option sv_V := (F_X5_shiftContour N s1 s2 V).bind (fun V1 => some V1)
set_option maxRecDepth 20000 in
theorem tB_X5_shiftByReference_133 {g : sx_G} (hG : sx_Go g) {P : Option Value → sv_V → Prop} {Vr : sv_V} (hP : P none Vr) {N : Nat}   {s1 : Int64} {s2 : Int32} {V : sv_V} (h : B_X5_shiftByReference_133 N  s1 s2 V = some Vr) : sv_N g qX5_shiftByReference 3 133 [] [.int s2, .long s1, .ref 69] V P := by
  unfold B_X5_shiftByReference_133 at h
  obtain ⟨V1, g2, h⟩ := sx_bnd h
  refine sv_cV (pc := 133) (y := qX5_shiftContour) (o := none) (as := [.long s1, .int s2]) (V1 := V1) hG dX5_shiftByReference_133 l_X5_510 y0X5_shiftContour yvX5_shiftContour rfl (Nat.le_of_ble_eq_true rfl) lay_69 kr_5 (by decide) (Nat.le_of_ble_eq_true rfl) rfl rfl rfl (t_X5_shiftContour hG ⟨rfl, rfl⟩ g2) ?_
  refine sx_goto (pc := 136) (tgt := 148) dX5_shiftByReference_136 (by decide) ?_
  exact sv_vret (pc := 148) dX5_shiftByReference_148 rfl h hP
def B_X5_shiftByReference_43 (N : Nat)  (l1 : Int32) (l3 : Nat) (s1 : Int32) (V : sv_V) : Option sv_V := if sx_in s1 3 = true then sx_let (V.1 71 s1.toNatClampNeg) (fun x4 => (F_X5_isThere l3 x4 V).bind (fun (x7, V5) => if x7 = 0 then (some V5) else (if lay l3 = .inl 8 then (cr l3 0).bind (fun b10 => (sv_len 0 b10).bind (fun n12 => if sx_in x4 n12 = true then (cr l3 2).bind (fun b15 => (sv_len 0 b15).bind (fun n17 => if sx_in x4 n17 = true then (cr l3 1).bind (fun b20 => (sv_len 0 b20).bind (fun n22 => if sx_in x4 n22 = true then (cr l3 3).bind (fun b25 => (sv_len 0 b25).bind (fun n27 => if sx_in x4 n27 = true then (F_X5_longByP (((V5.1 b10 x4.toNatClampNeg) - (V5.1 b15 x4.toNatClampNeg)).toInt64) (((V5.1 b20 x4.toNatClampNeg) - (V5.1 b25 x4.toNatClampNeg)).toInt64) V5).bind (fun (x32, V30) => if (52 : Int32) ≤ l1 then (if (54 : Int32) ≤ l1 then ((F_X5_shiftZone N x32 l3 x4 V30).bind (fun V35 => some V35)) else ((V30.2.2 69 7).bind (fun b37 => if lay b37 = .inl 8 then if l3 = b37 then (B_X5_shiftByReference_133 N  x32 x4 V30) else (B_X5_shiftByReference_133 N  x32 (-1 : Int32) V30) else none))) else ((F_X5_shiftPoints N x32 V30).bind (fun V41 => some V41))) else none)) else none)) else none)) else none)) else none))) else none
set_option maxRecDepth 20000 in
theorem tB_X5_shiftByReference_43 {g : sx_G} (hG : sx_Go g) {P : Option Value → sv_V → Prop} {Vr : sv_V} (hP : P none Vr) {N : Nat}   {l1 : Int32} {l3 : Nat} {s1 : Int32} {V : sv_V} (h : B_X5_shiftByReference_43 N  l1 l3 s1 V = some Vr) : sv_N g qX5_shiftByReference 3 43 [(0, .ref 69), (1, .int l1), (3, .ref l3)] [.int s1, .ref 71] V P := by
  unfold B_X5_shiftByReference_43 at h
  obtain ⟨g3, h⟩ := sx_grd h
  refine sv_iald (pc := 43) hG dX5_shiftByReference_43 lay_71 g3 ?_
  refine sv_tI (fun x4 hx4 => ?_)
  have h := sx_letE hx4 h
  refine sx_istore (pc := 44) (lo' := [(4, .int x4), (0, .ref 69), (1, .int l1), (3, .ref l3)]) dX5_shiftByReference_44 (by decide) rfl ?_
  refine sx_aload_n (pc := 46) dX5_shiftByReference_46 sx_m1 ?_
  refine sx_aload_n (pc := 47) dX5_shiftByReference_47 sx_m3 ?_
  refine sx_iload (pc := 48) dX5_shiftByReference_48 sx_m0 ?_
  obtain ⟨⟨x7, V5⟩, g6, h⟩ := sx_bnd h
  refine sv_cV (pc := 50) (y := qX5_isThere) (o := (some (.int x7))) (as := [.ref l3, .int x4]) (V1 := V5) hG dX5_shiftByReference_50 l_X5_259 y0X5_isThere yvX5_isThere rfl (Nat.le_of_ble_eq_true rfl) lay_69 kr_5 (by decide) (Nat.le_of_ble_eq_true rfl) rfl rfl rfl (t_X5_isThere hG ⟨rfl, rfl⟩ g6) ?_
  refine sx_if_ne (pc := 53) (tgt := 57) dX5_shiftByReference_53 (by decide) (fun c8 => ?_) (fun c8 => ?_)
  · have h := sx_neg c8 h
    refine sx_aload_n (pc := 57) dX5_shiftByReference_57 sx_m1 ?_
    refine sx_aload_n (pc := 58) dX5_shiftByReference_58 sx_m3 ?_
    obtain ⟨g9, h⟩ := sx_grd h
    obtain ⟨b10, g11, h⟩ := sx_bnd h
    refine sv_getA (pc := 59) hG dX5_shiftByReference_59 f_5_198 g9 rfl g11 ?_
    refine sx_iload (pc := 62) dX5_shiftByReference_62 sx_m0 ?_
    obtain ⟨n12, g13, h⟩ := sx_bnd h
    obtain ⟨g14, h⟩ := sx_grd h
    refine sv_iald (pc := 64) hG dX5_shiftByReference_64 (sv_len_e g13) g14 ?_
    refine sx_aload_n (pc := 65) dX5_shiftByReference_65 sx_m3 ?_
    obtain ⟨b15, g16, h⟩ := sx_bnd h
    refine sv_getA (pc := 66) hG dX5_shiftByReference_66 f_5_204 g9 rfl g16 ?_
    refine sx_iload (pc := 69) dX5_shiftByReference_69 sx_m0 ?_
    obtain ⟨n17, g18, h⟩ := sx_bnd h
    obtain ⟨g19, h⟩ := sx_grd h
    refine sv_iald (pc := 71) hG dX5_shiftByReference_71 (sv_len_e g18) g19 ?_
    refine sx_isub (pc := 72) dX5_shiftByReference_72 ?_
    refine sx_i2l (pc := 73) dX5_shiftByReference_73 ?_
    refine sx_aload_n (pc := 74) dX5_shiftByReference_74 sx_m3 ?_
    obtain ⟨b20, g21, h⟩ := sx_bnd h
    refine sv_getA (pc := 75) hG dX5_shiftByReference_75 f_5_201 g9 rfl g21 ?_
    refine sx_iload (pc := 78) dX5_shiftByReference_78 sx_m0 ?_
    obtain ⟨n22, g23, h⟩ := sx_bnd h
    obtain ⟨g24, h⟩ := sx_grd h
    refine sv_iald (pc := 80) hG dX5_shiftByReference_80 (sv_len_e g23) g24 ?_
    refine sx_aload_n (pc := 81) dX5_shiftByReference_81 sx_m3 ?_
    obtain ⟨b25, g26, h⟩ := sx_bnd h
    refine sv_getA (pc := 82) hG dX5_shiftByReference_82 f_5_207 g9 rfl g26 ?_
    refine sx_iload (pc := 85) dX5_shiftByReference_85 sx_m0 ?_
    obtain ⟨n27, g28, h⟩ := sx_bnd h
    obtain ⟨g29, h⟩ := sx_grd h
    refine sv_iald (pc := 87) hG dX5_shiftByReference_87 (sv_len_e g28) g29 ?_
    refine sx_isub (pc := 88) dX5_shiftByReference_88 ?_
    refine sx_i2l (pc := 89) dX5_shiftByReference_89 ?_
    obtain ⟨⟨x32, V30⟩, g31, h⟩ := sx_bnd h
    refine sv_cV (pc := 90) (y := qX5_longByP) (o := (some (.long x32))) (as := [.long (((V5.1 b10 x4.toNatClampNeg) - (V5.1 b15 x4.toNatClampNeg)).toInt64), .long (((V5.1 b20 x4.toNatClampNeg) - (V5.1 b25 x4.toNatClampNeg)).toInt64)]) (V1 := V30) hG dX5_shiftByReference_90 l_X5_465 y0X5_longByP yvX5_longByP rfl (Nat.le_of_ble_eq_true rfl) lay_69 kr_5 (by decide) (Nat.le_of_ble_eq_true rfl) rfl rfl rfl (t_X5_longByP hG ⟨rfl, rfl⟩ g31) ?_
    refine sx_lstore (pc := 93) (lo' := [(5, .long x32), (4, .int x4), (0, .ref 69), (1, .int l1), (3, .ref l3)]) dX5_shiftByReference_93 (by decide) rfl ?_
    refine sx_iload_n (pc := 95) dX5_shiftByReference_95 sx_m3 ?_
    refine sx_bipush (pc := 96) (v := 52) dX5_shiftByReference_96 (by decide) ?_
    refine sx_icmp_ge (pc := 98) (tgt := 110) dX5_shiftByReference_98 (by decide) (fun c33 => ?_) (fun c33 => ?_)
    · have h := sx_pos c33 h
      refine sx_iload_n (pc := 110) dX5_shiftByReference_110 sx_m3 ?_
      refine sx_bipush (pc := 111) (v := 54) dX5_shiftByReference_111 (by decide) ?_
      refine sx_icmp_ge (pc := 113) (tgt := 139) dX5_shiftByReference_113 (by decide) (fun c34 => ?_) (fun c34 => ?_)
      · have h := sx_pos c34 h
        refine sx_aload_n (pc := 139) dX5_shiftByReference_139 sx_m2 ?_
        refine sx_lload (pc := 140) dX5_shiftByReference_140 sx_m0 ?_
        refine sx_aload_n (pc := 142) dX5_shiftByReference_142 sx_m4 ?_
        refine sx_iload (pc := 143) dX5_shiftByReference_143 sx_m1 ?_
        obtain ⟨V35, g36, h⟩ := sx_bnd h
        refine sv_cV (pc := 145) (y := qX5_shiftZone) (o := none) (as := [.long x32, .ref l3, .int x4]) (V1 := V35) hG dX5_shiftByReference_145 l_X5_514 y0X5_shiftZone yvX5_shiftZone rfl (Nat.le_of_ble_eq_true rfl) lay_69 kr_5 (by decide) (Nat.le_of_ble_eq_true rfl) rfl rfl rfl (t_X5_shiftZone hG ⟨rfl, rfl⟩ g36) ?_
        exact sv_vret (pc := 148) dX5_shiftByReference_148 rfl h hP
      · have h := sx_neg c34 h
        refine sx_aload_n (pc := 116) dX5_shiftByReference_116 sx_m2 ?_
        refine sx_lload (pc := 117) dX5_shiftByReference_117 sx_m0 ?_
        refine sx_aload_n (pc := 119) dX5_shiftByReference_119 sx_m4 ?_
        refine sx_aload_n (pc := 120) dX5_shiftByReference_120 sx_m2 ?_
        obtain ⟨b37, g38, h⟩ := sx_bnd h
        refine sv_getV (pc := 121) hG dX5_shiftByReference_121 f_5_38 lay_69 rfl rfl g38 ?_
        obtain ⟨g39, h⟩ := sx_grd h
        refine sv_acmp (pc := 124) (tgt := 132) dX5_shiftByReference_124 (by decide) g9 g39 (fun c40 => ?_) (fun c40 => ?_)
        · have h := sx_neg c40 h
          refine sx_iconst (pc := 132) (v := (-1)) dX5_shiftByReference_132 (by decide) ?_
          refine sx_wk sx_s0 ?_
          exact tB_X5_shiftByReference_133 hG hP  h
        · have h := sx_pos c40 h
          refine sx_iload (pc := 127) dX5_shiftByReference_127 sx_m1 ?_
          refine sx_goto (pc := 129) (tgt := 133) dX5_shiftByReference_129 (by decide) ?_
          refine sx_wk sx_s0 ?_
          exact tB_X5_shiftByReference_133 hG hP  h
    · have h := sx_neg c33 h
      refine sx_aload_n (pc := 101) dX5_shiftByReference_101 sx_m2 ?_
      refine sx_lload (pc := 102) dX5_shiftByReference_102 sx_m0 ?_
      obtain ⟨V41, g42, h⟩ := sx_bnd h
      refine sv_cV (pc := 104) (y := qX5_shiftPoints) (o := none) (as := [.long x32]) (V1 := V41) hG dX5_shiftByReference_104 l_X5_507 y0X5_shiftPoints yvX5_shiftPoints rfl (Nat.le_of_ble_eq_true rfl) lay_69 kr_5 (by decide) (Nat.le_of_ble_eq_true rfl) rfl rfl rfl (t_X5_shiftPoints hG ⟨rfl, rfl⟩ g42) ?_
      refine sx_goto (pc := 107) (tgt := 148) dX5_shiftByReference_107 (by decide) ?_
      exact sv_vret (pc := 148) dX5_shiftByReference_148 rfl h hP
  · have h := sx_pos c8 h
    exact sv_vret (pc := 56) dX5_shiftByReference_56 rfl h hP
def B_X5_shiftByReference_23 (N : Nat)  (l1 : Int32) (l2 : Int32) (s1 : Int32) (V : sv_V) : Option sv_V := (F_X5_zone s1 V).bind (fun (x45, V43) => if l2 = 0 then (B_X5_shiftByReference_43 N  l1 x45 (2 : Int32) V43) else (B_X5_shiftByReference_43 N  l1 x45 (1 : Int32) V43))
set_option maxRecDepth 20000 in
theorem tB_X5_shiftByReference_23 {g : sx_G} (hG : sx_Go g) {P : Option Value → sv_V → Prop} {Vr : sv_V} (hP : P none Vr) {N : Nat}   {l1 : Int32} {l2 : Int32} {s1 : Int32} {V : sv_V} (h : B_X5_shiftByReference_23 N  l1 l2 s1 V = some Vr) : sv_N g qX5_shiftByReference 3 23 [(0, .ref 69), (1, .int l1), (2, .int l2)] [.int s1, .ref 69] V P := by
  unfold B_X5_shiftByReference_23 at h
  obtain ⟨⟨x45, V43⟩, g44, h⟩ := sx_bnd h
  refine sv_cV (pc := 23) (y := qX5_zone) (o := (some (.ref x45))) (as := [.int s1]) (V1 := V43) hG dX5_shiftByReference_23 l_X5_255 y0X5_zone yvX5_zone rfl (Nat.le_of_ble_eq_true rfl) lay_69 kr_5 (by decide) (Nat.le_of_ble_eq_true rfl) rfl rfl rfl (t_X5_zone hG ⟨rfl, rfl⟩ g44) ?_
  refine sx_astore_n (pc := 26) (lo' := [(3, .ref x45), (0, .ref 69), (1, .int l1), (2, .int l2)]) dX5_shiftByReference_26 (by decide) rfl ?_
  refine sx_aload_n (pc := 27) dX5_shiftByReference_27 sx_m1 ?_
  refine sv_getO (pc := 28) hG dX5_shiftByReference_28 f_5_12 lay_69 rfl cr_69_1 ?_
  refine sv_getA (pc := 31) hG dX5_shiftByReference_31 f_5_275 lay_70 rfl cr_70_6 ?_
  refine sx_iload_n (pc := 34) dX5_shiftByReference_34 sx_m3 ?_
  refine sx_if_eq (pc := 35) (tgt := 42) dX5_shiftByReference_35 (by decide) (fun c46 => ?_) (fun c46 => ?_)
  · have h := sx_pos c46 h
    refine sx_iconst (pc := 42) (v := 2) dX5_shiftByReference_42 (by decide) ?_
    refine sx_wk (sx_s1 sx_m1 (sx_s1 sx_m2 (sx_s1 sx_m0 sx_s0))) ?_
    exact tB_X5_shiftByReference_43 hG hP  h
  · have h := sx_neg c46 h
    refine sx_iconst (pc := 38) (v := 1) dX5_shiftByReference_38 (by decide) ?_
    refine sx_goto (pc := 39) (tgt := 43) dX5_shiftByReference_39 (by decide) ?_
    refine sx_wk (sx_s1 sx_m1 (sx_s1 sx_m2 (sx_s1 sx_m0 sx_s0))) ?_
    exact tB_X5_shiftByReference_43 hG hP  h
def B_X5_shiftByReference_12 (N : Nat)  (l1 : Int32) (s0 : Int32) (V : sv_V) : Option sv_V := if s0 = 0 then (B_X5_shiftByReference_23 N  l1 s0 (1 : Int32) V) else (B_X5_shiftByReference_23 N  l1 s0 (0 : Int32) V)
set_option maxRecDepth 20000 in
theorem tB_X5_shiftByReference_12 {g : sx_G} (hG : sx_Go g) {P : Option Value → sv_V → Prop} {Vr : sv_V} (hP : P none Vr) {N : Nat}   {l1 : Int32} {s0 : Int32} {V : sv_V} (h : B_X5_shiftByReference_12 N  l1 s0 V = some Vr) : sv_N g qX5_shiftByReference 3 12 [(0, .ref 69), (1, .int l1)] [.int s0] V P := by
  unfold B_X5_shiftByReference_12 at h
  refine sx_istore_n (pc := 12) (lo' := [(2, .int s0), (0, .ref 69), (1, .int l1)]) dX5_shiftByReference_12 (by decide) rfl ?_
  refine sx_aload_n (pc := 13) dX5_shiftByReference_13 sx_m1 ?_
  refine sx_iload_n (pc := 14) dX5_shiftByReference_14 sx_m0 ?_
  refine sx_if_eq (pc := 15) (tgt := 22) dX5_shiftByReference_15 (by decide) (fun c47 => ?_) (fun c47 => ?_)
  · have h := sx_pos c47 h
    refine sx_iconst (pc := 22) (v := 1) dX5_shiftByReference_22 (by decide) ?_
    refine sx_wk (sx_s1 sx_m1 (sx_s1 sx_m2 (sx_s1 sx_m0 sx_s0))) ?_
    exact tB_X5_shiftByReference_23 hG hP  h
  · have h := sx_neg c47 h
    refine sx_iconst (pc := 18) (v := 0) dX5_shiftByReference_18 (by decide) ?_
    refine sx_goto (pc := 19) (tgt := 23) dX5_shiftByReference_19 (by decide) ?_
    refine sx_wk (sx_s1 sx_m1 (sx_s1 sx_m2 (sx_s1 sx_m0 sx_s0))) ?_
    exact tB_X5_shiftByReference_23 hG hP  h
def F_X5_shiftByReference (N : Nat) (l1 : Int32) (V : sv_V) : Option sv_V := if (l1 &&& (1 : Int32)) = (1 : Int32) then (B_X5_shiftByReference_12 N  l1 (1 : Int32) V) else (B_X5_shiftByReference_12 N  l1 (0 : Int32) V)
set_option maxRecDepth 20000 in
theorem t_X5_shiftByReference {g : sx_G} (hG : sx_Go g) {P : Option Value → sv_V → Prop} {Vr : sv_V} (hP : P none Vr) {N : Nat} {l1 : Int32} {V : sv_V} (h : F_X5_shiftByReference N l1 V = some Vr) : sv_N g qX5_shiftByReference 3 0 [(0, .ref 69), (1, .int l1)] [] V P := by
  unfold F_X5_shiftByReference at h
  refine sx_iload_n (pc := 0) dX5_shiftByReference_0 sx_m1 ?_
  refine sx_iconst (pc := 1) (v := 1) dX5_shiftByReference_1 (by decide) ?_
  refine sx_iand (pc := 2) dX5_shiftByReference_2 ?_
  refine sx_iconst (pc := 3) (v := 1) dX5_shiftByReference_3 (by decide) ?_
  refine sx_icmp_ne (pc := 4) (tgt := 11) dX5_shiftByReference_4 (by decide) (fun c48 => ?_) (fun c48 => ?_)
  · have h := sx_neg c48 h
    refine sx_iconst (pc := 11) (v := 0) dX5_shiftByReference_11 (by decide) ?_
    refine sx_wk (sx_s1 sx_m0 (sx_s1 sx_m1 sx_s0)) ?_
    exact tB_X5_shiftByReference_12 hG hP  h
  · have h := sx_pos c48 h
    refine sx_iconst (pc := 7) (v := 1) dX5_shiftByReference_7 (by decide) ?_
    refine sx_goto (pc := 8) (tgt := 12) dX5_shiftByReference_8 (by decide) ?_
    refine sx_wk (sx_s1 sx_m0 (sx_s1 sx_m1 sx_s0)) ?_
    exact tB_X5_shiftByReference_12 hG hP  h
