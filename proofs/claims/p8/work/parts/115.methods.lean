section
/-! methods: X5_flowCodes, X5_stackCodes, X5_memoryCodes, X5_comparingCodes, X5_reckoningCodes, X5_touchPoint, X5_fillUntouched, X5_manyPointCodes, X5_shiftByReference -/
def ncX5_flowCodes : Nat := 4916574976423893708533684396952585743792227986432592850239422589206541339865957066818858209623501859588238072929621659900965321671611064780121425328733155413580845277962845394902108290543989137780717705656928747981592208819638733484903880455479488111469353886072805604681276899917825303468786940860679938285515152233593681292877620742318264006643487567716518717178771196057016562913303456524899866122033625263220353570745115
theorem kcX5_flowCodes : CK cX5_flowCodes ncX5_flowCodes 176 := ⟨by decide +kernel, by decide +kernel⟩
theorem dX5_flowCodes_0 : decode cX5_flowCodes 0 = .ok (.iload_n 1, 1) := dl_o27 kcX5_flowCodes (by decide +kernel)
theorem dX5_flowCodes_1 : decode cX5_flowCodes 1 = .ok (.lookupswitch 174 #[(27, 91), (28, 97), (42, 106), (43, 111), (44, 116), (45, 128), (88, 133), (120, 146), (121, 146), (137, 162)], 91) := by decide +kernel
theorem dX5_flowCodes_92 : decode cX5_flowCodes 92 = .ok (.aload_n 0, 1) := dl_o42 kcX5_flowCodes (by decide +kernel)
theorem dX5_flowCodes_93 : decode cX5_flowCodes 93 = .ok (.iconst 0, 1) := dl_o3 kcX5_flowCodes (by decide +kernel)
theorem dX5_flowCodes_94 : decode cX5_flowCodes 94 = .ok (.invokevirtual 302, 3) := dl_o182 kcX5_flowCodes (by decide +kernel)
theorem dX5_flowCodes_97 : decode cX5_flowCodes 97 = .ok (.return_, 1) := dl_o177 kcX5_flowCodes (by decide +kernel)
theorem dX5_flowCodes_98 : decode cX5_flowCodes 98 = .ok (.aload_n 0, 1) := dl_o42 kcX5_flowCodes (by decide +kernel)
theorem dX5_flowCodes_99 : decode cX5_flowCodes 99 = .ok (.aload_n 0, 1) := dl_o42 kcX5_flowCodes (by decide +kernel)
theorem dX5_flowCodes_100 : decode cX5_flowCodes 100 = .ok (.invokevirtual 242, 3) := dl_o182 kcX5_flowCodes (by decide +kernel)
theorem dX5_flowCodes_103 : decode cX5_flowCodes 103 = .ok (.invokevirtual 306, 3) := dl_o182 kcX5_flowCodes (by decide +kernel)
theorem dX5_flowCodes_106 : decode cX5_flowCodes 106 = .ok (.return_, 1) := dl_o177 kcX5_flowCodes (by decide +kernel)
theorem dX5_flowCodes_107 : decode cX5_flowCodes 107 = .ok (.aload_n 0, 1) := dl_o42 kcX5_flowCodes (by decide +kernel)
theorem dX5_flowCodes_108 : decode cX5_flowCodes 108 = .ok (.invokevirtual 309, 3) := dl_o182 kcX5_flowCodes (by decide +kernel)
theorem dX5_flowCodes_111 : decode cX5_flowCodes 111 = .ok (.return_, 1) := dl_o177 kcX5_flowCodes (by decide +kernel)
theorem dX5_flowCodes_112 : decode cX5_flowCodes 112 = .ok (.aload_n 0, 1) := dl_o42 kcX5_flowCodes (by decide +kernel)
theorem dX5_flowCodes_113 : decode cX5_flowCodes 113 = .ok (.invokevirtual 312, 3) := dl_o182 kcX5_flowCodes (by decide +kernel)
theorem dX5_flowCodes_116 : decode cX5_flowCodes 116 = .ok (.return_, 1) := dl_o177 kcX5_flowCodes (by decide +kernel)
theorem dX5_flowCodes_117 : decode cX5_flowCodes 117 = .ok (.aload_n 0, 1) := dl_o42 kcX5_flowCodes (by decide +kernel)
theorem dX5_flowCodes_118 : decode cX5_flowCodes 118 = .ok (.invokevirtual 315, 3) := dl_o182 kcX5_flowCodes (by decide +kernel)
theorem dX5_flowCodes_121 : decode cX5_flowCodes 121 = .ok (.ifCond .eq 7, 3) := dl_o153 kcX5_flowCodes 7 (by decide +kernel) (by decide +kernel)
theorem dX5_flowCodes_124 : decode cX5_flowCodes 124 = .ok (.aload_n 0, 1) := dl_o42 kcX5_flowCodes (by decide +kernel)
theorem dX5_flowCodes_125 : decode cX5_flowCodes 125 = .ok (.invokevirtual 318, 3) := dl_o182 kcX5_flowCodes (by decide +kernel)
theorem dX5_flowCodes_128 : decode cX5_flowCodes 128 = .ok (.return_, 1) := dl_o177 kcX5_flowCodes (by decide +kernel)
theorem dX5_flowCodes_129 : decode cX5_flowCodes 129 = .ok (.aload_n 0, 1) := dl_o42 kcX5_flowCodes (by decide +kernel)
theorem dX5_flowCodes_130 : decode cX5_flowCodes 130 = .ok (.invokevirtual 321, 3) := dl_o182 kcX5_flowCodes (by decide +kernel)
theorem dX5_flowCodes_133 : decode cX5_flowCodes 133 = .ok (.return_, 1) := dl_o177 kcX5_flowCodes (by decide +kernel)
theorem dX5_flowCodes_134 : decode cX5_flowCodes 134 = .ok (.aload_n 0, 1) := dl_o42 kcX5_flowCodes (by decide +kernel)
theorem dX5_flowCodes_135 : decode cX5_flowCodes 135 = .ok (.invokevirtual 242, 3) := dl_o182 kcX5_flowCodes (by decide +kernel)
theorem dX5_flowCodes_138 : decode cX5_flowCodes 138 = .ok (.ifCond .ne 8, 3) := dl_o154 kcX5_flowCodes 8 (by decide +kernel) (by decide +kernel)
theorem dX5_flowCodes_141 : decode cX5_flowCodes 141 = .ok (.aload_n 0, 1) := dl_o42 kcX5_flowCodes (by decide +kernel)
theorem dX5_flowCodes_142 : decode cX5_flowCodes 142 = .ok (.iconst 1, 1) := dl_o4 kcX5_flowCodes (by decide +kernel)
theorem dX5_flowCodes_143 : decode cX5_flowCodes 143 = .ok (.invokevirtual 302, 3) := dl_o182 kcX5_flowCodes (by decide +kernel)
theorem dX5_flowCodes_146 : decode cX5_flowCodes 146 = .ok (.return_, 1) := dl_o177 kcX5_flowCodes (by decide +kernel)
theorem dX5_flowCodes_147 : decode cX5_flowCodes 147 = .ok (.aload_n 0, 1) := dl_o42 kcX5_flowCodes (by decide +kernel)
theorem dX5_flowCodes_148 : decode cX5_flowCodes 148 = .ok (.iload_n 1, 1) := dl_o27 kcX5_flowCodes (by decide +kernel)
theorem dX5_flowCodes_149 : decode cX5_flowCodes 149 = .ok (.bipush 120, 2) := dl_o16 kcX5_flowCodes 120 (by decide +kernel) (by decide +kernel)
theorem dX5_flowCodes_151 : decode cX5_flowCodes 151 = .ok (.if_icmp .ne 7, 3) := dl_o160 kcX5_flowCodes 7 (by decide +kernel) (by decide +kernel)
theorem dX5_flowCodes_154 : decode cX5_flowCodes 154 = .ok (.iconst 1, 1) := dl_o4 kcX5_flowCodes (by decide +kernel)
theorem dX5_flowCodes_155 : decode cX5_flowCodes 155 = .ok (.goto 4, 3) := dl_o167 kcX5_flowCodes 4 (by decide +kernel) (by decide +kernel)
theorem dX5_flowCodes_158 : decode cX5_flowCodes 158 = .ok (.iconst 0, 1) := dl_o3 kcX5_flowCodes (by decide +kernel)
theorem dX5_flowCodes_159 : decode cX5_flowCodes 159 = .ok (.invokevirtual 324, 3) := dl_o182 kcX5_flowCodes (by decide +kernel)
theorem dX5_flowCodes_162 : decode cX5_flowCodes 162 = .ok (.return_, 1) := dl_o177 kcX5_flowCodes (by decide +kernel)
theorem dX5_flowCodes_163 : decode cX5_flowCodes 163 = .ok (.aload_n 0, 1) := dl_o42 kcX5_flowCodes (by decide +kernel)
theorem dX5_flowCodes_164 : decode cX5_flowCodes 164 = .ok (.invokevirtual 327, 3) := dl_o182 kcX5_flowCodes (by decide +kernel)
theorem dX5_flowCodes_167 : decode cX5_flowCodes 167 = .ok (.ifCond .eq 7, 3) := dl_o153 kcX5_flowCodes 7 (by decide +kernel) (by decide +kernel)
theorem dX5_flowCodes_170 : decode cX5_flowCodes 170 = .ok (.aload_n 0, 1) := dl_o42 kcX5_flowCodes (by decide +kernel)
theorem dX5_flowCodes_171 : decode cX5_flowCodes 171 = .ok (.invokevirtual 318, 3) := dl_o182 kcX5_flowCodes (by decide +kernel)
theorem dX5_flowCodes_174 : decode cX5_flowCodes 174 = .ok (.return_, 1) := dl_o177 kcX5_flowCodes (by decide +kernel)
theorem dX5_flowCodes_175 : decode cX5_flowCodes 175 = .ok (.return_, 1) := dl_o177 kcX5_flowCodes (by decide +kernel)
def B_X5_flowCodes_159 (N : Nat)  (s1 : Int32) (V : sv_V) : Option sv_V := (F_X5_jumpIf s1 V).bind (fun V1 => some V1)
set_option maxRecDepth 20000 in
theorem tB_X5_flowCodes_159 {g : sx_G} (hG : sx_Go g) {P : Option Value → sv_V → Prop} {Vr : sv_V} (hP : P none Vr) {N : Nat}   {s1 : Int32} {V : sv_V} (h : B_X5_flowCodes_159 N  s1 V = some Vr) : sv_N g qX5_flowCodes 3 159 [] [.int s1, .ref 69] V P := by
  unfold B_X5_flowCodes_159 at h
  obtain ⟨V1, g2, h⟩ := sx_bnd h
  refine sv_cV (pc := 159) (y := qX5_jumpIf) (o := none) (as := [.int s1]) (V1 := V1) hG dX5_flowCodes_159 l_X5_324 y0X5_jumpIf yvX5_jumpIf rfl (Nat.le_of_ble_eq_true rfl) lay_69 kr_5 (by decide) (Nat.le_of_ble_eq_true rfl) rfl rfl rfl (t_X5_jumpIf hG ⟨rfl, rfl⟩ g2) ?_
  exact sv_vret (pc := 162) dX5_flowCodes_162 rfl h hP
def B_X5_flowCodes_147 (N : Nat)  (l1 : Int32) (V : sv_V) : Option sv_V := if l1 = (120 : Int32) then (B_X5_flowCodes_159 N  (1 : Int32) V) else (B_X5_flowCodes_159 N  (0 : Int32) V)
set_option maxRecDepth 20000 in
theorem tB_X5_flowCodes_147 {g : sx_G} (hG : sx_Go g) {P : Option Value → sv_V → Prop} {Vr : sv_V} (hP : P none Vr) {N : Nat}   {l1 : Int32} {V : sv_V} (h : B_X5_flowCodes_147 N  l1 V = some Vr) : sv_N g qX5_flowCodes 3 147 [(0, .ref 69), (1, .int l1)] [] V P := by
  unfold B_X5_flowCodes_147 at h
  refine sx_aload_n (pc := 147) dX5_flowCodes_147 sx_m0 ?_
  refine sx_iload_n (pc := 148) dX5_flowCodes_148 sx_m1 ?_
  refine sx_bipush (pc := 149) (v := 120) dX5_flowCodes_149 (by decide) ?_
  refine sx_icmp_ne (pc := 151) (tgt := 158) dX5_flowCodes_151 (by decide) (fun c3 => ?_) (fun c3 => ?_)
  · have h := sx_neg c3 h
    refine sx_iconst (pc := 158) (v := 0) dX5_flowCodes_158 (by decide) ?_
    refine sx_wk sx_s0 ?_
    exact tB_X5_flowCodes_159 hG hP  h
  · have h := sx_pos c3 h
    refine sx_iconst (pc := 154) (v := 1) dX5_flowCodes_154 (by decide) ?_
    refine sx_goto (pc := 155) (tgt := 159) dX5_flowCodes_155 (by decide) ?_
    refine sx_wk sx_s0 ?_
    exact tB_X5_flowCodes_159 hG hP  h
def F_X5_flowCodes (N : Nat) (l1 : Int32) (V : sv_V) : Option sv_V := if l1 = 27 then ((F_X5_passBranch N (0 : Int32) V).bind (fun V5 => some V5)) else (if l1 = 28 then ((F_X5_pop  V).bind (fun (x10, V8) => (F_X5_jump x10 V8).bind (fun V11 => some V11))) else (if l1 = 42 then ((F_X5_callTimes  V).bind (fun V14 => some V14)) else (if l1 = 43 then ((F_X5_callOnce  V).bind (fun V17 => some V17)) else (if l1 = 44 then ((F_X5_noteFunction  V).bind (fun (x22, V20) => if x22 = 0 then (some V20) else ((F_X5_passDefinition N  V20).bind (fun V24 => some V24)))) else (if l1 = 45 then ((F_X5_endRoutine  V).bind (fun V27 => some V27)) else (if l1 = 88 then ((F_X5_pop  V).bind (fun (x32, V30) => if x32 = 0 then ((F_X5_passBranch N (1 : Int32) V30).bind (fun V34 => some V34)) else (some V30))) else (if l1 = 120 then (B_X5_flowCodes_147 N  l1 V) else (if l1 = 121 then (B_X5_flowCodes_147 N  l1 V) else (if l1 = 137 then ((F_X5_noteOwnCode  V).bind (fun (x41, V39) => if x41 = 0 then (some V39) else ((F_X5_passDefinition N  V39).bind (fun V43 => some V43)))) else (some V))))))))))
set_option maxRecDepth 20000 in
theorem t_X5_flowCodes {g : sx_G} (hG : sx_Go g) {P : Option Value → sv_V → Prop} {Vr : sv_V} (hP : P none Vr) {N : Nat} {l1 : Int32} {V : sv_V} (h : F_X5_flowCodes N l1 V = some Vr) : sv_N g qX5_flowCodes 3 0 [(0, .ref 69), (1, .int l1)] [] V P := by
  unfold F_X5_flowCodes at h
  refine sx_iload_n (pc := 0) dX5_flowCodes_0 sx_m1 ?_
  by_cases c4 : l1 = 27
  · have h := sx_pos c4 h
    refine sx_look (pc := 1) (off := 91) (tgt := 92) dX5_flowCodes_1 (by decide) (by rw [c4]; rfl) (by decide) ?_
    refine sx_aload_n (pc := 92) dX5_flowCodes_92 sx_m0 ?_
    refine sx_iconst (pc := 93) (v := 0) dX5_flowCodes_93 (by decide) ?_
    obtain ⟨V5, g6, h⟩ := sx_bnd h
    refine sv_cV (pc := 94) (y := qX5_passBranch) (o := none) (as := [.int (0 : Int32)]) (V1 := V5) hG dX5_flowCodes_94 l_X5_302 y0X5_passBranch yvX5_passBranch rfl (Nat.le_of_ble_eq_true rfl) lay_69 kr_5 (by decide) (Nat.le_of_ble_eq_true rfl) rfl rfl rfl (t_X5_passBranch hG ⟨rfl, rfl⟩ g6) ?_
    exact sv_vret (pc := 97) dX5_flowCodes_97 rfl h hP
  have h := sx_neg c4 h
  by_cases c7 : l1 = 28
  · have h := sx_pos c7 h
    refine sx_look (pc := 1) (off := 97) (tgt := 98) dX5_flowCodes_1 (by decide) (by rw [c7]; rfl) (by decide) ?_
    refine sx_aload_n (pc := 98) dX5_flowCodes_98 sx_m0 ?_
    refine sx_aload_n (pc := 99) dX5_flowCodes_99 sx_m0 ?_
    obtain ⟨⟨x10, V8⟩, g9, h⟩ := sx_bnd h
    refine sv_cV (pc := 100) (y := qX5_pop) (o := (some (.int x10))) (as := []) (V1 := V8) hG dX5_flowCodes_100 l_X5_242 y0X5_pop yvX5_pop rfl (Nat.le_of_ble_eq_true rfl) lay_69 kr_5 (by decide) (Nat.le_of_ble_eq_true rfl) rfl rfl rfl (t_X5_pop hG ⟨rfl, rfl⟩ g9) ?_
    obtain ⟨V11, g12, h⟩ := sx_bnd h
    refine sv_cV (pc := 103) (y := qX5_jump) (o := none) (as := [.int x10]) (V1 := V11) hG dX5_flowCodes_103 l_X5_306 y0X5_jump yvX5_jump rfl (Nat.le_of_ble_eq_true rfl) lay_69 kr_5 (by decide) (Nat.le_of_ble_eq_true rfl) rfl rfl rfl (t_X5_jump hG ⟨rfl, rfl⟩ g12) ?_
    exact sv_vret (pc := 106) dX5_flowCodes_106 rfl h hP
  have h := sx_neg c7 h
  by_cases c13 : l1 = 42
  · have h := sx_pos c13 h
    refine sx_look (pc := 1) (off := 106) (tgt := 107) dX5_flowCodes_1 (by decide) (by rw [c13]; rfl) (by decide) ?_
    refine sx_aload_n (pc := 107) dX5_flowCodes_107 sx_m0 ?_
    obtain ⟨V14, g15, h⟩ := sx_bnd h
    refine sv_cV (pc := 108) (y := qX5_callTimes) (o := none) (as := []) (V1 := V14) hG dX5_flowCodes_108 l_X5_309 y0X5_callTimes yvX5_callTimes rfl (Nat.le_of_ble_eq_true rfl) lay_69 kr_5 (by decide) (Nat.le_of_ble_eq_true rfl) rfl rfl rfl (t_X5_callTimes hG ⟨rfl, rfl⟩ g15) ?_
    exact sv_vret (pc := 111) dX5_flowCodes_111 rfl h hP
  have h := sx_neg c13 h
  by_cases c16 : l1 = 43
  · have h := sx_pos c16 h
    refine sx_look (pc := 1) (off := 111) (tgt := 112) dX5_flowCodes_1 (by decide) (by rw [c16]; rfl) (by decide) ?_
    refine sx_aload_n (pc := 112) dX5_flowCodes_112 sx_m0 ?_
    obtain ⟨V17, g18, h⟩ := sx_bnd h
    refine sv_cV (pc := 113) (y := qX5_callOnce) (o := none) (as := []) (V1 := V17) hG dX5_flowCodes_113 l_X5_312 y0X5_callOnce yvX5_callOnce rfl (Nat.le_of_ble_eq_true rfl) lay_69 kr_5 (by decide) (Nat.le_of_ble_eq_true rfl) rfl rfl rfl (t_X5_callOnce hG ⟨rfl, rfl⟩ g18) ?_
    exact sv_vret (pc := 116) dX5_flowCodes_116 rfl h hP
  have h := sx_neg c16 h
  by_cases c19 : l1 = 44
  · have h := sx_pos c19 h
    refine sx_look (pc := 1) (off := 116) (tgt := 117) dX5_flowCodes_1 (by decide) (by rw [c19]; rfl) (by decide) ?_
    refine sx_aload_n (pc := 117) dX5_flowCodes_117 sx_m0 ?_
    obtain ⟨⟨x22, V20⟩, g21, h⟩ := sx_bnd h
    refine sv_cV (pc := 118) (y := qX5_noteFunction) (o := (some (.int x22))) (as := []) (V1 := V20) hG dX5_flowCodes_118 l_X5_315 y0X5_noteFunction yvX5_noteFunction rfl (Nat.le_of_ble_eq_true rfl) lay_69 kr_5 (by decide) (Nat.le_of_ble_eq_true rfl) rfl rfl rfl (t_X5_noteFunction hG ⟨rfl, rfl⟩ g21) ?_
    refine sx_if_eq (pc := 121) (tgt := 128) dX5_flowCodes_121 (by decide) (fun c23 => ?_) (fun c23 => ?_)
    · have h := sx_pos c23 h
      exact sv_vret (pc := 128) dX5_flowCodes_128 rfl h hP
    · have h := sx_neg c23 h
      refine sx_aload_n (pc := 124) dX5_flowCodes_124 sx_m0 ?_
      obtain ⟨V24, g25, h⟩ := sx_bnd h
      refine sv_cV (pc := 125) (y := qX5_passDefinition) (o := none) (as := []) (V1 := V24) hG dX5_flowCodes_125 l_X5_318 y0X5_passDefinition yvX5_passDefinition rfl (Nat.le_of_ble_eq_true rfl) lay_69 kr_5 (by decide) (Nat.le_of_ble_eq_true rfl) rfl rfl rfl (t_X5_passDefinition hG ⟨rfl, rfl⟩ g25) ?_
      exact sv_vret (pc := 128) dX5_flowCodes_128 rfl h hP
  have h := sx_neg c19 h
  by_cases c26 : l1 = 45
  · have h := sx_pos c26 h
    refine sx_look (pc := 1) (off := 128) (tgt := 129) dX5_flowCodes_1 (by decide) (by rw [c26]; rfl) (by decide) ?_
    refine sx_aload_n (pc := 129) dX5_flowCodes_129 sx_m0 ?_
    obtain ⟨V27, g28, h⟩ := sx_bnd h
    refine sv_cV (pc := 130) (y := qX5_endRoutine) (o := none) (as := []) (V1 := V27) hG dX5_flowCodes_130 l_X5_321 y0X5_endRoutine yvX5_endRoutine rfl (Nat.le_of_ble_eq_true rfl) lay_69 kr_5 (by decide) (Nat.le_of_ble_eq_true rfl) rfl rfl rfl (t_X5_endRoutine hG ⟨rfl, rfl⟩ g28) ?_
    exact sv_vret (pc := 133) dX5_flowCodes_133 rfl h hP
  have h := sx_neg c26 h
  by_cases c29 : l1 = 88
  · have h := sx_pos c29 h
    refine sx_look (pc := 1) (off := 133) (tgt := 134) dX5_flowCodes_1 (by decide) (by rw [c29]; rfl) (by decide) ?_
    refine sx_aload_n (pc := 134) dX5_flowCodes_134 sx_m0 ?_
    obtain ⟨⟨x32, V30⟩, g31, h⟩ := sx_bnd h
    refine sv_cV (pc := 135) (y := qX5_pop) (o := (some (.int x32))) (as := []) (V1 := V30) hG dX5_flowCodes_135 l_X5_242 y0X5_pop yvX5_pop rfl (Nat.le_of_ble_eq_true rfl) lay_69 kr_5 (by decide) (Nat.le_of_ble_eq_true rfl) rfl rfl rfl (t_X5_pop hG ⟨rfl, rfl⟩ g31) ?_
    refine sx_if_ne (pc := 138) (tgt := 146) dX5_flowCodes_138 (by decide) (fun c33 => ?_) (fun c33 => ?_)
    · have h := sx_neg c33 h
      exact sv_vret (pc := 146) dX5_flowCodes_146 rfl h hP
    · have h := sx_pos c33 h
      refine sx_aload_n (pc := 141) dX5_flowCodes_141 sx_m0 ?_
      refine sx_iconst (pc := 142) (v := 1) dX5_flowCodes_142 (by decide) ?_
      obtain ⟨V34, g35, h⟩ := sx_bnd h
      refine sv_cV (pc := 143) (y := qX5_passBranch) (o := none) (as := [.int (1 : Int32)]) (V1 := V34) hG dX5_flowCodes_143 l_X5_302 y0X5_passBranch yvX5_passBranch rfl (Nat.le_of_ble_eq_true rfl) lay_69 kr_5 (by decide) (Nat.le_of_ble_eq_true rfl) rfl rfl rfl (t_X5_passBranch hG ⟨rfl, rfl⟩ g35) ?_
      exact sv_vret (pc := 146) dX5_flowCodes_146 rfl h hP
  have h := sx_neg c29 h
  by_cases c36 : l1 = 120
  · have h := sx_pos c36 h
    refine sx_look (pc := 1) (off := 146) (tgt := 147) dX5_flowCodes_1 (by decide) (by rw [c36]; rfl) (by decide) ?_
    refine sx_wk (sx_s1 sx_m0 (sx_s1 sx_m1 sx_s0)) ?_
    exact tB_X5_flowCodes_147 hG hP  h
  have h := sx_neg c36 h
  by_cases c37 : l1 = 121
  · have h := sx_pos c37 h
    refine sx_look (pc := 1) (off := 146) (tgt := 147) dX5_flowCodes_1 (by decide) (by rw [c37]; rfl) (by decide) ?_
    refine sx_wk (sx_s1 sx_m0 (sx_s1 sx_m1 sx_s0)) ?_
    exact tB_X5_flowCodes_147 hG hP  h
  have h := sx_neg c37 h
  by_cases c38 : l1 = 137
  · have h := sx_pos c38 h
    refine sx_look (pc := 1) (off := 162) (tgt := 163) dX5_flowCodes_1 (by decide) (by rw [c38]; rfl) (by decide) ?_
    refine sx_aload_n (pc := 163) dX5_flowCodes_163 sx_m0 ?_
    obtain ⟨⟨x41, V39⟩, g40, h⟩ := sx_bnd h
    refine sv_cV (pc := 164) (y := qX5_noteOwnCode) (o := (some (.int x41))) (as := []) (V1 := V39) hG dX5_flowCodes_164 l_X5_327 y0X5_noteOwnCode yvX5_noteOwnCode rfl (Nat.le_of_ble_eq_true rfl) lay_69 kr_5 (by decide) (Nat.le_of_ble_eq_true rfl) rfl rfl rfl (t_X5_noteOwnCode hG ⟨rfl, rfl⟩ g40) ?_
    refine sx_if_eq (pc := 167) (tgt := 174) dX5_flowCodes_167 (by decide) (fun c42 => ?_) (fun c42 => ?_)
    · have h := sx_pos c42 h
      exact sv_vret (pc := 174) dX5_flowCodes_174 rfl h hP
    · have h := sx_neg c42 h
      refine sx_aload_n (pc := 170) dX5_flowCodes_170 sx_m0 ?_
      obtain ⟨V43, g44, h⟩ := sx_bnd h
      refine sv_cV (pc := 171) (y := qX5_passDefinition) (o := none) (as := []) (V1 := V43) hG dX5_flowCodes_171 l_X5_318 y0X5_passDefinition yvX5_passDefinition rfl (Nat.le_of_ble_eq_true rfl) lay_69 kr_5 (by decide) (Nat.le_of_ble_eq_true rfl) rfl rfl rfl (t_X5_passDefinition hG ⟨rfl, rfl⟩ g44) ?_
      exact sv_vret (pc := 174) dX5_flowCodes_174 rfl h hP
  have h := sx_neg c38 h
  refine sx_look (pc := 1) (off := 174) (tgt := 175) dX5_flowCodes_1 (by decide) (by show Op.lookupswitch.offset [(27, 91), (28, 97), (42, 106), (43, 111), (44, 116), (45, 128), (88, 133), (120, 146), (121, 146), (137, 162)] 174 l1.toInt = 174; rw [lv_osw (a := 27) c4 rfl, lv_osw (a := 28) c7 rfl, lv_osw (a := 42) c13 rfl, lv_osw (a := 43) c16 rfl, lv_osw (a := 44) c19 rfl, lv_osw (a := 45) c26 rfl, lv_osw (a := 88) c29 rfl, lv_osw (a := 120) c36 rfl, lv_osw (a := 121) c37 rfl, lv_osw (a := 137) c38 rfl]; rfl) (by decide) ?_
  exact sv_vret (pc := 175) dX5_flowCodes_175 rfl h hP
def ncX5_stackCodes : Nat := 4062851287912325976361694358005318141693998924063369671472130244259577509762703167811042657931650767276606772049074001573239712212478981125187209538527637203912713989657299546282999874324839402088391248934155426267090536651878889185873594483670661289313479285455372352580774063361814022111998958603450539671194423035980151581474252584212177638730011291048356346160225502876534915412025794992403426075
theorem kcX5_stackCodes : CK cX5_stackCodes ncX5_stackCodes 166 := ⟨by decide +kernel, by decide +kernel⟩
theorem dX5_stackCodes_0 : decode cX5_stackCodes 0 = .ok (.iload_n 1, 1) := dl_o27 kcX5_stackCodes (by decide +kernel)
theorem dX5_stackCodes_1 : decode cX5_stackCodes 1 = .ok (.lookupswitch 142 #[(32, 91), (33, 96), (34, 102), (35, 108), (36, 114), (37, 124), (38, 124), (64, 130), (65, 130), (138, 136)], 91) := by decide +kernel
theorem dX5_stackCodes_92 : decode cX5_stackCodes 92 = .ok (.aload_n 0, 1) := dl_o42 kcX5_stackCodes (by decide +kernel)
theorem dX5_stackCodes_93 : decode cX5_stackCodes 93 = .ok (.invokevirtual 376, 3) := dl_o182 kcX5_stackCodes (by decide +kernel)
theorem dX5_stackCodes_96 : decode cX5_stackCodes 96 = .ok (.return_, 1) := dl_o177 kcX5_stackCodes (by decide +kernel)
theorem dX5_stackCodes_97 : decode cX5_stackCodes 97 = .ok (.aload_n 0, 1) := dl_o42 kcX5_stackCodes (by decide +kernel)
theorem dX5_stackCodes_98 : decode cX5_stackCodes 98 = .ok (.invokevirtual 242, 3) := dl_o182 kcX5_stackCodes (by decide +kernel)
theorem dX5_stackCodes_101 : decode cX5_stackCodes 101 = .ok (.pop, 1) := dl_o87 kcX5_stackCodes (by decide +kernel)
theorem dX5_stackCodes_102 : decode cX5_stackCodes 102 = .ok (.return_, 1) := dl_o177 kcX5_stackCodes (by decide +kernel)
theorem dX5_stackCodes_103 : decode cX5_stackCodes 103 = .ok (.aload_n 0, 1) := dl_o42 kcX5_stackCodes (by decide +kernel)
theorem dX5_stackCodes_104 : decode cX5_stackCodes 104 = .ok (.iconst 0, 1) := dl_o3 kcX5_stackCodes (by decide +kernel)
theorem dX5_stackCodes_105 : decode cX5_stackCodes 105 = .ok (.putfield 96, 3) := dl_o181 kcX5_stackCodes (by decide +kernel)
theorem dX5_stackCodes_108 : decode cX5_stackCodes 108 = .ok (.return_, 1) := dl_o177 kcX5_stackCodes (by decide +kernel)
theorem dX5_stackCodes_109 : decode cX5_stackCodes 109 = .ok (.aload_n 0, 1) := dl_o42 kcX5_stackCodes (by decide +kernel)
theorem dX5_stackCodes_110 : decode cX5_stackCodes 110 = .ok (.iconst 2, 1) := dl_o5 kcX5_stackCodes (by decide +kernel)
theorem dX5_stackCodes_111 : decode cX5_stackCodes 111 = .ok (.invokevirtual 379, 3) := dl_o182 kcX5_stackCodes (by decide +kernel)
theorem dX5_stackCodes_114 : decode cX5_stackCodes 114 = .ok (.return_, 1) := dl_o177 kcX5_stackCodes (by decide +kernel)
theorem dX5_stackCodes_115 : decode cX5_stackCodes 115 = .ok (.aload_n 0, 1) := dl_o42 kcX5_stackCodes (by decide +kernel)
theorem dX5_stackCodes_116 : decode cX5_stackCodes 116 = .ok (.aload_n 0, 1) := dl_o42 kcX5_stackCodes (by decide +kernel)
theorem dX5_stackCodes_117 : decode cX5_stackCodes 117 = .ok (.getfield 96, 3) := dl_o180 kcX5_stackCodes (by decide +kernel)
theorem dX5_stackCodes_120 : decode cX5_stackCodes 120 = .ok (.i2l, 1) := dl_o133 kcX5_stackCodes (by decide +kernel)
theorem dX5_stackCodes_121 : decode cX5_stackCodes 121 = .ok (.invokevirtual 232, 3) := dl_o182 kcX5_stackCodes (by decide +kernel)
theorem dX5_stackCodes_124 : decode cX5_stackCodes 124 = .ok (.return_, 1) := dl_o177 kcX5_stackCodes (by decide +kernel)
theorem dX5_stackCodes_125 : decode cX5_stackCodes 125 = .ok (.aload_n 0, 1) := dl_o42 kcX5_stackCodes (by decide +kernel)
theorem dX5_stackCodes_126 : decode cX5_stackCodes 126 = .ok (.iload_n 1, 1) := dl_o27 kcX5_stackCodes (by decide +kernel)
theorem dX5_stackCodes_127 : decode cX5_stackCodes 127 = .ok (.invokevirtual 382, 3) := dl_o182 kcX5_stackCodes (by decide +kernel)
theorem dX5_stackCodes_130 : decode cX5_stackCodes 130 = .ok (.return_, 1) := dl_o177 kcX5_stackCodes (by decide +kernel)
theorem dX5_stackCodes_131 : decode cX5_stackCodes 131 = .ok (.aload_n 0, 1) := dl_o42 kcX5_stackCodes (by decide +kernel)
theorem dX5_stackCodes_132 : decode cX5_stackCodes 132 = .ok (.iload_n 1, 1) := dl_o27 kcX5_stackCodes (by decide +kernel)
theorem dX5_stackCodes_133 : decode cX5_stackCodes 133 = .ok (.invokevirtual 385, 3) := dl_o182 kcX5_stackCodes (by decide +kernel)
theorem dX5_stackCodes_136 : decode cX5_stackCodes 136 = .ok (.return_, 1) := dl_o177 kcX5_stackCodes (by decide +kernel)
theorem dX5_stackCodes_137 : decode cX5_stackCodes 137 = .ok (.aload_n 0, 1) := dl_o42 kcX5_stackCodes (by decide +kernel)
theorem dX5_stackCodes_138 : decode cX5_stackCodes 138 = .ok (.iconst 3, 1) := dl_o6 kcX5_stackCodes (by decide +kernel)
theorem dX5_stackCodes_139 : decode cX5_stackCodes 139 = .ok (.invokevirtual 379, 3) := dl_o182 kcX5_stackCodes (by decide +kernel)
theorem dX5_stackCodes_142 : decode cX5_stackCodes 142 = .ok (.return_, 1) := dl_o177 kcX5_stackCodes (by decide +kernel)
theorem dX5_stackCodes_143 : decode cX5_stackCodes 143 = .ok (.aload_n 0, 1) := dl_o42 kcX5_stackCodes (by decide +kernel)
theorem dX5_stackCodes_144 : decode cX5_stackCodes 144 = .ok (.iload_n 1, 1) := dl_o27 kcX5_stackCodes (by decide +kernel)
theorem dX5_stackCodes_145 : decode cX5_stackCodes 145 = .ok (.bipush 8, 2) := dl_o16 kcX5_stackCodes 8 (by decide +kernel) (by decide +kernel)
theorem dX5_stackCodes_147 : decode cX5_stackCodes 147 = .ok (.irem, 1) := dl_o112 kcX5_stackCodes (by decide +kernel)
theorem dX5_stackCodes_148 : decode cX5_stackCodes 148 = .ok (.iconst 1, 1) := dl_o4 kcX5_stackCodes (by decide +kernel)
theorem dX5_stackCodes_149 : decode cX5_stackCodes 149 = .ok (.iadd, 1) := dl_o96 kcX5_stackCodes (by decide +kernel)
theorem dX5_stackCodes_150 : decode cX5_stackCodes 150 = .ok (.iload_n 1, 1) := dl_o27 kcX5_stackCodes (by decide +kernel)
theorem dX5_stackCodes_151 : decode cX5_stackCodes 151 = .ok (.sipush 184, 3) := dl_o17 kcX5_stackCodes 184 (by decide +kernel) (by decide +kernel)
theorem dX5_stackCodes_154 : decode cX5_stackCodes 154 = .ok (.if_icmp .ge 7, 3) := dl_o162 kcX5_stackCodes 7 (by decide +kernel) (by decide +kernel)
theorem dX5_stackCodes_157 : decode cX5_stackCodes 157 = .ok (.iconst 1, 1) := dl_o4 kcX5_stackCodes (by decide +kernel)
theorem dX5_stackCodes_158 : decode cX5_stackCodes 158 = .ok (.goto 4, 3) := dl_o167 kcX5_stackCodes 4 (by decide +kernel) (by decide +kernel)
theorem dX5_stackCodes_161 : decode cX5_stackCodes 161 = .ok (.iconst 2, 1) := dl_o5 kcX5_stackCodes (by decide +kernel)
theorem dX5_stackCodes_162 : decode cX5_stackCodes 162 = .ok (.invokevirtual 388, 3) := dl_o182 kcX5_stackCodes (by decide +kernel)
theorem dX5_stackCodes_165 : decode cX5_stackCodes 165 = .ok (.return_, 1) := dl_o177 kcX5_stackCodes (by decide +kernel)
def B_X5_stackCodes_125 (N : Nat)  (l1 : Int32) (V : sv_V) : Option sv_V := (F_X5_reachBelow N l1 V).bind (fun V1 => some V1)
set_option maxRecDepth 20000 in
theorem tB_X5_stackCodes_125 {g : sx_G} (hG : sx_Go g) {P : Option Value → sv_V → Prop} {Vr : sv_V} (hP : P none Vr) {N : Nat}   {l1 : Int32} {V : sv_V} (h : B_X5_stackCodes_125 N  l1 V = some Vr) : sv_N g qX5_stackCodes 3 125 [(0, .ref 69), (1, .int l1)] [] V P := by
  unfold B_X5_stackCodes_125 at h
  refine sx_aload_n (pc := 125) dX5_stackCodes_125 sx_m0 ?_
  refine sx_iload_n (pc := 126) dX5_stackCodes_126 sx_m1 ?_
  obtain ⟨V1, g2, h⟩ := sx_bnd h
  refine sv_cV (pc := 127) (y := qX5_reachBelow) (o := none) (as := [.int l1]) (V1 := V1) hG dX5_stackCodes_127 l_X5_382 y0X5_reachBelow yvX5_reachBelow rfl (Nat.le_of_ble_eq_true rfl) lay_69 kr_5 (by decide) (Nat.le_of_ble_eq_true rfl) rfl rfl rfl (t_X5_reachBelow hG ⟨rfl, rfl⟩ g2) ?_
  exact sv_vret (pc := 130) dX5_stackCodes_130 rfl h hP
def B_X5_stackCodes_131 (N : Nat)  (l1 : Int32) (V : sv_V) : Option sv_V := (F_X5_pushCounted N l1 V).bind (fun V3 => some V3)
set_option maxRecDepth 20000 in
theorem tB_X5_stackCodes_131 {g : sx_G} (hG : sx_Go g) {P : Option Value → sv_V → Prop} {Vr : sv_V} (hP : P none Vr) {N : Nat}   {l1 : Int32} {V : sv_V} (h : B_X5_stackCodes_131 N  l1 V = some Vr) : sv_N g qX5_stackCodes 3 131 [(0, .ref 69), (1, .int l1)] [] V P := by
  unfold B_X5_stackCodes_131 at h
  refine sx_aload_n (pc := 131) dX5_stackCodes_131 sx_m0 ?_
  refine sx_iload_n (pc := 132) dX5_stackCodes_132 sx_m1 ?_
  obtain ⟨V3, g4, h⟩ := sx_bnd h
  refine sv_cV (pc := 133) (y := qX5_pushCounted) (o := none) (as := [.int l1]) (V1 := V3) hG dX5_stackCodes_133 l_X5_385 y0X5_pushCounted yvX5_pushCounted rfl (Nat.le_of_ble_eq_true rfl) lay_69 kr_5 (by decide) (Nat.le_of_ble_eq_true rfl) rfl rfl rfl (t_X5_pushCounted hG ⟨rfl, rfl⟩ g4) ?_
  exact sv_vret (pc := 136) dX5_stackCodes_136 rfl h hP
def B_X5_stackCodes_162 (N : Nat)  (s1 : Int32) (s2 : Int32) (V : sv_V) : Option sv_V := (F_X5_pushBehind N s1 s2 V).bind (fun V5 => some V5)
set_option maxRecDepth 20000 in
theorem tB_X5_stackCodes_162 {g : sx_G} (hG : sx_Go g) {P : Option Value → sv_V → Prop} {Vr : sv_V} (hP : P none Vr) {N : Nat}   {s1 : Int32} {s2 : Int32} {V : sv_V} (h : B_X5_stackCodes_162 N  s1 s2 V = some Vr) : sv_N g qX5_stackCodes 3 162 [] [.int s2, .int s1, .ref 69] V P := by
  unfold B_X5_stackCodes_162 at h
  obtain ⟨V5, g6, h⟩ := sx_bnd h
  refine sv_cV (pc := 162) (y := qX5_pushBehind) (o := none) (as := [.int s1, .int s2]) (V1 := V5) hG dX5_stackCodes_162 l_X5_388 y0X5_pushBehind yvX5_pushBehind rfl (Nat.le_of_ble_eq_true rfl) lay_69 kr_5 (by decide) (Nat.le_of_ble_eq_true rfl) rfl rfl rfl (t_X5_pushBehind hG ⟨rfl, rfl⟩ g6) ?_
  exact sv_vret (pc := 165) dX5_stackCodes_165 rfl h hP
def F_X5_stackCodes (N : Nat) (l1 : Int32) (V : sv_V) : Option sv_V := if l1 = 32 then ((F_X5_doubleTop  V).bind (fun V8 => some V8)) else (if l1 = 33 then ((F_X5_pop  V).bind (fun (x13, V11) => some V11)) else (if l1 = 34 then (sx_let (sv_I V 69 5 (0 : Int32)) (fun V15 => some V15)) else (if l1 = 35 then ((F_X5_rollTop N (2 : Int32) V).bind (fun V17 => some V17)) else (if l1 = 36 then ((F_X5_push ((V.1 69 5).toInt64) V).bind (fun V20 => some V20)) else (if l1 = 37 then (B_X5_stackCodes_125 N  l1 V) else (if l1 = 38 then (B_X5_stackCodes_125 N  l1 V) else (if l1 = 64 then (B_X5_stackCodes_131 N  l1 V) else (if l1 = 65 then (B_X5_stackCodes_131 N  l1 V) else (if l1 = 138 then ((F_X5_rollTop N (3 : Int32) V).bind (fun V27 => some V27)) else (if (184 : Int32) ≤ l1 then (B_X5_stackCodes_162 N  ((l1 - l1 / (8 : Int32) * (8 : Int32)) + (1 : Int32)) (2 : Int32) V) else (B_X5_stackCodes_162 N  ((l1 - l1 / (8 : Int32) * (8 : Int32)) + (1 : Int32)) (1 : Int32) V)))))))))))
set_option maxRecDepth 20000 in
theorem t_X5_stackCodes {g : sx_G} (hG : sx_Go g) {P : Option Value → sv_V → Prop} {Vr : sv_V} (hP : P none Vr) {N : Nat} {l1 : Int32} {V : sv_V} (h : F_X5_stackCodes N l1 V = some Vr) : sv_N g qX5_stackCodes 3 0 [(0, .ref 69), (1, .int l1)] [] V P := by
  unfold F_X5_stackCodes at h
  refine sx_iload_n (pc := 0) dX5_stackCodes_0 sx_m1 ?_
  by_cases c7 : l1 = 32
  · have h := sx_pos c7 h
    refine sx_look (pc := 1) (off := 91) (tgt := 92) dX5_stackCodes_1 (by decide) (by rw [c7]; rfl) (by decide) ?_
    refine sx_aload_n (pc := 92) dX5_stackCodes_92 sx_m0 ?_
    obtain ⟨V8, g9, h⟩ := sx_bnd h
    refine sv_cV (pc := 93) (y := qX5_doubleTop) (o := none) (as := []) (V1 := V8) hG dX5_stackCodes_93 l_X5_376 y0X5_doubleTop yvX5_doubleTop rfl (Nat.le_of_ble_eq_true rfl) lay_69 kr_5 (by decide) (Nat.le_of_ble_eq_true rfl) rfl rfl rfl (t_X5_doubleTop hG ⟨rfl, rfl⟩ g9) ?_
    exact sv_vret (pc := 96) dX5_stackCodes_96 rfl h hP
  have h := sx_neg c7 h
  by_cases c10 : l1 = 33
  · have h := sx_pos c10 h
    refine sx_look (pc := 1) (off := 96) (tgt := 97) dX5_stackCodes_1 (by decide) (by rw [c10]; rfl) (by decide) ?_
    refine sx_aload_n (pc := 97) dX5_stackCodes_97 sx_m0 ?_
    obtain ⟨⟨x13, V11⟩, g12, h⟩ := sx_bnd h
    refine sv_cV (pc := 98) (y := qX5_pop) (o := (some (.int x13))) (as := []) (V1 := V11) hG dX5_stackCodes_98 l_X5_242 y0X5_pop yvX5_pop rfl (Nat.le_of_ble_eq_true rfl) lay_69 kr_5 (by decide) (Nat.le_of_ble_eq_true rfl) rfl rfl rfl (t_X5_pop hG ⟨rfl, rfl⟩ g12) ?_
    refine sx_pop (pc := 101) dX5_stackCodes_101 rfl ?_
    exact sv_vret (pc := 102) dX5_stackCodes_102 rfl h hP
  have h := sx_neg c10 h
  by_cases c14 : l1 = 34
  · have h := sx_pos c14 h
    refine sx_look (pc := 1) (off := 102) (tgt := 103) dX5_stackCodes_1 (by decide) (by rw [c14]; rfl) (by decide) ?_
    refine sx_aload_n (pc := 103) dX5_stackCodes_103 sx_m0 ?_
    refine sx_iconst (pc := 104) (v := 0) dX5_stackCodes_104 (by decide) ?_
    obtain ⟨V15, hV15⟩ : ∃ z : sv_V, z = sv_I V 69 5 (0 : Int32) := ⟨_, rfl⟩
    have h := sx_letE hV15 h
    refine sv_putI (pc := 105) hG dX5_stackCodes_105 f_5_96 lay_69 rfl hV15 ?_
    exact sv_vret (pc := 108) dX5_stackCodes_108 rfl h hP
  have h := sx_neg c14 h
  by_cases c16 : l1 = 35
  · have h := sx_pos c16 h
    refine sx_look (pc := 1) (off := 108) (tgt := 109) dX5_stackCodes_1 (by decide) (by rw [c16]; rfl) (by decide) ?_
    refine sx_aload_n (pc := 109) dX5_stackCodes_109 sx_m0 ?_
    refine sx_iconst (pc := 110) (v := 2) dX5_stackCodes_110 (by decide) ?_
    obtain ⟨V17, g18, h⟩ := sx_bnd h
    refine sv_cV (pc := 111) (y := qX5_rollTop) (o := none) (as := [.int (2 : Int32)]) (V1 := V17) hG dX5_stackCodes_111 l_X5_379 y0X5_rollTop yvX5_rollTop rfl (Nat.le_of_ble_eq_true rfl) lay_69 kr_5 (by decide) (Nat.le_of_ble_eq_true rfl) rfl rfl rfl (t_X5_rollTop hG ⟨rfl, rfl⟩ g18) ?_
    exact sv_vret (pc := 114) dX5_stackCodes_114 rfl h hP
  have h := sx_neg c16 h
  by_cases c19 : l1 = 36
  · have h := sx_pos c19 h
    refine sx_look (pc := 1) (off := 114) (tgt := 115) dX5_stackCodes_1 (by decide) (by rw [c19]; rfl) (by decide) ?_
    refine sx_aload_n (pc := 115) dX5_stackCodes_115 sx_m0 ?_
    refine sx_aload_n (pc := 116) dX5_stackCodes_116 sx_m0 ?_
    refine sv_getI (pc := 117) hG dX5_stackCodes_117 f_5_96 lay_69 rfl ?_
    refine sx_i2l (pc := 120) dX5_stackCodes_120 ?_
    obtain ⟨V20, g21, h⟩ := sx_bnd h
    refine sv_cV (pc := 121) (y := qX5_push) (o := none) (as := [.long ((V.1 69 5).toInt64)]) (V1 := V20) hG dX5_stackCodes_121 l_X5_232 y0X5_push yvX5_push rfl (Nat.le_of_ble_eq_true rfl) lay_69 kr_5 (by decide) (Nat.le_of_ble_eq_true rfl) rfl rfl rfl (t_X5_push hG ⟨rfl, rfl⟩ g21) ?_
    exact sv_vret (pc := 124) dX5_stackCodes_124 rfl h hP
  have h := sx_neg c19 h
  by_cases c22 : l1 = 37
  · have h := sx_pos c22 h
    refine sx_look (pc := 1) (off := 124) (tgt := 125) dX5_stackCodes_1 (by decide) (by rw [c22]; rfl) (by decide) ?_
    refine sx_wk (sx_s1 sx_m0 (sx_s1 sx_m1 sx_s0)) ?_
    exact tB_X5_stackCodes_125 hG hP  h
  have h := sx_neg c22 h
  by_cases c23 : l1 = 38
  · have h := sx_pos c23 h
    refine sx_look (pc := 1) (off := 124) (tgt := 125) dX5_stackCodes_1 (by decide) (by rw [c23]; rfl) (by decide) ?_
    refine sx_wk (sx_s1 sx_m0 (sx_s1 sx_m1 sx_s0)) ?_
    exact tB_X5_stackCodes_125 hG hP  h
  have h := sx_neg c23 h
  by_cases c24 : l1 = 64
  · have h := sx_pos c24 h
    refine sx_look (pc := 1) (off := 130) (tgt := 131) dX5_stackCodes_1 (by decide) (by rw [c24]; rfl) (by decide) ?_
    refine sx_wk (sx_s1 sx_m0 (sx_s1 sx_m1 sx_s0)) ?_
    exact tB_X5_stackCodes_131 hG hP  h
  have h := sx_neg c24 h
  by_cases c25 : l1 = 65
  · have h := sx_pos c25 h
    refine sx_look (pc := 1) (off := 130) (tgt := 131) dX5_stackCodes_1 (by decide) (by rw [c25]; rfl) (by decide) ?_
    refine sx_wk (sx_s1 sx_m0 (sx_s1 sx_m1 sx_s0)) ?_
    exact tB_X5_stackCodes_131 hG hP  h
  have h := sx_neg c25 h
  by_cases c26 : l1 = 138
  · have h := sx_pos c26 h
    refine sx_look (pc := 1) (off := 136) (tgt := 137) dX5_stackCodes_1 (by decide) (by rw [c26]; rfl) (by decide) ?_
    refine sx_aload_n (pc := 137) dX5_stackCodes_137 sx_m0 ?_
    refine sx_iconst (pc := 138) (v := 3) dX5_stackCodes_138 (by decide) ?_
    obtain ⟨V27, g28, h⟩ := sx_bnd h
    refine sv_cV (pc := 139) (y := qX5_rollTop) (o := none) (as := [.int (3 : Int32)]) (V1 := V27) hG dX5_stackCodes_139 l_X5_379 y0X5_rollTop yvX5_rollTop rfl (Nat.le_of_ble_eq_true rfl) lay_69 kr_5 (by decide) (Nat.le_of_ble_eq_true rfl) rfl rfl rfl (t_X5_rollTop hG ⟨rfl, rfl⟩ g28) ?_
    exact sv_vret (pc := 142) dX5_stackCodes_142 rfl h hP
  have h := sx_neg c26 h
  refine sx_look (pc := 1) (off := 142) (tgt := 143) dX5_stackCodes_1 (by decide) (by show Op.lookupswitch.offset [(32, 91), (33, 96), (34, 102), (35, 108), (36, 114), (37, 124), (38, 124), (64, 130), (65, 130), (138, 136)] 142 l1.toInt = 142; rw [lv_osw (a := 32) c7 rfl, lv_osw (a := 33) c10 rfl, lv_osw (a := 34) c14 rfl, lv_osw (a := 35) c16 rfl, lv_osw (a := 36) c19 rfl, lv_osw (a := 37) c22 rfl, lv_osw (a := 38) c23 rfl, lv_osw (a := 64) c24 rfl, lv_osw (a := 65) c25 rfl, lv_osw (a := 138) c26 rfl]; rfl) (by decide) ?_
  refine sx_aload_n (pc := 143) dX5_stackCodes_143 sx_m0 ?_
  refine sx_iload_n (pc := 144) dX5_stackCodes_144 sx_m1 ?_
  refine sx_bipush (pc := 145) (v := 8) dX5_stackCodes_145 (by decide) ?_
  refine sx_irem (pc := 147) dX5_stackCodes_147 (by decide) ?_
  refine sx_iconst (pc := 148) (v := 1) dX5_stackCodes_148 (by decide) ?_
  refine sx_iadd (pc := 149) dX5_stackCodes_149 ?_
  refine sx_iload_n (pc := 150) dX5_stackCodes_150 sx_m1 ?_
  refine sx_sipush (pc := 151) (v := 184) dX5_stackCodes_151 (by decide) ?_
  refine sx_icmp_ge (pc := 154) (tgt := 161) dX5_stackCodes_154 (by decide) (fun c29 => ?_) (fun c29 => ?_)
  · have h := sx_pos c29 h
    refine sx_iconst (pc := 161) (v := 2) dX5_stackCodes_161 (by decide) ?_
    refine sx_wk sx_s0 ?_
    exact tB_X5_stackCodes_162 hG hP  h
  · have h := sx_neg c29 h
    refine sx_iconst (pc := 157) (v := 1) dX5_stackCodes_157 (by decide) ?_
    refine sx_goto (pc := 158) (tgt := 162) dX5_stackCodes_158 (by decide) ?_
    refine sx_wk sx_s0 ?_
    exact tB_X5_stackCodes_162 hG hP  h
def ncX5_memoryCodes : Nat := 77744145382853657282129614137382881322476939086313113916939136998045325304839089867472666917028815830768757119166717110616733629884259981386585858814688844434859795285015709646998355810254854157636976584119422424170650504431339651399198837229792027
theorem kcX5_memoryCodes : CK cX5_memoryCodes ncX5_memoryCodes 103 := ⟨by decide +kernel, by decide +kernel⟩
theorem dX5_memoryCodes_0 : decode cX5_memoryCodes 0 = .ok (.iload_n 1, 1) := dl_o27 kcX5_memoryCodes (by decide +kernel)
theorem dX5_memoryCodes_1 : decode cX5_memoryCodes 1 = .ok (.lookupswitch 92 #[(66, 59), (67, 65), (68, 59), (69, 65), (112, 59), (136, 71)], 59) := by decide +kernel
theorem dX5_memoryCodes_60 : decode cX5_memoryCodes 60 = .ok (.aload_n 0, 1) := dl_o42 kcX5_memoryCodes (by decide +kernel)
theorem dX5_memoryCodes_61 : decode cX5_memoryCodes 61 = .ok (.iload_n 1, 1) := dl_o27 kcX5_memoryCodes (by decide +kernel)
theorem dX5_memoryCodes_62 : decode cX5_memoryCodes 62 = .ok (.invokevirtual 394, 3) := dl_o182 kcX5_memoryCodes (by decide +kernel)
theorem dX5_memoryCodes_65 : decode cX5_memoryCodes 65 = .ok (.return_, 1) := dl_o177 kcX5_memoryCodes (by decide +kernel)
theorem dX5_memoryCodes_66 : decode cX5_memoryCodes 66 = .ok (.aload_n 0, 1) := dl_o42 kcX5_memoryCodes (by decide +kernel)
theorem dX5_memoryCodes_67 : decode cX5_memoryCodes 67 = .ok (.iload_n 1, 1) := dl_o27 kcX5_memoryCodes (by decide +kernel)
theorem dX5_memoryCodes_68 : decode cX5_memoryCodes 68 = .ok (.invokevirtual 397, 3) := dl_o182 kcX5_memoryCodes (by decide +kernel)
theorem dX5_memoryCodes_71 : decode cX5_memoryCodes 71 = .ok (.return_, 1) := dl_o177 kcX5_memoryCodes (by decide +kernel)
theorem dX5_memoryCodes_72 : decode cX5_memoryCodes 72 = .ok (.aload_n 0, 1) := dl_o42 kcX5_memoryCodes (by decide +kernel)
theorem dX5_memoryCodes_73 : decode cX5_memoryCodes 73 = .ok (.aload_n 0, 1) := dl_o42 kcX5_memoryCodes (by decide +kernel)
theorem dX5_memoryCodes_74 : decode cX5_memoryCodes 74 = .ok (.invokevirtual 242, 3) := dl_o182 kcX5_memoryCodes (by decide +kernel)
theorem dX5_memoryCodes_77 : decode cX5_memoryCodes 77 = .ok (.iconst 1, 1) := dl_o4 kcX5_memoryCodes (by decide +kernel)
theorem dX5_memoryCodes_78 : decode cX5_memoryCodes 78 = .ok (.iand, 1) := dl_o126 kcX5_memoryCodes (by decide +kernel)
theorem dX5_memoryCodes_79 : decode cX5_memoryCodes 79 = .ok (.ifCond .eq 9, 3) := dl_o153 kcX5_memoryCodes 9 (by decide +kernel) (by decide +kernel)
theorem dX5_memoryCodes_82 : decode cX5_memoryCodes 82 = .ok (.ldc2_w 400, 3) := dl_o20 kcX5_memoryCodes (by decide +kernel)
theorem dX5_memoryCodes_85 : decode cX5_memoryCodes 85 = .ok (.goto 4, 3) := dl_o167 kcX5_memoryCodes 4 (by decide +kernel) (by decide +kernel)
theorem dX5_memoryCodes_88 : decode cX5_memoryCodes 88 = .ok (.lconst 0, 1) := dl_o9 kcX5_memoryCodes (by decide +kernel)
theorem dX5_memoryCodes_89 : decode cX5_memoryCodes 89 = .ok (.invokevirtual 232, 3) := dl_o182 kcX5_memoryCodes (by decide +kernel)
theorem dX5_memoryCodes_92 : decode cX5_memoryCodes 92 = .ok (.return_, 1) := dl_o177 kcX5_memoryCodes (by decide +kernel)
theorem dX5_memoryCodes_93 : decode cX5_memoryCodes 93 = .ok (.aload_n 0, 1) := dl_o42 kcX5_memoryCodes (by decide +kernel)
theorem dX5_memoryCodes_94 : decode cX5_memoryCodes 94 = .ok (.aload_n 0, 1) := dl_o42 kcX5_memoryCodes (by decide +kernel)
theorem dX5_memoryCodes_95 : decode cX5_memoryCodes 95 = .ok (.getfield 59, 3) := dl_o180 kcX5_memoryCodes (by decide +kernel)
theorem dX5_memoryCodes_98 : decode cX5_memoryCodes 98 = .ok (.i2l, 1) := dl_o133 kcX5_memoryCodes (by decide +kernel)
theorem dX5_memoryCodes_99 : decode cX5_memoryCodes 99 = .ok (.invokevirtual 232, 3) := dl_o182 kcX5_memoryCodes (by decide +kernel)
theorem dX5_memoryCodes_102 : decode cX5_memoryCodes 102 = .ok (.return_, 1) := dl_o177 kcX5_memoryCodes (by decide +kernel)
def B_X5_memoryCodes_60  (l1 : Int32) (V : sv_V) : Option sv_V := (F_X5_write l1 V).bind (fun V1 => some V1)
set_option maxRecDepth 20000 in
theorem tB_X5_memoryCodes_60 {g : sx_G} (hG : sx_Go g) {P : Option Value → sv_V → Prop} {Vr : sv_V} (hP : P none Vr)   {l1 : Int32} {V : sv_V} (h : B_X5_memoryCodes_60  l1 V = some Vr) : sv_N g qX5_memoryCodes 3 60 [(0, .ref 69), (1, .int l1)] [] V P := by
  unfold B_X5_memoryCodes_60 at h
  refine sx_aload_n (pc := 60) dX5_memoryCodes_60 sx_m0 ?_
  refine sx_iload_n (pc := 61) dX5_memoryCodes_61 sx_m1 ?_
  obtain ⟨V1, g2, h⟩ := sx_bnd h
  refine sv_cV (pc := 62) (y := qX5_write) (o := none) (as := [.int l1]) (V1 := V1) hG dX5_memoryCodes_62 l_X5_394 y0X5_write yvX5_write rfl (Nat.le_of_ble_eq_true rfl) lay_69 kr_5 (by decide) (Nat.le_of_ble_eq_true rfl) rfl rfl rfl (t_X5_write hG ⟨rfl, rfl⟩ g2) ?_
  exact sv_vret (pc := 65) dX5_memoryCodes_65 rfl h hP
def B_X5_memoryCodes_66  (l1 : Int32) (V : sv_V) : Option sv_V := (F_X5_read l1 V).bind (fun V3 => some V3)
set_option maxRecDepth 20000 in
theorem tB_X5_memoryCodes_66 {g : sx_G} (hG : sx_Go g) {P : Option Value → sv_V → Prop} {Vr : sv_V} (hP : P none Vr)   {l1 : Int32} {V : sv_V} (h : B_X5_memoryCodes_66  l1 V = some Vr) : sv_N g qX5_memoryCodes 3 66 [(0, .ref 69), (1, .int l1)] [] V P := by
  unfold B_X5_memoryCodes_66 at h
  refine sx_aload_n (pc := 66) dX5_memoryCodes_66 sx_m0 ?_
  refine sx_iload_n (pc := 67) dX5_memoryCodes_67 sx_m1 ?_
  obtain ⟨V3, g4, h⟩ := sx_bnd h
  refine sv_cV (pc := 68) (y := qX5_read) (o := none) (as := [.int l1]) (V1 := V3) hG dX5_memoryCodes_68 l_X5_397 y0X5_read yvX5_read rfl (Nat.le_of_ble_eq_true rfl) lay_69 kr_5 (by decide) (Nat.le_of_ble_eq_true rfl) rfl rfl rfl (t_X5_read hG ⟨rfl, rfl⟩ g4) ?_
  exact sv_vret (pc := 71) dX5_memoryCodes_71 rfl h hP
def B_X5_memoryCodes_89  (s1 : Int64) (V : sv_V) : Option sv_V := (F_X5_push s1 V).bind (fun V5 => some V5)
set_option maxRecDepth 20000 in
theorem tB_X5_memoryCodes_89 {g : sx_G} (hG : sx_Go g) {P : Option Value → sv_V → Prop} {Vr : sv_V} (hP : P none Vr)   {s1 : Int64} {V : sv_V} (h : B_X5_memoryCodes_89  s1 V = some Vr) : sv_N g qX5_memoryCodes 3 89 [] [.long s1, .ref 69] V P := by
  unfold B_X5_memoryCodes_89 at h
  obtain ⟨V5, g6, h⟩ := sx_bnd h
  refine sv_cV (pc := 89) (y := qX5_push) (o := none) (as := [.long s1]) (V1 := V5) hG dX5_memoryCodes_89 l_X5_232 y0X5_push yvX5_push rfl (Nat.le_of_ble_eq_true rfl) lay_69 kr_5 (by decide) (Nat.le_of_ble_eq_true rfl) rfl rfl rfl (t_X5_push hG ⟨rfl, rfl⟩ g6) ?_
  exact sv_vret (pc := 92) dX5_memoryCodes_92 rfl h hP
def F_X5_memoryCodes (l1 : Int32) (V : sv_V) : Option sv_V := if l1 = 66 then (B_X5_memoryCodes_60  l1 V) else (if l1 = 67 then (B_X5_memoryCodes_66  l1 V) else (if l1 = 68 then (B_X5_memoryCodes_60  l1 V) else (if l1 = 69 then (B_X5_memoryCodes_66  l1 V) else (if l1 = 112 then (B_X5_memoryCodes_60  l1 V) else (if l1 = 136 then ((F_X5_pop  V).bind (fun (x15, V13) => if (x15 &&& (1 : Int32)) = 0 then (B_X5_memoryCodes_89  (0 : Int64) V13) else (B_X5_memoryCodes_89  (35 : Int64) V13))) else ((F_X5_push ((V.1 69 12).toInt64) V).bind (fun V17 => some V17)))))))
set_option maxRecDepth 20000 in
theorem t_X5_memoryCodes {g : sx_G} (hG : sx_Go g) {P : Option Value → sv_V → Prop} {Vr : sv_V} (hP : P none Vr) {l1 : Int32} {V : sv_V} (h : F_X5_memoryCodes l1 V = some Vr) : sv_N g qX5_memoryCodes 3 0 [(0, .ref 69), (1, .int l1)] [] V P := by
  unfold F_X5_memoryCodes at h
  refine sx_iload_n (pc := 0) dX5_memoryCodes_0 sx_m1 ?_
  by_cases c7 : l1 = 66
  · have h := sx_pos c7 h
    refine sx_look (pc := 1) (off := 59) (tgt := 60) dX5_memoryCodes_1 (by decide) (by rw [c7]; rfl) (by decide) ?_
    refine sx_wk (sx_s1 sx_m0 (sx_s1 sx_m1 sx_s0)) ?_
    exact tB_X5_memoryCodes_60 hG hP  h
  have h := sx_neg c7 h
  by_cases c8 : l1 = 67
  · have h := sx_pos c8 h
    refine sx_look (pc := 1) (off := 65) (tgt := 66) dX5_memoryCodes_1 (by decide) (by rw [c8]; rfl) (by decide) ?_
    refine sx_wk (sx_s1 sx_m0 (sx_s1 sx_m1 sx_s0)) ?_
    exact tB_X5_memoryCodes_66 hG hP  h
  have h := sx_neg c8 h
  by_cases c9 : l1 = 68
  · have h := sx_pos c9 h
    refine sx_look (pc := 1) (off := 59) (tgt := 60) dX5_memoryCodes_1 (by decide) (by rw [c9]; rfl) (by decide) ?_
    refine sx_wk (sx_s1 sx_m0 (sx_s1 sx_m1 sx_s0)) ?_
    exact tB_X5_memoryCodes_60 hG hP  h
  have h := sx_neg c9 h
  by_cases c10 : l1 = 69
  · have h := sx_pos c10 h
    refine sx_look (pc := 1) (off := 65) (tgt := 66) dX5_memoryCodes_1 (by decide) (by rw [c10]; rfl) (by decide) ?_
    refine sx_wk (sx_s1 sx_m0 (sx_s1 sx_m1 sx_s0)) ?_
    exact tB_X5_memoryCodes_66 hG hP  h
  have h := sx_neg c10 h
  by_cases c11 : l1 = 112
  · have h := sx_pos c11 h
    refine sx_look (pc := 1) (off := 59) (tgt := 60) dX5_memoryCodes_1 (by decide) (by rw [c11]; rfl) (by decide) ?_
    refine sx_wk (sx_s1 sx_m0 (sx_s1 sx_m1 sx_s0)) ?_
    exact tB_X5_memoryCodes_60 hG hP  h
  have h := sx_neg c11 h
  by_cases c12 : l1 = 136
  · have h := sx_pos c12 h
    refine sx_look (pc := 1) (off := 71) (tgt := 72) dX5_memoryCodes_1 (by decide) (by rw [c12]; rfl) (by decide) ?_
    refine sx_aload_n (pc := 72) dX5_memoryCodes_72 sx_m0 ?_
    refine sx_aload_n (pc := 73) dX5_memoryCodes_73 sx_m0 ?_
    obtain ⟨⟨x15, V13⟩, g14, h⟩ := sx_bnd h
    refine sv_cV (pc := 74) (y := qX5_pop) (o := (some (.int x15))) (as := []) (V1 := V13) hG dX5_memoryCodes_74 l_X5_242 y0X5_pop yvX5_pop rfl (Nat.le_of_ble_eq_true rfl) lay_69 kr_5 (by decide) (Nat.le_of_ble_eq_true rfl) rfl rfl rfl (t_X5_pop hG ⟨rfl, rfl⟩ g14) ?_
    refine sx_iconst (pc := 77) (v := 1) dX5_memoryCodes_77 (by decide) ?_
    refine sx_iand (pc := 78) dX5_memoryCodes_78 ?_
    refine sx_if_eq (pc := 79) (tgt := 88) dX5_memoryCodes_79 (by decide) (fun c16 => ?_) (fun c16 => ?_)
    · have h := sx_pos c16 h
      refine sx_lconst (pc := 88) (v := 0) dX5_memoryCodes_88 rfl ?_
      refine sx_wk sx_s0 ?_
      exact tB_X5_memoryCodes_89 hG hP  h
    · have h := sx_neg c16 h
      refine sx_ldc2 (pc := 82) dX5_memoryCodes_82 k_X5_400 ?_
      refine sx_goto (pc := 85) (tgt := 89) dX5_memoryCodes_85 (by decide) ?_
      refine sx_wk sx_s0 ?_
      exact tB_X5_memoryCodes_89 hG hP  h
  have h := sx_neg c12 h
  refine sx_look (pc := 1) (off := 92) (tgt := 93) dX5_memoryCodes_1 (by decide) (by show Op.lookupswitch.offset [(66, 59), (67, 65), (68, 59), (69, 65), (112, 59), (136, 71)] 92 l1.toInt = 92; rw [lv_osw (a := 66) c7 rfl, lv_osw (a := 67) c8 rfl, lv_osw (a := 68) c9 rfl, lv_osw (a := 69) c10 rfl, lv_osw (a := 112) c11 rfl, lv_osw (a := 136) c12 rfl]; rfl) (by decide) ?_
  refine sx_aload_n (pc := 93) dX5_memoryCodes_93 sx_m0 ?_
  refine sx_aload_n (pc := 94) dX5_memoryCodes_94 sx_m0 ?_
  refine sv_getI (pc := 95) hG dX5_memoryCodes_95 f_5_59 lay_69 rfl ?_
  refine sx_i2l (pc := 98) dX5_memoryCodes_98 ?_
  obtain ⟨V17, g18, h⟩ := sx_bnd h
  refine sv_cV (pc := 99) (y := qX5_push) (o := none) (as := [.long ((V.1 69 12).toInt64)]) (V1 := V17) hG dX5_memoryCodes_99 l_X5_232 y0X5_push yvX5_push rfl (Nat.le_of_ble_eq_true rfl) lay_69 kr_5 (by decide) (Nat.le_of_ble_eq_true rfl) rfl rfl rfl (t_X5_push hG ⟨rfl, rfl⟩ g18) ?_
  exact sv_vret (pc := 102) dX5_memoryCodes_102 rfl h hP
def ncX5_comparingCodes : Nat := 3143843578169486246561549390832101550127817438679553221959906116037987827191952129847923228603993186600041746221592798393441128288884193144846671470494347831622829617700033703054645165085230926499019681079691961321604332097981996794619626349053556471607766575822041349868589560531923378087758767895011431965217787538308009452101472317484468469754749796495151088028817139517986917017621256337256689702684654716529711058073422910675408878908215284450078670369812164194286710237742380710981407781362299249029179225234760845167290619965710882885002198507355501007143016000914466383826222857982724879082080388327022770213524508642557883520234365590605983228296102346416694286636664968469518370368532910549505679820245218858
theorem kcX5_comparingCodes : CK cX5_comparingCodes ncX5_comparingCodes 298 := ⟨by decide +kernel, by decide +kernel⟩
theorem dX5_comparingCodes_0 : decode cX5_comparingCodes 0 = .ok (.aload_n 0, 1) := dl_o42 kcX5_comparingCodes (by decide +kernel)
theorem dX5_comparingCodes_1 : decode cX5_comparingCodes 1 = .ok (.invokevirtual 242, 3) := dl_o182 kcX5_comparingCodes (by decide +kernel)
theorem dX5_comparingCodes_4 : decode cX5_comparingCodes 4 = .ok (.istore_n 2, 1) := dl_o61 kcX5_comparingCodes (by decide +kernel)
theorem dX5_comparingCodes_5 : decode cX5_comparingCodes 5 = .ok (.getstatic 160, 3) := dl_o178 kcX5_comparingCodes (by decide +kernel)
theorem dX5_comparingCodes_8 : decode cX5_comparingCodes 8 = .ok (.iload_n 1, 1) := dl_o27 kcX5_comparingCodes (by decide +kernel)
theorem dX5_comparingCodes_9 : decode cX5_comparingCodes 9 = .ok (.iaload, 1) := dl_o46 kcX5_comparingCodes (by decide +kernel)
theorem dX5_comparingCodes_10 : decode cX5_comparingCodes 10 = .ok (.iconst 2, 1) := dl_o5 kcX5_comparingCodes (by decide +kernel)
theorem dX5_comparingCodes_11 : decode cX5_comparingCodes 11 = .ok (.if_icmp .ne 10, 3) := dl_o160 kcX5_comparingCodes 10 (by decide +kernel) (by decide +kernel)
theorem dX5_comparingCodes_14 : decode cX5_comparingCodes 14 = .ok (.aload_n 0, 1) := dl_o42 kcX5_comparingCodes (by decide +kernel)
theorem dX5_comparingCodes_15 : decode cX5_comparingCodes 15 = .ok (.invokevirtual 242, 3) := dl_o182 kcX5_comparingCodes (by decide +kernel)
theorem dX5_comparingCodes_18 : decode cX5_comparingCodes 18 = .ok (.goto 4, 3) := dl_o167 kcX5_comparingCodes 4 (by decide +kernel) (by decide +kernel)
theorem dX5_comparingCodes_21 : decode cX5_comparingCodes 21 = .ok (.iconst 0, 1) := dl_o3 kcX5_comparingCodes (by decide +kernel)
theorem dX5_comparingCodes_22 : decode cX5_comparingCodes 22 = .ok (.istore_n 3, 1) := dl_o62 kcX5_comparingCodes (by decide +kernel)
theorem dX5_comparingCodes_23 : decode cX5_comparingCodes 23 = .ok (.iload_n 1, 1) := dl_o27 kcX5_comparingCodes (by decide +kernel)
theorem dX5_comparingCodes_24 : decode cX5_comparingCodes 24 = .ok (.tableswitch 248 80 91 #[64, 79, 94, 109, 124, 139, 154, 184, 248, 248, 212, 230], 64) := by decide +kernel
theorem dX5_comparingCodes_88 : decode cX5_comparingCodes 88 = .ok (.iload_n 3, 1) := dl_o29 kcX5_comparingCodes (by decide +kernel)
theorem dX5_comparingCodes_89 : decode cX5_comparingCodes 89 = .ok (.iload_n 2, 1) := dl_o28 kcX5_comparingCodes (by decide +kernel)
theorem dX5_comparingCodes_90 : decode cX5_comparingCodes 90 = .ok (.if_icmp .ge 7, 3) := dl_o162 kcX5_comparingCodes 7 (by decide +kernel) (by decide +kernel)
theorem dX5_comparingCodes_93 : decode cX5_comparingCodes 93 = .ok (.iconst 1, 1) := dl_o4 kcX5_comparingCodes (by decide +kernel)
theorem dX5_comparingCodes_94 : decode cX5_comparingCodes 94 = .ok (.goto 4, 3) := dl_o167 kcX5_comparingCodes 4 (by decide +kernel) (by decide +kernel)
theorem dX5_comparingCodes_97 : decode cX5_comparingCodes 97 = .ok (.iconst 0, 1) := dl_o3 kcX5_comparingCodes (by decide +kernel)
theorem dX5_comparingCodes_98 : decode cX5_comparingCodes 98 = .ok (.istore 4, 2) := dl_o54 kcX5_comparingCodes (by decide +kernel)
theorem dX5_comparingCodes_100 : decode cX5_comparingCodes 100 = .ok (.goto 183, 3) := dl_o167 kcX5_comparingCodes 183 (by decide +kernel) (by decide +kernel)
theorem dX5_comparingCodes_103 : decode cX5_comparingCodes 103 = .ok (.iload_n 3, 1) := dl_o29 kcX5_comparingCodes (by decide +kernel)
theorem dX5_comparingCodes_104 : decode cX5_comparingCodes 104 = .ok (.iload_n 2, 1) := dl_o28 kcX5_comparingCodes (by decide +kernel)
theorem dX5_comparingCodes_105 : decode cX5_comparingCodes 105 = .ok (.if_icmp .gt 7, 3) := dl_o163 kcX5_comparingCodes 7 (by decide +kernel) (by decide +kernel)
theorem dX5_comparingCodes_108 : decode cX5_comparingCodes 108 = .ok (.iconst 1, 1) := dl_o4 kcX5_comparingCodes (by decide +kernel)
theorem dX5_comparingCodes_109 : decode cX5_comparingCodes 109 = .ok (.goto 4, 3) := dl_o167 kcX5_comparingCodes 4 (by decide +kernel) (by decide +kernel)
theorem dX5_comparingCodes_112 : decode cX5_comparingCodes 112 = .ok (.iconst 0, 1) := dl_o3 kcX5_comparingCodes (by decide +kernel)
theorem dX5_comparingCodes_113 : decode cX5_comparingCodes 113 = .ok (.istore 4, 2) := dl_o54 kcX5_comparingCodes (by decide +kernel)
theorem dX5_comparingCodes_115 : decode cX5_comparingCodes 115 = .ok (.goto 168, 3) := dl_o167 kcX5_comparingCodes 168 (by decide +kernel) (by decide +kernel)
theorem dX5_comparingCodes_118 : decode cX5_comparingCodes 118 = .ok (.iload_n 3, 1) := dl_o29 kcX5_comparingCodes (by decide +kernel)
theorem dX5_comparingCodes_119 : decode cX5_comparingCodes 119 = .ok (.iload_n 2, 1) := dl_o28 kcX5_comparingCodes (by decide +kernel)
theorem dX5_comparingCodes_120 : decode cX5_comparingCodes 120 = .ok (.if_icmp .le 7, 3) := dl_o164 kcX5_comparingCodes 7 (by decide +kernel) (by decide +kernel)
theorem dX5_comparingCodes_123 : decode cX5_comparingCodes 123 = .ok (.iconst 1, 1) := dl_o4 kcX5_comparingCodes (by decide +kernel)
theorem dX5_comparingCodes_124 : decode cX5_comparingCodes 124 = .ok (.goto 4, 3) := dl_o167 kcX5_comparingCodes 4 (by decide +kernel) (by decide +kernel)
theorem dX5_comparingCodes_127 : decode cX5_comparingCodes 127 = .ok (.iconst 0, 1) := dl_o3 kcX5_comparingCodes (by decide +kernel)
theorem dX5_comparingCodes_128 : decode cX5_comparingCodes 128 = .ok (.istore 4, 2) := dl_o54 kcX5_comparingCodes (by decide +kernel)
theorem dX5_comparingCodes_130 : decode cX5_comparingCodes 130 = .ok (.goto 153, 3) := dl_o167 kcX5_comparingCodes 153 (by decide +kernel) (by decide +kernel)
theorem dX5_comparingCodes_133 : decode cX5_comparingCodes 133 = .ok (.iload_n 3, 1) := dl_o29 kcX5_comparingCodes (by decide +kernel)
theorem dX5_comparingCodes_134 : decode cX5_comparingCodes 134 = .ok (.iload_n 2, 1) := dl_o28 kcX5_comparingCodes (by decide +kernel)
theorem dX5_comparingCodes_135 : decode cX5_comparingCodes 135 = .ok (.if_icmp .lt 7, 3) := dl_o161 kcX5_comparingCodes 7 (by decide +kernel) (by decide +kernel)
theorem dX5_comparingCodes_138 : decode cX5_comparingCodes 138 = .ok (.iconst 1, 1) := dl_o4 kcX5_comparingCodes (by decide +kernel)
theorem dX5_comparingCodes_139 : decode cX5_comparingCodes 139 = .ok (.goto 4, 3) := dl_o167 kcX5_comparingCodes 4 (by decide +kernel) (by decide +kernel)
theorem dX5_comparingCodes_142 : decode cX5_comparingCodes 142 = .ok (.iconst 0, 1) := dl_o3 kcX5_comparingCodes (by decide +kernel)
theorem dX5_comparingCodes_143 : decode cX5_comparingCodes 143 = .ok (.istore 4, 2) := dl_o54 kcX5_comparingCodes (by decide +kernel)
theorem dX5_comparingCodes_145 : decode cX5_comparingCodes 145 = .ok (.goto 138, 3) := dl_o167 kcX5_comparingCodes 138 (by decide +kernel) (by decide +kernel)
theorem dX5_comparingCodes_148 : decode cX5_comparingCodes 148 = .ok (.iload_n 3, 1) := dl_o29 kcX5_comparingCodes (by decide +kernel)
theorem dX5_comparingCodes_149 : decode cX5_comparingCodes 149 = .ok (.iload_n 2, 1) := dl_o28 kcX5_comparingCodes (by decide +kernel)
theorem dX5_comparingCodes_150 : decode cX5_comparingCodes 150 = .ok (.if_icmp .ne 7, 3) := dl_o160 kcX5_comparingCodes 7 (by decide +kernel) (by decide +kernel)
theorem dX5_comparingCodes_153 : decode cX5_comparingCodes 153 = .ok (.iconst 1, 1) := dl_o4 kcX5_comparingCodes (by decide +kernel)
theorem dX5_comparingCodes_154 : decode cX5_comparingCodes 154 = .ok (.goto 4, 3) := dl_o167 kcX5_comparingCodes 4 (by decide +kernel) (by decide +kernel)
theorem dX5_comparingCodes_157 : decode cX5_comparingCodes 157 = .ok (.iconst 0, 1) := dl_o3 kcX5_comparingCodes (by decide +kernel)
theorem dX5_comparingCodes_158 : decode cX5_comparingCodes 158 = .ok (.istore 4, 2) := dl_o54 kcX5_comparingCodes (by decide +kernel)
theorem dX5_comparingCodes_160 : decode cX5_comparingCodes 160 = .ok (.goto 123, 3) := dl_o167 kcX5_comparingCodes 123 (by decide +kernel) (by decide +kernel)
theorem dX5_comparingCodes_163 : decode cX5_comparingCodes 163 = .ok (.iload_n 3, 1) := dl_o29 kcX5_comparingCodes (by decide +kernel)
theorem dX5_comparingCodes_164 : decode cX5_comparingCodes 164 = .ok (.iload_n 2, 1) := dl_o28 kcX5_comparingCodes (by decide +kernel)
theorem dX5_comparingCodes_165 : decode cX5_comparingCodes 165 = .ok (.if_icmp .eq 7, 3) := dl_o159 kcX5_comparingCodes 7 (by decide +kernel) (by decide +kernel)
theorem dX5_comparingCodes_168 : decode cX5_comparingCodes 168 = .ok (.iconst 1, 1) := dl_o4 kcX5_comparingCodes (by decide +kernel)
theorem dX5_comparingCodes_169 : decode cX5_comparingCodes 169 = .ok (.goto 4, 3) := dl_o167 kcX5_comparingCodes 4 (by decide +kernel) (by decide +kernel)
theorem dX5_comparingCodes_172 : decode cX5_comparingCodes 172 = .ok (.iconst 0, 1) := dl_o3 kcX5_comparingCodes (by decide +kernel)
theorem dX5_comparingCodes_173 : decode cX5_comparingCodes 173 = .ok (.istore 4, 2) := dl_o54 kcX5_comparingCodes (by decide +kernel)
theorem dX5_comparingCodes_175 : decode cX5_comparingCodes 175 = .ok (.goto 108, 3) := dl_o167 kcX5_comparingCodes 108 (by decide +kernel) (by decide +kernel)
theorem dX5_comparingCodes_178 : decode cX5_comparingCodes 178 = .ok (.aload_n 0, 1) := dl_o42 kcX5_comparingCodes (by decide +kernel)
theorem dX5_comparingCodes_179 : decode cX5_comparingCodes 179 = .ok (.getfield 12, 3) := dl_o180 kcX5_comparingCodes (by decide +kernel)
theorem dX5_comparingCodes_182 : decode cX5_comparingCodes 182 = .ok (.iload_n 2, 1) := dl_o28 kcX5_comparingCodes (by decide +kernel)
theorem dX5_comparingCodes_183 : decode cX5_comparingCodes 183 = .ok (.i2l, 1) := dl_o133 kcX5_comparingCodes (by decide +kernel)
theorem dX5_comparingCodes_184 : decode cX5_comparingCodes 184 = .ok (.invokevirtual 414, 3) := dl_o182 kcX5_comparingCodes (by decide +kernel)
theorem dX5_comparingCodes_187 : decode cX5_comparingCodes 187 = .ok (.ldc2_w 417, 3) := dl_o20 kcX5_comparingCodes (by decide +kernel)
theorem dX5_comparingCodes_190 : decode cX5_comparingCodes 190 = .ok (.land, 1) := dl_o127 kcX5_comparingCodes (by decide +kernel)
theorem dX5_comparingCodes_191 : decode cX5_comparingCodes 191 = .ok (.ldc2_w 68, 3) := dl_o20 kcX5_comparingCodes (by decide +kernel)
theorem dX5_comparingCodes_194 : decode cX5_comparingCodes 194 = .ok (.lcmp, 1) := dl_o148 kcX5_comparingCodes (by decide +kernel)
theorem dX5_comparingCodes_195 : decode cX5_comparingCodes 195 = .ok (.ifCond .ne 7, 3) := dl_o154 kcX5_comparingCodes 7 (by decide +kernel) (by decide +kernel)
theorem dX5_comparingCodes_198 : decode cX5_comparingCodes 198 = .ok (.iconst 1, 1) := dl_o4 kcX5_comparingCodes (by decide +kernel)
theorem dX5_comparingCodes_199 : decode cX5_comparingCodes 199 = .ok (.goto 4, 3) := dl_o167 kcX5_comparingCodes 4 (by decide +kernel) (by decide +kernel)
theorem dX5_comparingCodes_202 : decode cX5_comparingCodes 202 = .ok (.iconst 0, 1) := dl_o3 kcX5_comparingCodes (by decide +kernel)
theorem dX5_comparingCodes_203 : decode cX5_comparingCodes 203 = .ok (.istore 4, 2) := dl_o54 kcX5_comparingCodes (by decide +kernel)
theorem dX5_comparingCodes_205 : decode cX5_comparingCodes 205 = .ok (.goto 78, 3) := dl_o167 kcX5_comparingCodes 78 (by decide +kernel) (by decide +kernel)
theorem dX5_comparingCodes_208 : decode cX5_comparingCodes 208 = .ok (.aload_n 0, 1) := dl_o42 kcX5_comparingCodes (by decide +kernel)
theorem dX5_comparingCodes_209 : decode cX5_comparingCodes 209 = .ok (.getfield 12, 3) := dl_o180 kcX5_comparingCodes (by decide +kernel)
theorem dX5_comparingCodes_212 : decode cX5_comparingCodes 212 = .ok (.iload_n 2, 1) := dl_o28 kcX5_comparingCodes (by decide +kernel)
theorem dX5_comparingCodes_213 : decode cX5_comparingCodes 213 = .ok (.i2l, 1) := dl_o133 kcX5_comparingCodes (by decide +kernel)
theorem dX5_comparingCodes_214 : decode cX5_comparingCodes 214 = .ok (.invokevirtual 414, 3) := dl_o182 kcX5_comparingCodes (by decide +kernel)
theorem dX5_comparingCodes_217 : decode cX5_comparingCodes 217 = .ok (.ldc2_w 417, 3) := dl_o20 kcX5_comparingCodes (by decide +kernel)
theorem dX5_comparingCodes_220 : decode cX5_comparingCodes 220 = .ok (.land, 1) := dl_o127 kcX5_comparingCodes (by decide +kernel)
theorem dX5_comparingCodes_221 : decode cX5_comparingCodes 221 = .ok (.lconst 0, 1) := dl_o9 kcX5_comparingCodes (by decide +kernel)
theorem dX5_comparingCodes_222 : decode cX5_comparingCodes 222 = .ok (.lcmp, 1) := dl_o148 kcX5_comparingCodes (by decide +kernel)
theorem dX5_comparingCodes_223 : decode cX5_comparingCodes 223 = .ok (.ifCond .ne 7, 3) := dl_o154 kcX5_comparingCodes 7 (by decide +kernel) (by decide +kernel)
theorem dX5_comparingCodes_226 : decode cX5_comparingCodes 226 = .ok (.iconst 1, 1) := dl_o4 kcX5_comparingCodes (by decide +kernel)
theorem dX5_comparingCodes_227 : decode cX5_comparingCodes 227 = .ok (.goto 4, 3) := dl_o167 kcX5_comparingCodes 4 (by decide +kernel) (by decide +kernel)
theorem dX5_comparingCodes_230 : decode cX5_comparingCodes 230 = .ok (.iconst 0, 1) := dl_o3 kcX5_comparingCodes (by decide +kernel)
theorem dX5_comparingCodes_231 : decode cX5_comparingCodes 231 = .ok (.istore 4, 2) := dl_o54 kcX5_comparingCodes (by decide +kernel)
theorem dX5_comparingCodes_233 : decode cX5_comparingCodes 233 = .ok (.goto 50, 3) := dl_o167 kcX5_comparingCodes 50 (by decide +kernel) (by decide +kernel)
theorem dX5_comparingCodes_236 : decode cX5_comparingCodes 236 = .ok (.iload_n 3, 1) := dl_o29 kcX5_comparingCodes (by decide +kernel)
theorem dX5_comparingCodes_237 : decode cX5_comparingCodes 237 = .ok (.ifCond .eq 11, 3) := dl_o153 kcX5_comparingCodes 11 (by decide +kernel) (by decide +kernel)
theorem dX5_comparingCodes_240 : decode cX5_comparingCodes 240 = .ok (.iload_n 2, 1) := dl_o28 kcX5_comparingCodes (by decide +kernel)
theorem dX5_comparingCodes_241 : decode cX5_comparingCodes 241 = .ok (.ifCond .eq 7, 3) := dl_o153 kcX5_comparingCodes 7 (by decide +kernel) (by decide +kernel)
theorem dX5_comparingCodes_244 : decode cX5_comparingCodes 244 = .ok (.iconst 1, 1) := dl_o4 kcX5_comparingCodes (by decide +kernel)
theorem dX5_comparingCodes_245 : decode cX5_comparingCodes 245 = .ok (.goto 4, 3) := dl_o167 kcX5_comparingCodes 4 (by decide +kernel) (by decide +kernel)
theorem dX5_comparingCodes_248 : decode cX5_comparingCodes 248 = .ok (.iconst 0, 1) := dl_o3 kcX5_comparingCodes (by decide +kernel)
theorem dX5_comparingCodes_249 : decode cX5_comparingCodes 249 = .ok (.istore 4, 2) := dl_o54 kcX5_comparingCodes (by decide +kernel)
theorem dX5_comparingCodes_251 : decode cX5_comparingCodes 251 = .ok (.goto 32, 3) := dl_o167 kcX5_comparingCodes 32 (by decide +kernel) (by decide +kernel)
theorem dX5_comparingCodes_254 : decode cX5_comparingCodes 254 = .ok (.iload_n 3, 1) := dl_o29 kcX5_comparingCodes (by decide +kernel)
theorem dX5_comparingCodes_255 : decode cX5_comparingCodes 255 = .ok (.ifCond .ne 7, 3) := dl_o154 kcX5_comparingCodes 7 (by decide +kernel) (by decide +kernel)
theorem dX5_comparingCodes_258 : decode cX5_comparingCodes 258 = .ok (.iload_n 2, 1) := dl_o28 kcX5_comparingCodes (by decide +kernel)
theorem dX5_comparingCodes_259 : decode cX5_comparingCodes 259 = .ok (.ifCond .eq 7, 3) := dl_o153 kcX5_comparingCodes 7 (by decide +kernel) (by decide +kernel)
theorem dX5_comparingCodes_262 : decode cX5_comparingCodes 262 = .ok (.iconst 1, 1) := dl_o4 kcX5_comparingCodes (by decide +kernel)
theorem dX5_comparingCodes_263 : decode cX5_comparingCodes 263 = .ok (.goto 4, 3) := dl_o167 kcX5_comparingCodes 4 (by decide +kernel) (by decide +kernel)
theorem dX5_comparingCodes_266 : decode cX5_comparingCodes 266 = .ok (.iconst 0, 1) := dl_o3 kcX5_comparingCodes (by decide +kernel)
theorem dX5_comparingCodes_267 : decode cX5_comparingCodes 267 = .ok (.istore 4, 2) := dl_o54 kcX5_comparingCodes (by decide +kernel)
theorem dX5_comparingCodes_269 : decode cX5_comparingCodes 269 = .ok (.goto 14, 3) := dl_o167 kcX5_comparingCodes 14 (by decide +kernel) (by decide +kernel)
theorem dX5_comparingCodes_272 : decode cX5_comparingCodes 272 = .ok (.iload_n 2, 1) := dl_o28 kcX5_comparingCodes (by decide +kernel)
theorem dX5_comparingCodes_273 : decode cX5_comparingCodes 273 = .ok (.ifCond .ne 7, 3) := dl_o154 kcX5_comparingCodes 7 (by decide +kernel) (by decide +kernel)
theorem dX5_comparingCodes_276 : decode cX5_comparingCodes 276 = .ok (.iconst 1, 1) := dl_o4 kcX5_comparingCodes (by decide +kernel)
theorem dX5_comparingCodes_277 : decode cX5_comparingCodes 277 = .ok (.goto 4, 3) := dl_o167 kcX5_comparingCodes 4 (by decide +kernel) (by decide +kernel)
theorem dX5_comparingCodes_280 : decode cX5_comparingCodes 280 = .ok (.iconst 0, 1) := dl_o3 kcX5_comparingCodes (by decide +kernel)
theorem dX5_comparingCodes_281 : decode cX5_comparingCodes 281 = .ok (.istore 4, 2) := dl_o54 kcX5_comparingCodes (by decide +kernel)
theorem dX5_comparingCodes_283 : decode cX5_comparingCodes 283 = .ok (.aload_n 0, 1) := dl_o42 kcX5_comparingCodes (by decide +kernel)
theorem dX5_comparingCodes_284 : decode cX5_comparingCodes 284 = .ok (.iload 4, 2) := dl_o21 kcX5_comparingCodes (by decide +kernel)
theorem dX5_comparingCodes_286 : decode cX5_comparingCodes 286 = .ok (.ifCond .eq 7, 3) := dl_o153 kcX5_comparingCodes 7 (by decide +kernel) (by decide +kernel)
theorem dX5_comparingCodes_289 : decode cX5_comparingCodes 289 = .ok (.lconst 1, 1) := dl_o10 kcX5_comparingCodes (by decide +kernel)
theorem dX5_comparingCodes_290 : decode cX5_comparingCodes 290 = .ok (.goto 4, 3) := dl_o167 kcX5_comparingCodes 4 (by decide +kernel) (by decide +kernel)
theorem dX5_comparingCodes_293 : decode cX5_comparingCodes 293 = .ok (.lconst 0, 1) := dl_o9 kcX5_comparingCodes (by decide +kernel)
theorem dX5_comparingCodes_294 : decode cX5_comparingCodes 294 = .ok (.invokevirtual 232, 3) := dl_o182 kcX5_comparingCodes (by decide +kernel)
theorem dX5_comparingCodes_297 : decode cX5_comparingCodes 297 = .ok (.return_, 1) := dl_o177 kcX5_comparingCodes (by decide +kernel)
def B_X5_comparingCodes_294  (s1 : Int64) (V : sv_V) : Option sv_V := (F_X5_push s1 V).bind (fun V1 => some V1)
set_option maxRecDepth 20000 in
theorem tB_X5_comparingCodes_294 {g : sx_G} (hG : sx_Go g) {P : Option Value → sv_V → Prop} {Vr : sv_V} (hP : P none Vr)   {s1 : Int64} {V : sv_V} (h : B_X5_comparingCodes_294  s1 V = some Vr) : sv_N g qX5_comparingCodes 2 294 [] [.long s1, .ref 69] V P := by
  unfold B_X5_comparingCodes_294 at h
  obtain ⟨V1, g2, h⟩ := sx_bnd h
  refine sv_cV (pc := 294) (y := qX5_push) (o := none) (as := [.long s1]) (V1 := V1) hG dX5_comparingCodes_294 l_X5_232 y0X5_push yvX5_push rfl (Nat.le_of_ble_eq_true rfl) lay_69 kr_5 (by decide) (Nat.le_of_ble_eq_true rfl) rfl rfl rfl (t_X5_push hG ⟨rfl, rfl⟩ g2) ?_
  exact sv_vret (pc := 297) dX5_comparingCodes_297 rfl h hP
def B_X5_comparingCodes_283  (l4 : Int32) (V : sv_V) : Option sv_V := if l4 = 0 then (B_X5_comparingCodes_294  (0 : Int64) V) else (B_X5_comparingCodes_294  (1 : Int64) V)
set_option maxRecDepth 20000 in
theorem tB_X5_comparingCodes_283 {g : sx_G} (hG : sx_Go g) {P : Option Value → sv_V → Prop} {Vr : sv_V} (hP : P none Vr)   {l4 : Int32} {V : sv_V} (h : B_X5_comparingCodes_283  l4 V = some Vr) : sv_N g qX5_comparingCodes 2 283 [(0, .ref 69), (4, .int l4)] [] V P := by
  unfold B_X5_comparingCodes_283 at h
  refine sx_aload_n (pc := 283) dX5_comparingCodes_283 sx_m0 ?_
  refine sx_iload (pc := 284) dX5_comparingCodes_284 sx_m1 ?_
  refine sx_if_eq (pc := 286) (tgt := 293) dX5_comparingCodes_286 (by decide) (fun c3 => ?_) (fun c3 => ?_)
  · have h := sx_pos c3 h
    refine sx_lconst (pc := 293) (v := 0) dX5_comparingCodes_293 rfl ?_
    refine sx_wk sx_s0 ?_
    exact tB_X5_comparingCodes_294 hG hP  h
  · have h := sx_neg c3 h
    refine sx_lconst (pc := 289) (v := 1) dX5_comparingCodes_289 rfl ?_
    refine sx_goto (pc := 290) (tgt := 294) dX5_comparingCodes_290 (by decide) ?_
    refine sx_wk sx_s0 ?_
    exact tB_X5_comparingCodes_294 hG hP  h
def B_X5_comparingCodes_98  (s0 : Int32) (V : sv_V) : Option sv_V := B_X5_comparingCodes_283  s0 V
set_option maxRecDepth 20000 in
theorem tB_X5_comparingCodes_98 {g : sx_G} (hG : sx_Go g) {P : Option Value → sv_V → Prop} {Vr : sv_V} (hP : P none Vr)   {s0 : Int32} {V : sv_V} (h : B_X5_comparingCodes_98  s0 V = some Vr) : sv_N g qX5_comparingCodes 2 98 [(0, .ref 69)] [.int s0] V P := by
  unfold B_X5_comparingCodes_98 at h
  refine sx_istore (pc := 98) (lo' := [(4, .int s0), (0, .ref 69)]) dX5_comparingCodes_98 (by decide) rfl ?_
  refine sx_goto (pc := 100) (tgt := 283) dX5_comparingCodes_100 (by decide) ?_
  refine sx_wk (sx_s1 sx_m1 (sx_s1 sx_m0 sx_s0)) ?_
  exact tB_X5_comparingCodes_283 hG hP  h
def B_X5_comparingCodes_113  (s0 : Int32) (V : sv_V) : Option sv_V := B_X5_comparingCodes_283  s0 V
set_option maxRecDepth 20000 in
theorem tB_X5_comparingCodes_113 {g : sx_G} (hG : sx_Go g) {P : Option Value → sv_V → Prop} {Vr : sv_V} (hP : P none Vr)   {s0 : Int32} {V : sv_V} (h : B_X5_comparingCodes_113  s0 V = some Vr) : sv_N g qX5_comparingCodes 2 113 [(0, .ref 69)] [.int s0] V P := by
  unfold B_X5_comparingCodes_113 at h
  refine sx_istore (pc := 113) (lo' := [(4, .int s0), (0, .ref 69)]) dX5_comparingCodes_113 (by decide) rfl ?_
  refine sx_goto (pc := 115) (tgt := 283) dX5_comparingCodes_115 (by decide) ?_
  refine sx_wk (sx_s1 sx_m1 (sx_s1 sx_m0 sx_s0)) ?_
  exact tB_X5_comparingCodes_283 hG hP  h
def B_X5_comparingCodes_128  (s0 : Int32) (V : sv_V) : Option sv_V := B_X5_comparingCodes_283  s0 V
set_option maxRecDepth 20000 in
theorem tB_X5_comparingCodes_128 {g : sx_G} (hG : sx_Go g) {P : Option Value → sv_V → Prop} {Vr : sv_V} (hP : P none Vr)   {s0 : Int32} {V : sv_V} (h : B_X5_comparingCodes_128  s0 V = some Vr) : sv_N g qX5_comparingCodes 2 128 [(0, .ref 69)] [.int s0] V P := by
  unfold B_X5_comparingCodes_128 at h
  refine sx_istore (pc := 128) (lo' := [(4, .int s0), (0, .ref 69)]) dX5_comparingCodes_128 (by decide) rfl ?_
  refine sx_goto (pc := 130) (tgt := 283) dX5_comparingCodes_130 (by decide) ?_
  refine sx_wk (sx_s1 sx_m1 (sx_s1 sx_m0 sx_s0)) ?_
  exact tB_X5_comparingCodes_283 hG hP  h
def B_X5_comparingCodes_143  (s0 : Int32) (V : sv_V) : Option sv_V := B_X5_comparingCodes_283  s0 V
set_option maxRecDepth 20000 in
theorem tB_X5_comparingCodes_143 {g : sx_G} (hG : sx_Go g) {P : Option Value → sv_V → Prop} {Vr : sv_V} (hP : P none Vr)   {s0 : Int32} {V : sv_V} (h : B_X5_comparingCodes_143  s0 V = some Vr) : sv_N g qX5_comparingCodes 2 143 [(0, .ref 69)] [.int s0] V P := by
  unfold B_X5_comparingCodes_143 at h
  refine sx_istore (pc := 143) (lo' := [(4, .int s0), (0, .ref 69)]) dX5_comparingCodes_143 (by decide) rfl ?_
  refine sx_goto (pc := 145) (tgt := 283) dX5_comparingCodes_145 (by decide) ?_
  refine sx_wk (sx_s1 sx_m1 (sx_s1 sx_m0 sx_s0)) ?_
  exact tB_X5_comparingCodes_283 hG hP  h
def B_X5_comparingCodes_158  (s0 : Int32) (V : sv_V) : Option sv_V := B_X5_comparingCodes_283  s0 V
set_option maxRecDepth 20000 in
theorem tB_X5_comparingCodes_158 {g : sx_G} (hG : sx_Go g) {P : Option Value → sv_V → Prop} {Vr : sv_V} (hP : P none Vr)   {s0 : Int32} {V : sv_V} (h : B_X5_comparingCodes_158  s0 V = some Vr) : sv_N g qX5_comparingCodes 2 158 [(0, .ref 69)] [.int s0] V P := by
  unfold B_X5_comparingCodes_158 at h
  refine sx_istore (pc := 158) (lo' := [(4, .int s0), (0, .ref 69)]) dX5_comparingCodes_158 (by decide) rfl ?_
  refine sx_goto (pc := 160) (tgt := 283) dX5_comparingCodes_160 (by decide) ?_
  refine sx_wk (sx_s1 sx_m1 (sx_s1 sx_m0 sx_s0)) ?_
  exact tB_X5_comparingCodes_283 hG hP  h
def B_X5_comparingCodes_173  (s0 : Int32) (V : sv_V) : Option sv_V := B_X5_comparingCodes_283  s0 V
set_option maxRecDepth 20000 in
theorem tB_X5_comparingCodes_173 {g : sx_G} (hG : sx_Go g) {P : Option Value → sv_V → Prop} {Vr : sv_V} (hP : P none Vr)   {s0 : Int32} {V : sv_V} (h : B_X5_comparingCodes_173  s0 V = some Vr) : sv_N g qX5_comparingCodes 2 173 [(0, .ref 69)] [.int s0] V P := by
  unfold B_X5_comparingCodes_173 at h
  refine sx_istore (pc := 173) (lo' := [(4, .int s0), (0, .ref 69)]) dX5_comparingCodes_173 (by decide) rfl ?_
  refine sx_goto (pc := 175) (tgt := 283) dX5_comparingCodes_175 (by decide) ?_
  refine sx_wk (sx_s1 sx_m1 (sx_s1 sx_m0 sx_s0)) ?_
  exact tB_X5_comparingCodes_283 hG hP  h
def B_X5_comparingCodes_203  (s0 : Int32) (V : sv_V) : Option sv_V := B_X5_comparingCodes_283  s0 V
set_option maxRecDepth 20000 in
theorem tB_X5_comparingCodes_203 {g : sx_G} (hG : sx_Go g) {P : Option Value → sv_V → Prop} {Vr : sv_V} (hP : P none Vr)   {s0 : Int32} {V : sv_V} (h : B_X5_comparingCodes_203  s0 V = some Vr) : sv_N g qX5_comparingCodes 2 203 [(0, .ref 69)] [.int s0] V P := by
  unfold B_X5_comparingCodes_203 at h
  refine sx_istore (pc := 203) (lo' := [(4, .int s0), (0, .ref 69)]) dX5_comparingCodes_203 (by decide) rfl ?_
  refine sx_goto (pc := 205) (tgt := 283) dX5_comparingCodes_205 (by decide) ?_
  refine sx_wk (sx_s1 sx_m1 (sx_s1 sx_m0 sx_s0)) ?_
  exact tB_X5_comparingCodes_283 hG hP  h
def B_X5_comparingCodes_231  (s0 : Int32) (V : sv_V) : Option sv_V := B_X5_comparingCodes_283  s0 V
set_option maxRecDepth 20000 in
theorem tB_X5_comparingCodes_231 {g : sx_G} (hG : sx_Go g) {P : Option Value → sv_V → Prop} {Vr : sv_V} (hP : P none Vr)   {s0 : Int32} {V : sv_V} (h : B_X5_comparingCodes_231  s0 V = some Vr) : sv_N g qX5_comparingCodes 2 231 [(0, .ref 69)] [.int s0] V P := by
  unfold B_X5_comparingCodes_231 at h
  refine sx_istore (pc := 231) (lo' := [(4, .int s0), (0, .ref 69)]) dX5_comparingCodes_231 (by decide) rfl ?_
  refine sx_goto (pc := 233) (tgt := 283) dX5_comparingCodes_233 (by decide) ?_
  refine sx_wk (sx_s1 sx_m1 (sx_s1 sx_m0 sx_s0)) ?_
  exact tB_X5_comparingCodes_283 hG hP  h
def B_X5_comparingCodes_249  (s0 : Int32) (V : sv_V) : Option sv_V := B_X5_comparingCodes_283  s0 V
set_option maxRecDepth 20000 in
theorem tB_X5_comparingCodes_249 {g : sx_G} (hG : sx_Go g) {P : Option Value → sv_V → Prop} {Vr : sv_V} (hP : P none Vr)   {s0 : Int32} {V : sv_V} (h : B_X5_comparingCodes_249  s0 V = some Vr) : sv_N g qX5_comparingCodes 2 249 [(0, .ref 69)] [.int s0] V P := by
  unfold B_X5_comparingCodes_249 at h
  refine sx_istore (pc := 249) (lo' := [(4, .int s0), (0, .ref 69)]) dX5_comparingCodes_249 (by decide) rfl ?_
  refine sx_goto (pc := 251) (tgt := 283) dX5_comparingCodes_251 (by decide) ?_
  refine sx_wk (sx_s1 sx_m1 (sx_s1 sx_m0 sx_s0)) ?_
  exact tB_X5_comparingCodes_283 hG hP  h
def B_X5_comparingCodes_248   (V : sv_V) : Option sv_V := B_X5_comparingCodes_249  (0 : Int32) V
set_option maxRecDepth 20000 in
theorem tB_X5_comparingCodes_248 {g : sx_G} (hG : sx_Go g) {P : Option Value → sv_V → Prop} {Vr : sv_V} (hP : P none Vr)    {V : sv_V} (h : B_X5_comparingCodes_248   V = some Vr) : sv_N g qX5_comparingCodes 2 248 [(0, .ref 69)] [] V P := by
  unfold B_X5_comparingCodes_248 at h
  refine sx_iconst (pc := 248) (v := 0) dX5_comparingCodes_248 (by decide) ?_
  refine sx_wk (sx_s1 sx_m0 sx_s0) ?_
  exact tB_X5_comparingCodes_249 hG hP  h
def B_X5_comparingCodes_267  (s0 : Int32) (V : sv_V) : Option sv_V := B_X5_comparingCodes_283  s0 V
set_option maxRecDepth 20000 in
theorem tB_X5_comparingCodes_267 {g : sx_G} (hG : sx_Go g) {P : Option Value → sv_V → Prop} {Vr : sv_V} (hP : P none Vr)   {s0 : Int32} {V : sv_V} (h : B_X5_comparingCodes_267  s0 V = some Vr) : sv_N g qX5_comparingCodes 2 267 [(0, .ref 69)] [.int s0] V P := by
  unfold B_X5_comparingCodes_267 at h
  refine sx_istore (pc := 267) (lo' := [(4, .int s0), (0, .ref 69)]) dX5_comparingCodes_267 (by decide) rfl ?_
  refine sx_goto (pc := 269) (tgt := 283) dX5_comparingCodes_269 (by decide) ?_
  refine sx_wk (sx_s1 sx_m1 (sx_s1 sx_m0 sx_s0)) ?_
  exact tB_X5_comparingCodes_283 hG hP  h
def B_X5_comparingCodes_262   (V : sv_V) : Option sv_V := B_X5_comparingCodes_267  (1 : Int32) V
set_option maxRecDepth 20000 in
theorem tB_X5_comparingCodes_262 {g : sx_G} (hG : sx_Go g) {P : Option Value → sv_V → Prop} {Vr : sv_V} (hP : P none Vr)    {V : sv_V} (h : B_X5_comparingCodes_262   V = some Vr) : sv_N g qX5_comparingCodes 2 262 [(0, .ref 69)] [] V P := by
  unfold B_X5_comparingCodes_262 at h
  refine sx_iconst (pc := 262) (v := 1) dX5_comparingCodes_262 (by decide) ?_
  refine sx_goto (pc := 263) (tgt := 267) dX5_comparingCodes_263 (by decide) ?_
  refine sx_wk (sx_s1 sx_m0 sx_s0) ?_
  exact tB_X5_comparingCodes_267 hG hP  h
def B_X5_comparingCodes_281  (s0 : Int32) (V : sv_V) : Option sv_V := B_X5_comparingCodes_283  s0 V
set_option maxRecDepth 20000 in
theorem tB_X5_comparingCodes_281 {g : sx_G} (hG : sx_Go g) {P : Option Value → sv_V → Prop} {Vr : sv_V} (hP : P none Vr)   {s0 : Int32} {V : sv_V} (h : B_X5_comparingCodes_281  s0 V = some Vr) : sv_N g qX5_comparingCodes 2 281 [(0, .ref 69)] [.int s0] V P := by
  unfold B_X5_comparingCodes_281 at h
  refine sx_istore (pc := 281) (lo' := [(4, .int s0), (0, .ref 69)]) dX5_comparingCodes_281 (by decide) rfl ?_
  refine sx_wk (sx_s1 sx_m1 (sx_s1 sx_m0 sx_s0)) ?_
  exact tB_X5_comparingCodes_283 hG hP  h
def B_X5_comparingCodes_272  (l2 : Int32) (V : sv_V) : Option sv_V := if l2 = 0 then (B_X5_comparingCodes_281  (1 : Int32) V) else (B_X5_comparingCodes_281  (0 : Int32) V)
set_option maxRecDepth 20000 in
theorem tB_X5_comparingCodes_272 {g : sx_G} (hG : sx_Go g) {P : Option Value → sv_V → Prop} {Vr : sv_V} (hP : P none Vr)   {l2 : Int32} {V : sv_V} (h : B_X5_comparingCodes_272  l2 V = some Vr) : sv_N g qX5_comparingCodes 2 272 [(0, .ref 69), (2, .int l2)] [] V P := by
  unfold B_X5_comparingCodes_272 at h
  refine sx_iload_n (pc := 272) dX5_comparingCodes_272 sx_m1 ?_
  refine sx_if_ne (pc := 273) (tgt := 280) dX5_comparingCodes_273 (by decide) (fun c4 => ?_) (fun c4 => ?_)
  · have h := sx_neg c4 h
    refine sx_iconst (pc := 280) (v := 0) dX5_comparingCodes_280 (by decide) ?_
    refine sx_wk (sx_s1 sx_m0 sx_s0) ?_
    exact tB_X5_comparingCodes_281 hG hP  h
  · have h := sx_pos c4 h
    refine sx_iconst (pc := 276) (v := 1) dX5_comparingCodes_276 (by decide) ?_
    refine sx_goto (pc := 277) (tgt := 281) dX5_comparingCodes_277 (by decide) ?_
    refine sx_wk (sx_s1 sx_m0 sx_s0) ?_
    exact tB_X5_comparingCodes_281 hG hP  h
def B_X5_comparingCodes_22  (l1 : Int32) (l2 : Int32) (s0 : Int32) (V : sv_V) : Option sv_V := if l1 = 80 then (if l2 ≤ s0 then (B_X5_comparingCodes_98  (0 : Int32) V) else (B_X5_comparingCodes_98  (1 : Int32) V)) else (if l1 = 81 then (if l2 < s0 then (B_X5_comparingCodes_113  (0 : Int32) V) else (B_X5_comparingCodes_113  (1 : Int32) V)) else (if l1 = 82 then (if s0 ≤ l2 then (B_X5_comparingCodes_128  (0 : Int32) V) else (B_X5_comparingCodes_128  (1 : Int32) V)) else (if l1 = 83 then (if s0 < l2 then (B_X5_comparingCodes_143  (0 : Int32) V) else (B_X5_comparingCodes_143  (1 : Int32) V)) else (if l1 = 84 then (if s0 = l2 then (B_X5_comparingCodes_158  (1 : Int32) V) else (B_X5_comparingCodes_158  (0 : Int32) V)) else (if l1 = 85 then (if s0 = l2 then (B_X5_comparingCodes_173  (0 : Int32) V) else (B_X5_comparingCodes_173  (1 : Int32) V)) else (if l1 = 86 then ((F_X9_rounded l2.toInt64 V).bind (fun (x20, V18) => if (lg_cmp (x20 &&& (127 : Int64)) (64 : Int64)) = 0 then (B_X5_comparingCodes_203  (1 : Int32) V18) else (B_X5_comparingCodes_203  (0 : Int32) V18))) else (if l1 = 87 then ((F_X9_rounded l2.toInt64 V).bind (fun (x25, V23) => if (lg_cmp (x25 &&& (127 : Int64)) (0 : Int64)) = 0 then (B_X5_comparingCodes_231  (1 : Int32) V23) else (B_X5_comparingCodes_231  (0 : Int32) V23))) else (if l1 = 88 then (B_X5_comparingCodes_272  l2 V) else (if l1 = 89 then (B_X5_comparingCodes_272  l2 V) else (if l1 = 90 then (if s0 = 0 then (B_X5_comparingCodes_248   V) else (if l2 = 0 then (B_X5_comparingCodes_248   V) else (B_X5_comparingCodes_249  (1 : Int32) V))) else (if l1 = 91 then (if s0 = 0 then (if l2 = 0 then (B_X5_comparingCodes_267  (0 : Int32) V) else (B_X5_comparingCodes_262   V)) else (B_X5_comparingCodes_262   V)) else (B_X5_comparingCodes_272  l2 V))))))))))))
set_option maxRecDepth 20000 in
theorem tB_X5_comparingCodes_22 {g : sx_G} (hG : sx_Go g) {P : Option Value → sv_V → Prop} {Vr : sv_V} (hP : P none Vr)   {l1 : Int32} {l2 : Int32} {s0 : Int32} {V : sv_V} (h : B_X5_comparingCodes_22  l1 l2 s0 V = some Vr) : sv_N g qX5_comparingCodes 2 22 [(0, .ref 69), (1, .int l1), (2, .int l2)] [.int s0] V P := by
  unfold B_X5_comparingCodes_22 at h
  refine sx_istore_n (pc := 22) (lo' := [(3, .int s0), (0, .ref 69), (1, .int l1), (2, .int l2)]) dX5_comparingCodes_22 (by decide) rfl ?_
  refine sx_iload_n (pc := 23) dX5_comparingCodes_23 sx_m2 ?_
  by_cases c5 : l1 = 80
  · have h := sx_pos c5 h
    refine sx_tabI (pc := 24) (off := 64) (tgt := 88) dX5_comparingCodes_24 (by rw [c5]; decide) (by rw [c5]; decide) (by rw [c5]; rfl) (by decide) ?_
    refine sx_iload_n (pc := 88) dX5_comparingCodes_88 sx_m0 ?_
    refine sx_iload_n (pc := 89) dX5_comparingCodes_89 sx_m3 ?_
    refine sx_icmp_ge (pc := 90) (tgt := 97) dX5_comparingCodes_90 (by decide) (fun c6 => ?_) (fun c6 => ?_)
    · have h := sx_pos c6 h
      refine sx_iconst (pc := 97) (v := 0) dX5_comparingCodes_97 (by decide) ?_
      refine sx_wk (sx_s1 sx_m1 sx_s0) ?_
      exact tB_X5_comparingCodes_98 hG hP  h
    · have h := sx_neg c6 h
      refine sx_iconst (pc := 93) (v := 1) dX5_comparingCodes_93 (by decide) ?_
      refine sx_goto (pc := 94) (tgt := 98) dX5_comparingCodes_94 (by decide) ?_
      refine sx_wk (sx_s1 sx_m1 sx_s0) ?_
      exact tB_X5_comparingCodes_98 hG hP  h
  have h := sx_neg c5 h
  by_cases c7 : l1 = 81
  · have h := sx_pos c7 h
    refine sx_tabI (pc := 24) (off := 79) (tgt := 103) dX5_comparingCodes_24 (by rw [c7]; decide) (by rw [c7]; decide) (by rw [c7]; rfl) (by decide) ?_
    refine sx_iload_n (pc := 103) dX5_comparingCodes_103 sx_m0 ?_
    refine sx_iload_n (pc := 104) dX5_comparingCodes_104 sx_m3 ?_
    refine sx_icmp_gt (pc := 105) (tgt := 112) dX5_comparingCodes_105 (by decide) (fun c8 => ?_) (fun c8 => ?_)
    · have h := sx_pos c8 h
      refine sx_iconst (pc := 112) (v := 0) dX5_comparingCodes_112 (by decide) ?_
      refine sx_wk (sx_s1 sx_m1 sx_s0) ?_
      exact tB_X5_comparingCodes_113 hG hP  h
    · have h := sx_neg c8 h
      refine sx_iconst (pc := 108) (v := 1) dX5_comparingCodes_108 (by decide) ?_
      refine sx_goto (pc := 109) (tgt := 113) dX5_comparingCodes_109 (by decide) ?_
      refine sx_wk (sx_s1 sx_m1 sx_s0) ?_
      exact tB_X5_comparingCodes_113 hG hP  h
  have h := sx_neg c7 h
  by_cases c9 : l1 = 82
  · have h := sx_pos c9 h
    refine sx_tabI (pc := 24) (off := 94) (tgt := 118) dX5_comparingCodes_24 (by rw [c9]; decide) (by rw [c9]; decide) (by rw [c9]; rfl) (by decide) ?_
    refine sx_iload_n (pc := 118) dX5_comparingCodes_118 sx_m0 ?_
    refine sx_iload_n (pc := 119) dX5_comparingCodes_119 sx_m3 ?_
    refine sx_icmp_le (pc := 120) (tgt := 127) dX5_comparingCodes_120 (by decide) (fun c10 => ?_) (fun c10 => ?_)
    · have h := sx_pos c10 h
      refine sx_iconst (pc := 127) (v := 0) dX5_comparingCodes_127 (by decide) ?_
      refine sx_wk (sx_s1 sx_m1 sx_s0) ?_
      exact tB_X5_comparingCodes_128 hG hP  h
    · have h := sx_neg c10 h
      refine sx_iconst (pc := 123) (v := 1) dX5_comparingCodes_123 (by decide) ?_
      refine sx_goto (pc := 124) (tgt := 128) dX5_comparingCodes_124 (by decide) ?_
      refine sx_wk (sx_s1 sx_m1 sx_s0) ?_
      exact tB_X5_comparingCodes_128 hG hP  h
  have h := sx_neg c9 h
  by_cases c11 : l1 = 83
  · have h := sx_pos c11 h
    refine sx_tabI (pc := 24) (off := 109) (tgt := 133) dX5_comparingCodes_24 (by rw [c11]; decide) (by rw [c11]; decide) (by rw [c11]; rfl) (by decide) ?_
    refine sx_iload_n (pc := 133) dX5_comparingCodes_133 sx_m0 ?_
    refine sx_iload_n (pc := 134) dX5_comparingCodes_134 sx_m3 ?_
    refine sx_icmp_lt (pc := 135) (tgt := 142) dX5_comparingCodes_135 (by decide) (fun c12 => ?_) (fun c12 => ?_)
    · have h := sx_pos c12 h
      refine sx_iconst (pc := 142) (v := 0) dX5_comparingCodes_142 (by decide) ?_
      refine sx_wk (sx_s1 sx_m1 sx_s0) ?_
      exact tB_X5_comparingCodes_143 hG hP  h
    · have h := sx_neg c12 h
      refine sx_iconst (pc := 138) (v := 1) dX5_comparingCodes_138 (by decide) ?_
      refine sx_goto (pc := 139) (tgt := 143) dX5_comparingCodes_139 (by decide) ?_
      refine sx_wk (sx_s1 sx_m1 sx_s0) ?_
      exact tB_X5_comparingCodes_143 hG hP  h
  have h := sx_neg c11 h
  by_cases c13 : l1 = 84
  · have h := sx_pos c13 h
    refine sx_tabI (pc := 24) (off := 124) (tgt := 148) dX5_comparingCodes_24 (by rw [c13]; decide) (by rw [c13]; decide) (by rw [c13]; rfl) (by decide) ?_
    refine sx_iload_n (pc := 148) dX5_comparingCodes_148 sx_m0 ?_
    refine sx_iload_n (pc := 149) dX5_comparingCodes_149 sx_m3 ?_
    refine sx_icmp_ne (pc := 150) (tgt := 157) dX5_comparingCodes_150 (by decide) (fun c14 => ?_) (fun c14 => ?_)
    · have h := sx_neg c14 h
      refine sx_iconst (pc := 157) (v := 0) dX5_comparingCodes_157 (by decide) ?_
      refine sx_wk (sx_s1 sx_m1 sx_s0) ?_
      exact tB_X5_comparingCodes_158 hG hP  h
    · have h := sx_pos c14 h
      refine sx_iconst (pc := 153) (v := 1) dX5_comparingCodes_153 (by decide) ?_
      refine sx_goto (pc := 154) (tgt := 158) dX5_comparingCodes_154 (by decide) ?_
      refine sx_wk (sx_s1 sx_m1 sx_s0) ?_
      exact tB_X5_comparingCodes_158 hG hP  h
  have h := sx_neg c13 h
  by_cases c15 : l1 = 85
  · have h := sx_pos c15 h
    refine sx_tabI (pc := 24) (off := 139) (tgt := 163) dX5_comparingCodes_24 (by rw [c15]; decide) (by rw [c15]; decide) (by rw [c15]; rfl) (by decide) ?_
    refine sx_iload_n (pc := 163) dX5_comparingCodes_163 sx_m0 ?_
    refine sx_iload_n (pc := 164) dX5_comparingCodes_164 sx_m3 ?_
    refine sx_icmp_eq (pc := 165) (tgt := 172) dX5_comparingCodes_165 (by decide) (fun c16 => ?_) (fun c16 => ?_)
    · have h := sx_pos c16 h
      refine sx_iconst (pc := 172) (v := 0) dX5_comparingCodes_172 (by decide) ?_
      refine sx_wk (sx_s1 sx_m1 sx_s0) ?_
      exact tB_X5_comparingCodes_173 hG hP  h
    · have h := sx_neg c16 h
      refine sx_iconst (pc := 168) (v := 1) dX5_comparingCodes_168 (by decide) ?_
      refine sx_goto (pc := 169) (tgt := 173) dX5_comparingCodes_169 (by decide) ?_
      refine sx_wk (sx_s1 sx_m1 sx_s0) ?_
      exact tB_X5_comparingCodes_173 hG hP  h
  have h := sx_neg c15 h
  by_cases c17 : l1 = 86
  · have h := sx_pos c17 h
    refine sx_tabI (pc := 24) (off := 154) (tgt := 178) dX5_comparingCodes_24 (by rw [c17]; decide) (by rw [c17]; decide) (by rw [c17]; rfl) (by decide) ?_
    refine sx_aload_n (pc := 178) dX5_comparingCodes_178 sx_m1 ?_
    refine sv_getO (pc := 179) hG dX5_comparingCodes_179 f_5_12 lay_69 rfl cr_69_1 ?_
    refine sx_iload_n (pc := 182) dX5_comparingCodes_182 sx_m3 ?_
    refine sx_i2l (pc := 183) dX5_comparingCodes_183 ?_
    obtain ⟨⟨x20, V18⟩, g19, h⟩ := sx_bnd h
    refine sv_cV (pc := 184) (y := qX9_rounded) (o := (some (.long x20))) (as := [.long l2.toInt64]) (V1 := V18) hG dX5_comparingCodes_184 l_X5_414 y0X9_rounded yvX9_rounded rfl (Nat.le_of_ble_eq_true rfl) lay_70 kr_9 (by decide) (Nat.le_of_ble_eq_true rfl) rfl rfl rfl (t_X9_rounded hG ⟨rfl, rfl⟩ g19) ?_
    refine sx_ldc2 (pc := 187) dX5_comparingCodes_187 k_X5_417 ?_
    refine sx_land (pc := 190) dX5_comparingCodes_190 ?_
    refine sx_ldc2 (pc := 191) dX5_comparingCodes_191 k_X5_68 ?_
    refine sx_lcmp (pc := 194) dX5_comparingCodes_194 ?_
    refine sx_if_ne (pc := 195) (tgt := 202) dX5_comparingCodes_195 (by decide) (fun c21 => ?_) (fun c21 => ?_)
    · have h := sx_neg c21 h
      refine sx_iconst (pc := 202) (v := 0) dX5_comparingCodes_202 (by decide) ?_
      refine sx_wk (sx_s1 sx_m1 sx_s0) ?_
      exact tB_X5_comparingCodes_203 hG hP  h
    · have h := sx_pos c21 h
      refine sx_iconst (pc := 198) (v := 1) dX5_comparingCodes_198 (by decide) ?_
      refine sx_goto (pc := 199) (tgt := 203) dX5_comparingCodes_199 (by decide) ?_
      refine sx_wk (sx_s1 sx_m1 sx_s0) ?_
      exact tB_X5_comparingCodes_203 hG hP  h
  have h := sx_neg c17 h
  by_cases c22 : l1 = 87
  · have h := sx_pos c22 h
    refine sx_tabI (pc := 24) (off := 184) (tgt := 208) dX5_comparingCodes_24 (by rw [c22]; decide) (by rw [c22]; decide) (by rw [c22]; rfl) (by decide) ?_
    refine sx_aload_n (pc := 208) dX5_comparingCodes_208 sx_m1 ?_
    refine sv_getO (pc := 209) hG dX5_comparingCodes_209 f_5_12 lay_69 rfl cr_69_1 ?_
    refine sx_iload_n (pc := 212) dX5_comparingCodes_212 sx_m3 ?_
    refine sx_i2l (pc := 213) dX5_comparingCodes_213 ?_
    obtain ⟨⟨x25, V23⟩, g24, h⟩ := sx_bnd h
    refine sv_cV (pc := 214) (y := qX9_rounded) (o := (some (.long x25))) (as := [.long l2.toInt64]) (V1 := V23) hG dX5_comparingCodes_214 l_X5_414 y0X9_rounded yvX9_rounded rfl (Nat.le_of_ble_eq_true rfl) lay_70 kr_9 (by decide) (Nat.le_of_ble_eq_true rfl) rfl rfl rfl (t_X9_rounded hG ⟨rfl, rfl⟩ g24) ?_
    refine sx_ldc2 (pc := 217) dX5_comparingCodes_217 k_X5_417 ?_
    refine sx_land (pc := 220) dX5_comparingCodes_220 ?_
    refine sx_lconst (pc := 221) (v := 0) dX5_comparingCodes_221 rfl ?_
    refine sx_lcmp (pc := 222) dX5_comparingCodes_222 ?_
    refine sx_if_ne (pc := 223) (tgt := 230) dX5_comparingCodes_223 (by decide) (fun c26 => ?_) (fun c26 => ?_)
    · have h := sx_neg c26 h
      refine sx_iconst (pc := 230) (v := 0) dX5_comparingCodes_230 (by decide) ?_
      refine sx_wk (sx_s1 sx_m1 sx_s0) ?_
      exact tB_X5_comparingCodes_231 hG hP  h
    · have h := sx_pos c26 h
      refine sx_iconst (pc := 226) (v := 1) dX5_comparingCodes_226 (by decide) ?_
      refine sx_goto (pc := 227) (tgt := 231) dX5_comparingCodes_227 (by decide) ?_
      refine sx_wk (sx_s1 sx_m1 sx_s0) ?_
      exact tB_X5_comparingCodes_231 hG hP  h
  have h := sx_neg c22 h
  by_cases c27 : l1 = 88
  · have h := sx_pos c27 h
    refine sx_tabI (pc := 24) (off := 248) (tgt := 272) dX5_comparingCodes_24 (by rw [c27]; decide) (by rw [c27]; decide) (by rw [c27]; rfl) (by decide) ?_
    refine sx_wk (sx_s1 sx_m1 (sx_s1 sx_m3 sx_s0)) ?_
    exact tB_X5_comparingCodes_272 hG hP  h
  have h := sx_neg c27 h
  by_cases c28 : l1 = 89
  · have h := sx_pos c28 h
    refine sx_tabI (pc := 24) (off := 248) (tgt := 272) dX5_comparingCodes_24 (by rw [c28]; decide) (by rw [c28]; decide) (by rw [c28]; rfl) (by decide) ?_
    refine sx_wk (sx_s1 sx_m1 (sx_s1 sx_m3 sx_s0)) ?_
    exact tB_X5_comparingCodes_272 hG hP  h
  have h := sx_neg c28 h
  by_cases c29 : l1 = 90
  · have h := sx_pos c29 h
    refine sx_tabI (pc := 24) (off := 212) (tgt := 236) dX5_comparingCodes_24 (by rw [c29]; decide) (by rw [c29]; decide) (by rw [c29]; rfl) (by decide) ?_
    refine sx_iload_n (pc := 236) dX5_comparingCodes_236 sx_m0 ?_
    refine sx_if_eq (pc := 237) (tgt := 248) dX5_comparingCodes_237 (by decide) (fun c30 => ?_) (fun c30 => ?_)
    · have h := sx_pos c30 h
      refine sx_wk (sx_s1 sx_m1 sx_s0) ?_
      exact tB_X5_comparingCodes_248 hG hP  h
    · have h := sx_neg c30 h
      refine sx_iload_n (pc := 240) dX5_comparingCodes_240 sx_m3 ?_
      refine sx_if_eq (pc := 241) (tgt := 248) dX5_comparingCodes_241 (by decide) (fun c31 => ?_) (fun c31 => ?_)
      · have h := sx_pos c31 h
        refine sx_wk (sx_s1 sx_m1 sx_s0) ?_
        exact tB_X5_comparingCodes_248 hG hP  h
      · have h := sx_neg c31 h
        refine sx_iconst (pc := 244) (v := 1) dX5_comparingCodes_244 (by decide) ?_
        refine sx_goto (pc := 245) (tgt := 249) dX5_comparingCodes_245 (by decide) ?_
        refine sx_wk (sx_s1 sx_m1 sx_s0) ?_
        exact tB_X5_comparingCodes_249 hG hP  h
  have h := sx_neg c29 h
  by_cases c32 : l1 = 91
  · have h := sx_pos c32 h
    refine sx_tabI (pc := 24) (off := 230) (tgt := 254) dX5_comparingCodes_24 (by rw [c32]; decide) (by rw [c32]; decide) (by rw [c32]; rfl) (by decide) ?_
    refine sx_iload_n (pc := 254) dX5_comparingCodes_254 sx_m0 ?_
    refine sx_if_ne (pc := 255) (tgt := 262) dX5_comparingCodes_255 (by decide) (fun c33 => ?_) (fun c33 => ?_)
    · have h := sx_neg c33 h
      refine sx_wk (sx_s1 sx_m1 sx_s0) ?_
      exact tB_X5_comparingCodes_262 hG hP  h
    · have h := sx_pos c33 h
      refine sx_iload_n (pc := 258) dX5_comparingCodes_258 sx_m3 ?_
      refine sx_if_eq (pc := 259) (tgt := 266) dX5_comparingCodes_259 (by decide) (fun c34 => ?_) (fun c34 => ?_)
      · have h := sx_pos c34 h
        refine sx_iconst (pc := 266) (v := 0) dX5_comparingCodes_266 (by decide) ?_
        refine sx_wk (sx_s1 sx_m1 sx_s0) ?_
        exact tB_X5_comparingCodes_267 hG hP  h
      · have h := sx_neg c34 h
        refine sx_wk (sx_s1 sx_m1 sx_s0) ?_
        exact tB_X5_comparingCodes_262 hG hP  h
  have h := sx_neg c32 h
  refine sx_tabO (pc := 24) (tgt := 272) dX5_comparingCodes_24 (by have ec5 := lv_neT (a := 80) c5 rfl; have ec7 := lv_neT (a := 81) c7 rfl; have ec9 := lv_neT (a := 82) c9 rfl; have ec11 := lv_neT (a := 83) c11 rfl; have ec13 := lv_neT (a := 84) c13 rfl; have ec15 := lv_neT (a := 85) c15 rfl; have ec17 := lv_neT (a := 86) c17 rfl; have ec22 := lv_neT (a := 87) c22 rfl; have ec27 := lv_neT (a := 88) c27 rfl; have ec28 := lv_neT (a := 89) c28 rfl; have ec29 := lv_neT (a := 90) c29 rfl; have ec32 := lv_neT (a := 91) c32 rfl; omega) (by decide) ?_
  refine sx_wk (sx_s1 sx_m1 (sx_s1 sx_m3 sx_s0)) ?_
  exact tB_X5_comparingCodes_272 hG hP  h
def F_X5_comparingCodes (l1 : Int32) (V : sv_V) : Option sv_V := (F_X5_pop  V).bind (fun (x37, V35) => if sx_in l1 256 = true then if (V35.1 1006 l1.toNatClampNeg) = (2 : Int32) then ((F_X5_pop  V35).bind (fun (x42, V40) => B_X5_comparingCodes_22  l1 x37 x42 V40)) else (B_X5_comparingCodes_22  l1 x37 (0 : Int32) V35) else none)
set_option maxRecDepth 20000 in
theorem t_X5_comparingCodes {g : sx_G} (hG : sx_Go g) {P : Option Value → sv_V → Prop} {Vr : sv_V} (hP : P none Vr) {l1 : Int32} {V : sv_V} (h : F_X5_comparingCodes l1 V = some Vr) : sv_N g qX5_comparingCodes 2 0 [(0, .ref 69), (1, .int l1)] [] V P := by
  unfold F_X5_comparingCodes at h
  refine sx_aload_n (pc := 0) dX5_comparingCodes_0 sx_m0 ?_
  obtain ⟨⟨x37, V35⟩, g36, h⟩ := sx_bnd h
  refine sv_cV (pc := 1) (y := qX5_pop) (o := (some (.int x37))) (as := []) (V1 := V35) hG dX5_comparingCodes_1 l_X5_242 y0X5_pop yvX5_pop rfl (Nat.le_of_ble_eq_true rfl) lay_69 kr_5 (by decide) (Nat.le_of_ble_eq_true rfl) rfl rfl rfl (t_X5_pop hG ⟨rfl, rfl⟩ g36) ?_
  refine sx_istore_n (pc := 4) (lo' := [(2, .int x37), (0, .ref 69), (1, .int l1)]) dX5_comparingCodes_4 (by decide) rfl ?_
  refine sv_getS (pc := 5) (j := 5) dX5_comparingCodes_5 rfl n_X5_160 ?_
  refine sx_iload_n (pc := 8) dX5_comparingCodes_8 sx_m2 ?_
  obtain ⟨g38, h⟩ := sx_grd h
  refine sv_xld (pc := 9) hG dX5_comparingCodes_9 lay_1006 g38 ?_
  refine sx_iconst (pc := 10) (v := 2) dX5_comparingCodes_10 (by decide) ?_
  refine sx_icmp_ne (pc := 11) (tgt := 21) dX5_comparingCodes_11 (by decide) (fun c39 => ?_) (fun c39 => ?_)
  · have h := sx_neg c39 h
    refine sx_iconst (pc := 21) (v := 0) dX5_comparingCodes_21 (by decide) ?_
    refine sx_wk (sx_s1 sx_m1 (sx_s1 sx_m2 (sx_s1 sx_m0 sx_s0))) ?_
    exact tB_X5_comparingCodes_22 hG hP  h
  · have h := sx_pos c39 h
    refine sx_aload_n (pc := 14) dX5_comparingCodes_14 sx_m1 ?_
    obtain ⟨⟨x42, V40⟩, g41, h⟩ := sx_bnd h
    refine sv_cV (pc := 15) (y := qX5_pop) (o := (some (.int x42))) (as := []) (V1 := V40) hG dX5_comparingCodes_15 l_X5_242 y0X5_pop yvX5_pop rfl (Nat.le_of_ble_eq_true rfl) lay_69 kr_5 (by decide) (Nat.le_of_ble_eq_true rfl) rfl rfl rfl (t_X5_pop hG ⟨rfl, rfl⟩ g41) ?_
    refine sx_goto (pc := 18) (tgt := 22) dX5_comparingCodes_18 (by decide) ?_
    refine sx_wk (sx_s1 sx_m1 (sx_s1 sx_m2 (sx_s1 sx_m0 sx_s0))) ?_
    exact tB_X5_comparingCodes_22 hG hP  h
def ncX5_reckoningCodes : Nat := 14343599636925752758186266605002498283140726935247315137106523144862259661465715936381231918405297529286704365035311311092753752490794919816618779909210043421974518405684613064026677870429681042541469471689098573175283557634019498135297292774507547698850127501463584423748900354955858380982353063840990619913670682507262922698919388938778231890226734477628888164363118163198513503224941769191930507306753413965593794716445377909299904355492647597199809406308093724965458173192776152533744804368889155797688412806726954224769026481025497891911828915071651923669864759394502675776120499481937168106380026162256238645773204413447840769417692729786823731587827368270901229240363137957696887258326334538033930789269079394084201276481886748039741160652310001158356399816876271709396576041385660059515076325803083235328512744895233687495835395496568989452040575743137438452106798027608958041845750335263531576567313962
theorem kcX5_reckoningCodes : CK cX5_reckoningCodes ncX5_reckoningCodes 378 := ⟨by decide +kernel, by decide +kernel⟩
theorem dX5_reckoningCodes_0 : decode cX5_reckoningCodes 0 = .ok (.aload_n 0, 1) := dl_o42 kcX5_reckoningCodes (by decide +kernel)
theorem dX5_reckoningCodes_1 : decode cX5_reckoningCodes 1 = .ok (.invokevirtual 242, 3) := dl_o182 kcX5_reckoningCodes (by decide +kernel)
theorem dX5_reckoningCodes_4 : decode cX5_reckoningCodes 4 = .ok (.i2l, 1) := dl_o133 kcX5_reckoningCodes (by decide +kernel)
theorem dX5_reckoningCodes_5 : decode cX5_reckoningCodes 5 = .ok (.lstore_n 2, 1) := dl_o65 kcX5_reckoningCodes (by decide +kernel)
theorem dX5_reckoningCodes_6 : decode cX5_reckoningCodes 6 = .ok (.getstatic 160, 3) := dl_o178 kcX5_reckoningCodes (by decide +kernel)
theorem dX5_reckoningCodes_9 : decode cX5_reckoningCodes 9 = .ok (.iload_n 1, 1) := dl_o27 kcX5_reckoningCodes (by decide +kernel)
theorem dX5_reckoningCodes_10 : decode cX5_reckoningCodes 10 = .ok (.iaload, 1) := dl_o46 kcX5_reckoningCodes (by decide +kernel)
theorem dX5_reckoningCodes_11 : decode cX5_reckoningCodes 11 = .ok (.iconst 2, 1) := dl_o5 kcX5_reckoningCodes (by decide +kernel)
theorem dX5_reckoningCodes_12 : decode cX5_reckoningCodes 12 = .ok (.if_icmp .ne 11, 3) := dl_o160 kcX5_reckoningCodes 11 (by decide +kernel) (by decide +kernel)
theorem dX5_reckoningCodes_15 : decode cX5_reckoningCodes 15 = .ok (.aload_n 0, 1) := dl_o42 kcX5_reckoningCodes (by decide +kernel)
theorem dX5_reckoningCodes_16 : decode cX5_reckoningCodes 16 = .ok (.invokevirtual 242, 3) := dl_o182 kcX5_reckoningCodes (by decide +kernel)
theorem dX5_reckoningCodes_19 : decode cX5_reckoningCodes 19 = .ok (.i2l, 1) := dl_o133 kcX5_reckoningCodes (by decide +kernel)
theorem dX5_reckoningCodes_20 : decode cX5_reckoningCodes 20 = .ok (.goto 4, 3) := dl_o167 kcX5_reckoningCodes 4 (by decide +kernel) (by decide +kernel)
theorem dX5_reckoningCodes_23 : decode cX5_reckoningCodes 23 = .ok (.lconst 0, 1) := dl_o9 kcX5_reckoningCodes (by decide +kernel)
theorem dX5_reckoningCodes_24 : decode cX5_reckoningCodes 24 = .ok (.lstore 4, 2) := dl_o55 kcX5_reckoningCodes (by decide +kernel)
theorem dX5_reckoningCodes_26 : decode cX5_reckoningCodes 26 = .ok (.iload_n 1, 1) := dl_o27 kcX5_reckoningCodes (by decide +kernel)
theorem dX5_reckoningCodes_27 : decode cX5_reckoningCodes 27 = .ok (.tableswitch 345 96 140 #[193, 202, 211, 237, 252, 269, 276, 292, 310, 310, 310, 310, 345, 345, 345, 345, 345, 345, 345, 345, 345, 345, 345, 345, 345, 345, 345, 345, 345, 345, 345, 345, 345, 345, 345, 345, 345, 345, 345, 345, 345, 345, 345, 323, 334], 193) := by decide +kernel
theorem dX5_reckoningCodes_220 : decode cX5_reckoningCodes 220 = .ok (.aload_n 0, 1) := dl_o42 kcX5_reckoningCodes (by decide +kernel)
theorem dX5_reckoningCodes_221 : decode cX5_reckoningCodes 221 = .ok (.lload 4, 2) := dl_o22 kcX5_reckoningCodes (by decide +kernel)
theorem dX5_reckoningCodes_223 : decode cX5_reckoningCodes 223 = .ok (.lload_n 2, 1) := dl_o32 kcX5_reckoningCodes (by decide +kernel)
theorem dX5_reckoningCodes_224 : decode cX5_reckoningCodes 224 = .ok (.ladd, 1) := dl_o97 kcX5_reckoningCodes (by decide +kernel)
theorem dX5_reckoningCodes_225 : decode cX5_reckoningCodes 225 = .ok (.invokevirtual 232, 3) := dl_o182 kcX5_reckoningCodes (by decide +kernel)
theorem dX5_reckoningCodes_228 : decode cX5_reckoningCodes 228 = .ok (.return_, 1) := dl_o177 kcX5_reckoningCodes (by decide +kernel)
theorem dX5_reckoningCodes_229 : decode cX5_reckoningCodes 229 = .ok (.aload_n 0, 1) := dl_o42 kcX5_reckoningCodes (by decide +kernel)
theorem dX5_reckoningCodes_230 : decode cX5_reckoningCodes 230 = .ok (.lload 4, 2) := dl_o22 kcX5_reckoningCodes (by decide +kernel)
theorem dX5_reckoningCodes_232 : decode cX5_reckoningCodes 232 = .ok (.lload_n 2, 1) := dl_o32 kcX5_reckoningCodes (by decide +kernel)
theorem dX5_reckoningCodes_233 : decode cX5_reckoningCodes 233 = .ok (.lsub, 1) := dl_o101 kcX5_reckoningCodes (by decide +kernel)
theorem dX5_reckoningCodes_234 : decode cX5_reckoningCodes 234 = .ok (.invokevirtual 232, 3) := dl_o182 kcX5_reckoningCodes (by decide +kernel)
theorem dX5_reckoningCodes_237 : decode cX5_reckoningCodes 237 = .ok (.return_, 1) := dl_o177 kcX5_reckoningCodes (by decide +kernel)
theorem dX5_reckoningCodes_238 : decode cX5_reckoningCodes 238 = .ok (.lload_n 2, 1) := dl_o32 kcX5_reckoningCodes (by decide +kernel)
theorem dX5_reckoningCodes_239 : decode cX5_reckoningCodes 239 = .ok (.lconst 0, 1) := dl_o9 kcX5_reckoningCodes (by decide +kernel)
theorem dX5_reckoningCodes_240 : decode cX5_reckoningCodes 240 = .ok (.lcmp, 1) := dl_o148 kcX5_reckoningCodes (by decide +kernel)
theorem dX5_reckoningCodes_241 : decode cX5_reckoningCodes 241 = .ok (.ifCond .ne 10, 3) := dl_o154 kcX5_reckoningCodes 10 (by decide +kernel) (by decide +kernel)
theorem dX5_reckoningCodes_244 : decode cX5_reckoningCodes 244 = .ok (.aload_n 0, 1) := dl_o42 kcX5_reckoningCodes (by decide +kernel)
theorem dX5_reckoningCodes_245 : decode cX5_reckoningCodes 245 = .ok (.bipush 7, 2) := dl_o16 kcX5_reckoningCodes 7 (by decide +kernel) (by decide +kernel)
theorem dX5_reckoningCodes_247 : decode cX5_reckoningCodes 247 = .ok (.putfield 56, 3) := dl_o181 kcX5_reckoningCodes (by decide +kernel)
theorem dX5_reckoningCodes_250 : decode cX5_reckoningCodes 250 = .ok (.return_, 1) := dl_o177 kcX5_reckoningCodes (by decide +kernel)
theorem dX5_reckoningCodes_251 : decode cX5_reckoningCodes 251 = .ok (.aload_n 0, 1) := dl_o42 kcX5_reckoningCodes (by decide +kernel)
theorem dX5_reckoningCodes_252 : decode cX5_reckoningCodes 252 = .ok (.lload 4, 2) := dl_o22 kcX5_reckoningCodes (by decide +kernel)
theorem dX5_reckoningCodes_254 : decode cX5_reckoningCodes 254 = .ok (.ldc2_w 68, 3) := dl_o20 kcX5_reckoningCodes (by decide +kernel)
theorem dX5_reckoningCodes_257 : decode cX5_reckoningCodes 257 = .ok (.lmul, 1) := dl_o105 kcX5_reckoningCodes (by decide +kernel)
theorem dX5_reckoningCodes_258 : decode cX5_reckoningCodes 258 = .ok (.lload_n 2, 1) := dl_o32 kcX5_reckoningCodes (by decide +kernel)
theorem dX5_reckoningCodes_259 : decode cX5_reckoningCodes 259 = .ok (.ldiv, 1) := dl_o109 kcX5_reckoningCodes (by decide +kernel)
theorem dX5_reckoningCodes_260 : decode cX5_reckoningCodes 260 = .ok (.invokevirtual 232, 3) := dl_o182 kcX5_reckoningCodes (by decide +kernel)
theorem dX5_reckoningCodes_263 : decode cX5_reckoningCodes 263 = .ok (.return_, 1) := dl_o177 kcX5_reckoningCodes (by decide +kernel)
theorem dX5_reckoningCodes_264 : decode cX5_reckoningCodes 264 = .ok (.aload_n 0, 1) := dl_o42 kcX5_reckoningCodes (by decide +kernel)
theorem dX5_reckoningCodes_265 : decode cX5_reckoningCodes 265 = .ok (.lload 4, 2) := dl_o22 kcX5_reckoningCodes (by decide +kernel)
theorem dX5_reckoningCodes_267 : decode cX5_reckoningCodes 267 = .ok (.lload_n 2, 1) := dl_o32 kcX5_reckoningCodes (by decide +kernel)
theorem dX5_reckoningCodes_268 : decode cX5_reckoningCodes 268 = .ok (.lmul, 1) := dl_o105 kcX5_reckoningCodes (by decide +kernel)
theorem dX5_reckoningCodes_269 : decode cX5_reckoningCodes 269 = .ok (.ldc2_w 68, 3) := dl_o20 kcX5_reckoningCodes (by decide +kernel)
theorem dX5_reckoningCodes_272 : decode cX5_reckoningCodes 272 = .ok (.invokestatic 75, 3) := dl_o184 kcX5_reckoningCodes (by decide +kernel)
theorem dX5_reckoningCodes_275 : decode cX5_reckoningCodes 275 = .ok (.invokevirtual 232, 3) := dl_o182 kcX5_reckoningCodes (by decide +kernel)
theorem dX5_reckoningCodes_278 : decode cX5_reckoningCodes 278 = .ok (.return_, 1) := dl_o177 kcX5_reckoningCodes (by decide +kernel)
theorem dX5_reckoningCodes_279 : decode cX5_reckoningCodes 279 = .ok (.aload_n 0, 1) := dl_o42 kcX5_reckoningCodes (by decide +kernel)
theorem dX5_reckoningCodes_280 : decode cX5_reckoningCodes 280 = .ok (.lload_n 2, 1) := dl_o32 kcX5_reckoningCodes (by decide +kernel)
theorem dX5_reckoningCodes_281 : decode cX5_reckoningCodes 281 = .ok (.lconst 0, 1) := dl_o9 kcX5_reckoningCodes (by decide +kernel)
theorem dX5_reckoningCodes_282 : decode cX5_reckoningCodes 282 = .ok (.lcmp, 1) := dl_o148 kcX5_reckoningCodes (by decide +kernel)
theorem dX5_reckoningCodes_283 : decode cX5_reckoningCodes 283 = .ok (.ifCond .ge 8, 3) := dl_o156 kcX5_reckoningCodes 8 (by decide +kernel) (by decide +kernel)
theorem dX5_reckoningCodes_286 : decode cX5_reckoningCodes 286 = .ok (.lload_n 2, 1) := dl_o32 kcX5_reckoningCodes (by decide +kernel)
theorem dX5_reckoningCodes_287 : decode cX5_reckoningCodes 287 = .ok (.lneg, 1) := dl_o117 kcX5_reckoningCodes (by decide +kernel)
theorem dX5_reckoningCodes_288 : decode cX5_reckoningCodes 288 = .ok (.goto 4, 3) := dl_o167 kcX5_reckoningCodes 4 (by decide +kernel) (by decide +kernel)
theorem dX5_reckoningCodes_291 : decode cX5_reckoningCodes 291 = .ok (.lload_n 2, 1) := dl_o32 kcX5_reckoningCodes (by decide +kernel)
theorem dX5_reckoningCodes_292 : decode cX5_reckoningCodes 292 = .ok (.invokevirtual 232, 3) := dl_o182 kcX5_reckoningCodes (by decide +kernel)
theorem dX5_reckoningCodes_295 : decode cX5_reckoningCodes 295 = .ok (.return_, 1) := dl_o177 kcX5_reckoningCodes (by decide +kernel)
theorem dX5_reckoningCodes_296 : decode cX5_reckoningCodes 296 = .ok (.aload_n 0, 1) := dl_o42 kcX5_reckoningCodes (by decide +kernel)
theorem dX5_reckoningCodes_297 : decode cX5_reckoningCodes 297 = .ok (.lload_n 2, 1) := dl_o32 kcX5_reckoningCodes (by decide +kernel)
theorem dX5_reckoningCodes_298 : decode cX5_reckoningCodes 298 = .ok (.lneg, 1) := dl_o117 kcX5_reckoningCodes (by decide +kernel)
theorem dX5_reckoningCodes_299 : decode cX5_reckoningCodes 299 = .ok (.invokevirtual 232, 3) := dl_o182 kcX5_reckoningCodes (by decide +kernel)
theorem dX5_reckoningCodes_302 : decode cX5_reckoningCodes 302 = .ok (.return_, 1) := dl_o177 kcX5_reckoningCodes (by decide +kernel)
theorem dX5_reckoningCodes_303 : decode cX5_reckoningCodes 303 = .ok (.aload_n 0, 1) := dl_o42 kcX5_reckoningCodes (by decide +kernel)
theorem dX5_reckoningCodes_304 : decode cX5_reckoningCodes 304 = .ok (.lload_n 2, 1) := dl_o32 kcX5_reckoningCodes (by decide +kernel)
theorem dX5_reckoningCodes_305 : decode cX5_reckoningCodes 305 = .ok (.ldc2_w 68, 3) := dl_o20 kcX5_reckoningCodes (by decide +kernel)
theorem dX5_reckoningCodes_308 : decode cX5_reckoningCodes 308 = .ok (.invokestatic 419, 3) := dl_o184 kcX5_reckoningCodes (by decide +kernel)
theorem dX5_reckoningCodes_311 : decode cX5_reckoningCodes 311 = .ok (.ldc2_w 68, 3) := dl_o20 kcX5_reckoningCodes (by decide +kernel)
theorem dX5_reckoningCodes_314 : decode cX5_reckoningCodes 314 = .ok (.lmul, 1) := dl_o105 kcX5_reckoningCodes (by decide +kernel)
theorem dX5_reckoningCodes_315 : decode cX5_reckoningCodes 315 = .ok (.invokevirtual 232, 3) := dl_o182 kcX5_reckoningCodes (by decide +kernel)
theorem dX5_reckoningCodes_318 : decode cX5_reckoningCodes 318 = .ok (.return_, 1) := dl_o177 kcX5_reckoningCodes (by decide +kernel)
theorem dX5_reckoningCodes_319 : decode cX5_reckoningCodes 319 = .ok (.aload_n 0, 1) := dl_o42 kcX5_reckoningCodes (by decide +kernel)
theorem dX5_reckoningCodes_320 : decode cX5_reckoningCodes 320 = .ok (.lload_n 2, 1) := dl_o32 kcX5_reckoningCodes (by decide +kernel)
theorem dX5_reckoningCodes_321 : decode cX5_reckoningCodes 321 = .ok (.lneg, 1) := dl_o117 kcX5_reckoningCodes (by decide +kernel)
theorem dX5_reckoningCodes_322 : decode cX5_reckoningCodes 322 = .ok (.ldc2_w 68, 3) := dl_o20 kcX5_reckoningCodes (by decide +kernel)
theorem dX5_reckoningCodes_325 : decode cX5_reckoningCodes 325 = .ok (.invokestatic 419, 3) := dl_o184 kcX5_reckoningCodes (by decide +kernel)
theorem dX5_reckoningCodes_328 : decode cX5_reckoningCodes 328 = .ok (.lneg, 1) := dl_o117 kcX5_reckoningCodes (by decide +kernel)
theorem dX5_reckoningCodes_329 : decode cX5_reckoningCodes 329 = .ok (.ldc2_w 68, 3) := dl_o20 kcX5_reckoningCodes (by decide +kernel)
theorem dX5_reckoningCodes_332 : decode cX5_reckoningCodes 332 = .ok (.lmul, 1) := dl_o105 kcX5_reckoningCodes (by decide +kernel)
theorem dX5_reckoningCodes_333 : decode cX5_reckoningCodes 333 = .ok (.invokevirtual 232, 3) := dl_o182 kcX5_reckoningCodes (by decide +kernel)
theorem dX5_reckoningCodes_336 : decode cX5_reckoningCodes 336 = .ok (.return_, 1) := dl_o177 kcX5_reckoningCodes (by decide +kernel)
theorem dX5_reckoningCodes_337 : decode cX5_reckoningCodes 337 = .ok (.aload_n 0, 1) := dl_o42 kcX5_reckoningCodes (by decide +kernel)
theorem dX5_reckoningCodes_338 : decode cX5_reckoningCodes 338 = .ok (.aload_n 0, 1) := dl_o42 kcX5_reckoningCodes (by decide +kernel)
theorem dX5_reckoningCodes_339 : decode cX5_reckoningCodes 339 = .ok (.getfield 12, 3) := dl_o180 kcX5_reckoningCodes (by decide +kernel)
theorem dX5_reckoningCodes_342 : decode cX5_reckoningCodes 342 = .ok (.lload_n 2, 1) := dl_o32 kcX5_reckoningCodes (by decide +kernel)
theorem dX5_reckoningCodes_343 : decode cX5_reckoningCodes 343 = .ok (.invokevirtual 414, 3) := dl_o182 kcX5_reckoningCodes (by decide +kernel)
theorem dX5_reckoningCodes_346 : decode cX5_reckoningCodes 346 = .ok (.invokevirtual 232, 3) := dl_o182 kcX5_reckoningCodes (by decide +kernel)
theorem dX5_reckoningCodes_349 : decode cX5_reckoningCodes 349 = .ok (.return_, 1) := dl_o177 kcX5_reckoningCodes (by decide +kernel)
theorem dX5_reckoningCodes_350 : decode cX5_reckoningCodes 350 = .ok (.aload_n 0, 1) := dl_o42 kcX5_reckoningCodes (by decide +kernel)
theorem dX5_reckoningCodes_351 : decode cX5_reckoningCodes 351 = .ok (.lload 4, 2) := dl_o22 kcX5_reckoningCodes (by decide +kernel)
theorem dX5_reckoningCodes_353 : decode cX5_reckoningCodes 353 = .ok (.lload_n 2, 1) := dl_o32 kcX5_reckoningCodes (by decide +kernel)
theorem dX5_reckoningCodes_354 : decode cX5_reckoningCodes 354 = .ok (.invokestatic 424, 3) := dl_o184 kcX5_reckoningCodes (by decide +kernel)
theorem dX5_reckoningCodes_357 : decode cX5_reckoningCodes 357 = .ok (.invokevirtual 232, 3) := dl_o182 kcX5_reckoningCodes (by decide +kernel)
theorem dX5_reckoningCodes_360 : decode cX5_reckoningCodes 360 = .ok (.return_, 1) := dl_o177 kcX5_reckoningCodes (by decide +kernel)
theorem dX5_reckoningCodes_361 : decode cX5_reckoningCodes 361 = .ok (.aload_n 0, 1) := dl_o42 kcX5_reckoningCodes (by decide +kernel)
theorem dX5_reckoningCodes_362 : decode cX5_reckoningCodes 362 = .ok (.lload 4, 2) := dl_o22 kcX5_reckoningCodes (by decide +kernel)
theorem dX5_reckoningCodes_364 : decode cX5_reckoningCodes 364 = .ok (.lload_n 2, 1) := dl_o32 kcX5_reckoningCodes (by decide +kernel)
theorem dX5_reckoningCodes_365 : decode cX5_reckoningCodes 365 = .ok (.invokestatic 427, 3) := dl_o184 kcX5_reckoningCodes (by decide +kernel)
theorem dX5_reckoningCodes_368 : decode cX5_reckoningCodes 368 = .ok (.invokevirtual 232, 3) := dl_o182 kcX5_reckoningCodes (by decide +kernel)
theorem dX5_reckoningCodes_371 : decode cX5_reckoningCodes 371 = .ok (.return_, 1) := dl_o177 kcX5_reckoningCodes (by decide +kernel)
theorem dX5_reckoningCodes_372 : decode cX5_reckoningCodes 372 = .ok (.aload_n 0, 1) := dl_o42 kcX5_reckoningCodes (by decide +kernel)
theorem dX5_reckoningCodes_373 : decode cX5_reckoningCodes 373 = .ok (.lload_n 2, 1) := dl_o32 kcX5_reckoningCodes (by decide +kernel)
theorem dX5_reckoningCodes_374 : decode cX5_reckoningCodes 374 = .ok (.invokevirtual 232, 3) := dl_o182 kcX5_reckoningCodes (by decide +kernel)
theorem dX5_reckoningCodes_377 : decode cX5_reckoningCodes 377 = .ok (.return_, 1) := dl_o177 kcX5_reckoningCodes (by decide +kernel)
def B_X5_reckoningCodes_292  (s1 : Int64) (V : sv_V) : Option sv_V := (F_X5_push s1 V).bind (fun V1 => some V1)
set_option maxRecDepth 20000 in
theorem tB_X5_reckoningCodes_292 {g : sx_G} (hG : sx_Go g) {P : Option Value → sv_V → Prop} {Vr : sv_V} (hP : P none Vr)   {s1 : Int64} {V : sv_V} (h : B_X5_reckoningCodes_292  s1 V = some Vr) : sv_N g qX5_reckoningCodes 2 292 [] [.long s1, .ref 69] V P := by
  unfold B_X5_reckoningCodes_292 at h
  obtain ⟨V1, g2, h⟩ := sx_bnd h
  refine sv_cV (pc := 292) (y := qX5_push) (o := none) (as := [.long s1]) (V1 := V1) hG dX5_reckoningCodes_292 l_X5_232 y0X5_push yvX5_push rfl (Nat.le_of_ble_eq_true rfl) lay_69 kr_5 (by decide) (Nat.le_of_ble_eq_true rfl) rfl rfl rfl (t_X5_push hG ⟨rfl, rfl⟩ g2) ?_
  exact sv_vret (pc := 295) dX5_reckoningCodes_295 rfl h hP
def B_X5_reckoningCodes_337  (l2 : Int64) (V : sv_V) : Option sv_V := (F_X9_rounded l2 V).bind (fun (x5, V3) => (F_X5_push x5 V3).bind (fun V6 => some V6))
set_option maxRecDepth 20000 in
theorem tB_X5_reckoningCodes_337 {g : sx_G} (hG : sx_Go g) {P : Option Value → sv_V → Prop} {Vr : sv_V} (hP : P none Vr)   {l2 : Int64} {V : sv_V} (h : B_X5_reckoningCodes_337  l2 V = some Vr) : sv_N g qX5_reckoningCodes 2 337 [(0, .ref 69), (2, .long l2)] [] V P := by
  unfold B_X5_reckoningCodes_337 at h
  refine sx_aload_n (pc := 337) dX5_reckoningCodes_337 sx_m0 ?_
  refine sx_aload_n (pc := 338) dX5_reckoningCodes_338 sx_m0 ?_
  refine sv_getO (pc := 339) hG dX5_reckoningCodes_339 f_5_12 lay_69 rfl cr_69_1 ?_
  refine sx_lload_n (pc := 342) dX5_reckoningCodes_342 sx_m1 ?_
  obtain ⟨⟨x5, V3⟩, g4, h⟩ := sx_bnd h
  refine sv_cV (pc := 343) (y := qX9_rounded) (o := (some (.long x5))) (as := [.long l2]) (V1 := V3) hG dX5_reckoningCodes_343 l_X5_414 y0X9_rounded yvX9_rounded rfl (Nat.le_of_ble_eq_true rfl) lay_70 kr_9 (by decide) (Nat.le_of_ble_eq_true rfl) rfl rfl rfl (t_X9_rounded hG ⟨rfl, rfl⟩ g4) ?_
  obtain ⟨V6, g7, h⟩ := sx_bnd h
  refine sv_cV (pc := 346) (y := qX5_push) (o := none) (as := [.long x5]) (V1 := V6) hG dX5_reckoningCodes_346 l_X5_232 y0X5_push yvX5_push rfl (Nat.le_of_ble_eq_true rfl) lay_69 kr_5 (by decide) (Nat.le_of_ble_eq_true rfl) rfl rfl rfl (t_X5_push hG ⟨rfl, rfl⟩ g7) ?_
  exact sv_vret (pc := 349) dX5_reckoningCodes_349 rfl h hP
def B_X5_reckoningCodes_372  (l2 : Int64) (V : sv_V) : Option sv_V := (F_X5_push l2 V).bind (fun V8 => some V8)
set_option maxRecDepth 20000 in
theorem tB_X5_reckoningCodes_372 {g : sx_G} (hG : sx_Go g) {P : Option Value → sv_V → Prop} {Vr : sv_V} (hP : P none Vr)   {l2 : Int64} {V : sv_V} (h : B_X5_reckoningCodes_372  l2 V = some Vr) : sv_N g qX5_reckoningCodes 2 372 [(0, .ref 69), (2, .long l2)] [] V P := by
  unfold B_X5_reckoningCodes_372 at h
  refine sx_aload_n (pc := 372) dX5_reckoningCodes_372 sx_m0 ?_
  refine sx_lload_n (pc := 373) dX5_reckoningCodes_373 sx_m1 ?_
  obtain ⟨V8, g9, h⟩ := sx_bnd h
  refine sv_cV (pc := 374) (y := qX5_push) (o := none) (as := [.long l2]) (V1 := V8) hG dX5_reckoningCodes_374 l_X5_232 y0X5_push yvX5_push rfl (Nat.le_of_ble_eq_true rfl) lay_69 kr_5 (by decide) (Nat.le_of_ble_eq_true rfl) rfl rfl rfl (t_X5_push hG ⟨rfl, rfl⟩ g9) ?_
  exact sv_vret (pc := 377) dX5_reckoningCodes_377 rfl h hP
def B_X5_reckoningCodes_24  (l1 : Int32) (l2 : Int64) (s0 : Int64) (V : sv_V) : Option sv_V := if l1 = 96 then ((F_X5_push (s0 + l2) V).bind (fun V11 => some V11)) else (if l1 = 97 then ((F_X5_push (s0 - l2) V).bind (fun V14 => some V14)) else (if l1 = 98 then (if (lg_cmp l2 (0 : Int64)) = 0 then (sx_let (sv_I V 69 14 (7 : Int32)) (fun V21 => some V21)) else (if ¬ l2 = 0 then (F_X5_push ((s0 * (64 : Int64)) / l2) V).bind (fun V19 => some V19) else none)) else (if l1 = 99 then ((F_X11_nearest (s0 * l2) (64 : Int64) V).bind (fun (x25, V23) => (F_X5_push x25 V23).bind (fun V26 => some V26))) else (if l1 = 100 then (if 0 ≤ (lg_cmp l2 (0 : Int64)) then (B_X5_reckoningCodes_292  l2 V) else (B_X5_reckoningCodes_292  (-l2) V)) else (if l1 = 101 then ((F_X5_push (-l2) V).bind (fun V31 => some V31)) else (if l1 = 102 then ((F_J9_floorDiv_f86c9 l2 (64 : Int64) V).bind (fun (x36, V34) => (F_X5_push (x36 * (64 : Int64)) V34).bind (fun V37 => some V37))) else (if l1 = 103 then ((F_J9_floorDiv_f86c9 (-l2) (64 : Int64) V).bind (fun (x42, V40) => (F_X5_push ((-x42) * (64 : Int64)) V40).bind (fun V43 => some V43))) else (if l1 = 104 then (B_X5_reckoningCodes_337  l2 V) else (if l1 = 105 then (B_X5_reckoningCodes_337  l2 V) else (if l1 = 106 then (B_X5_reckoningCodes_337  l2 V) else (if l1 = 107 then (B_X5_reckoningCodes_337  l2 V) else (if l1 = 108 then (B_X5_reckoningCodes_372  l2 V) else (if l1 = 109 then (B_X5_reckoningCodes_372  l2 V) else (if l1 = 110 then (B_X5_reckoningCodes_372  l2 V) else (if l1 = 111 then (B_X5_reckoningCodes_372  l2 V) else (if l1 = 112 then (B_X5_reckoningCodes_372  l2 V) else (if l1 = 113 then (B_X5_reckoningCodes_372  l2 V) else (if l1 = 114 then (B_X5_reckoningCodes_372  l2 V) else (if l1 = 115 then (B_X5_reckoningCodes_372  l2 V) else (if l1 = 116 then (B_X5_reckoningCodes_372  l2 V) else (if l1 = 117 then (B_X5_reckoningCodes_372  l2 V) else (if l1 = 118 then (B_X5_reckoningCodes_372  l2 V) else (if l1 = 119 then (B_X5_reckoningCodes_372  l2 V) else (if l1 = 120 then (B_X5_reckoningCodes_372  l2 V) else (if l1 = 121 then (B_X5_reckoningCodes_372  l2 V) else (if l1 = 122 then (B_X5_reckoningCodes_372  l2 V) else (if l1 = 123 then (B_X5_reckoningCodes_372  l2 V) else (if l1 = 124 then (B_X5_reckoningCodes_372  l2 V) else (if l1 = 125 then (B_X5_reckoningCodes_372  l2 V) else (if l1 = 126 then (B_X5_reckoningCodes_372  l2 V) else (if l1 = 127 then (B_X5_reckoningCodes_372  l2 V) else (if l1 = 128 then (B_X5_reckoningCodes_372  l2 V) else (if l1 = 129 then (B_X5_reckoningCodes_372  l2 V) else (if l1 = 130 then (B_X5_reckoningCodes_372  l2 V) else (if l1 = 131 then (B_X5_reckoningCodes_372  l2 V) else (if l1 = 132 then (B_X5_reckoningCodes_372  l2 V) else (if l1 = 133 then (B_X5_reckoningCodes_372  l2 V) else (if l1 = 134 then (B_X5_reckoningCodes_372  l2 V) else (if l1 = 135 then (B_X5_reckoningCodes_372  l2 V) else (if l1 = 136 then (B_X5_reckoningCodes_372  l2 V) else (if l1 = 137 then (B_X5_reckoningCodes_372  l2 V) else (if l1 = 138 then (B_X5_reckoningCodes_372  l2 V) else (if l1 = 139 then ((F_J9_max_f86c9 s0 l2 V).bind (fun (x83, V81) => (F_X5_push x83 V81).bind (fun V84 => some V84))) else (if l1 = 140 then ((F_J9_min_f86c9 s0 l2 V).bind (fun (x89, V87) => (F_X5_push x89 V87).bind (fun V90 => some V90))) else (B_X5_reckoningCodes_372  l2 V)))))))))))))))))))))))))))))))))))))))))))))
set_option maxRecDepth 20000 in
theorem tB_X5_reckoningCodes_24 {g : sx_G} (hG : sx_Go g) {P : Option Value → sv_V → Prop} {Vr : sv_V} (hP : P none Vr)   {l1 : Int32} {l2 : Int64} {s0 : Int64} {V : sv_V} (h : B_X5_reckoningCodes_24  l1 l2 s0 V = some Vr) : sv_N g qX5_reckoningCodes 2 24 [(0, .ref 69), (1, .int l1), (2, .long l2)] [.long s0] V P := by
  unfold B_X5_reckoningCodes_24 at h
  refine sx_lstore (pc := 24) (lo' := [(4, .long s0), (0, .ref 69), (1, .int l1), (2, .long l2)]) dX5_reckoningCodes_24 (by decide) rfl ?_
  refine sx_iload_n (pc := 26) dX5_reckoningCodes_26 sx_m2 ?_
  by_cases c10 : l1 = 96
  · have h := sx_pos c10 h
    refine sx_tabI (pc := 27) (off := 193) (tgt := 220) dX5_reckoningCodes_27 (by rw [c10]; decide) (by rw [c10]; decide) (by rw [c10]; rfl) (by decide) ?_
    refine sx_aload_n (pc := 220) dX5_reckoningCodes_220 sx_m1 ?_
    refine sx_lload (pc := 221) dX5_reckoningCodes_221 sx_m0 ?_
    refine sx_lload_n (pc := 223) dX5_reckoningCodes_223 sx_m3 ?_
    refine sx_ladd (pc := 224) dX5_reckoningCodes_224 ?_
    obtain ⟨V11, g12, h⟩ := sx_bnd h
    refine sv_cV (pc := 225) (y := qX5_push) (o := none) (as := [.long (s0 + l2)]) (V1 := V11) hG dX5_reckoningCodes_225 l_X5_232 y0X5_push yvX5_push rfl (Nat.le_of_ble_eq_true rfl) lay_69 kr_5 (by decide) (Nat.le_of_ble_eq_true rfl) rfl rfl rfl (t_X5_push hG ⟨rfl, rfl⟩ g12) ?_
    exact sv_vret (pc := 228) dX5_reckoningCodes_228 rfl h hP
  have h := sx_neg c10 h
  by_cases c13 : l1 = 97
  · have h := sx_pos c13 h
    refine sx_tabI (pc := 27) (off := 202) (tgt := 229) dX5_reckoningCodes_27 (by rw [c13]; decide) (by rw [c13]; decide) (by rw [c13]; rfl) (by decide) ?_
    refine sx_aload_n (pc := 229) dX5_reckoningCodes_229 sx_m1 ?_
    refine sx_lload (pc := 230) dX5_reckoningCodes_230 sx_m0 ?_
    refine sx_lload_n (pc := 232) dX5_reckoningCodes_232 sx_m3 ?_
    refine sx_lsub (pc := 233) dX5_reckoningCodes_233 ?_
    obtain ⟨V14, g15, h⟩ := sx_bnd h
    refine sv_cV (pc := 234) (y := qX5_push) (o := none) (as := [.long (s0 - l2)]) (V1 := V14) hG dX5_reckoningCodes_234 l_X5_232 y0X5_push yvX5_push rfl (Nat.le_of_ble_eq_true rfl) lay_69 kr_5 (by decide) (Nat.le_of_ble_eq_true rfl) rfl rfl rfl (t_X5_push hG ⟨rfl, rfl⟩ g15) ?_
    exact sv_vret (pc := 237) dX5_reckoningCodes_237 rfl h hP
  have h := sx_neg c13 h
  by_cases c16 : l1 = 98
  · have h := sx_pos c16 h
    refine sx_tabI (pc := 27) (off := 211) (tgt := 238) dX5_reckoningCodes_27 (by rw [c16]; decide) (by rw [c16]; decide) (by rw [c16]; rfl) (by decide) ?_
    refine sx_lload_n (pc := 238) dX5_reckoningCodes_238 sx_m3 ?_
    refine sx_lconst (pc := 239) (v := 0) dX5_reckoningCodes_239 rfl ?_
    refine sx_lcmp (pc := 240) dX5_reckoningCodes_240 ?_
    refine sx_if_ne (pc := 241) (tgt := 251) dX5_reckoningCodes_241 (by decide) (fun c17 => ?_) (fun c17 => ?_)
    · have h := sx_neg c17 h
      refine sx_aload_n (pc := 251) dX5_reckoningCodes_251 sx_m1 ?_
      refine sx_lload (pc := 252) dX5_reckoningCodes_252 sx_m0 ?_
      refine sx_ldc2 (pc := 254) dX5_reckoningCodes_254 k_X5_68 ?_
      refine sx_lmul (pc := 257) dX5_reckoningCodes_257 ?_
      refine sx_lload_n (pc := 258) dX5_reckoningCodes_258 sx_m3 ?_
      obtain ⟨g18, h⟩ := sx_grd h
      refine sx_ldiv (pc := 259) dX5_reckoningCodes_259 g18 ?_
      obtain ⟨V19, g20, h⟩ := sx_bnd h
      refine sv_cV (pc := 260) (y := qX5_push) (o := none) (as := [.long ((s0 * (64 : Int64)) / l2)]) (V1 := V19) hG dX5_reckoningCodes_260 l_X5_232 y0X5_push yvX5_push rfl (Nat.le_of_ble_eq_true rfl) lay_69 kr_5 (by decide) (Nat.le_of_ble_eq_true rfl) rfl rfl rfl (t_X5_push hG ⟨rfl, rfl⟩ g20) ?_
      exact sv_vret (pc := 263) dX5_reckoningCodes_263 rfl h hP
    · have h := sx_pos c17 h
      refine sx_aload_n (pc := 244) dX5_reckoningCodes_244 sx_m1 ?_
      refine sx_bipush (pc := 245) (v := 7) dX5_reckoningCodes_245 (by decide) ?_
      obtain ⟨V21, hV21⟩ : ∃ z : sv_V, z = sv_I V 69 14 (7 : Int32) := ⟨_, rfl⟩
      have h := sx_letE hV21 h
      refine sv_putI (pc := 247) hG dX5_reckoningCodes_247 f_5_56 lay_69 rfl hV21 ?_
      exact sv_vret (pc := 250) dX5_reckoningCodes_250 rfl h hP
  have h := sx_neg c16 h
  by_cases c22 : l1 = 99
  · have h := sx_pos c22 h
    refine sx_tabI (pc := 27) (off := 237) (tgt := 264) dX5_reckoningCodes_27 (by rw [c22]; decide) (by rw [c22]; decide) (by rw [c22]; rfl) (by decide) ?_
    refine sx_aload_n (pc := 264) dX5_reckoningCodes_264 sx_m1 ?_
    refine sx_lload (pc := 265) dX5_reckoningCodes_265 sx_m0 ?_
    refine sx_lload_n (pc := 267) dX5_reckoningCodes_267 sx_m3 ?_
    refine sx_lmul (pc := 268) dX5_reckoningCodes_268 ?_
    refine sx_ldc2 (pc := 269) dX5_reckoningCodes_269 k_X5_68 ?_
    obtain ⟨⟨x25, V23⟩, g24, h⟩ := sx_bnd h
    refine sv_cN (pc := 272) (y := qX11_nearest) (o := (some (.long x25))) (as := [.long (s0 * l2), .long (64 : Int64)]) (V1 := V23) dX5_reckoningCodes_272 n_X5_75 y0X11_nearest ysX11_nearest rfl (Nat.le_of_ble_eq_true rfl) (by decide) (Nat.le_of_ble_eq_true rfl) rfl rfl rfl (t_X11_nearest hG ⟨rfl, rfl⟩ g24) ?_
    obtain ⟨V26, g27, h⟩ := sx_bnd h
    refine sv_cV (pc := 275) (y := qX5_push) (o := none) (as := [.long x25]) (V1 := V26) hG dX5_reckoningCodes_275 l_X5_232 y0X5_push yvX5_push rfl (Nat.le_of_ble_eq_true rfl) lay_69 kr_5 (by decide) (Nat.le_of_ble_eq_true rfl) rfl rfl rfl (t_X5_push hG ⟨rfl, rfl⟩ g27) ?_
    exact sv_vret (pc := 278) dX5_reckoningCodes_278 rfl h hP
  have h := sx_neg c22 h
  by_cases c28 : l1 = 100
  · have h := sx_pos c28 h
    refine sx_tabI (pc := 27) (off := 252) (tgt := 279) dX5_reckoningCodes_27 (by rw [c28]; decide) (by rw [c28]; decide) (by rw [c28]; rfl) (by decide) ?_
    refine sx_aload_n (pc := 279) dX5_reckoningCodes_279 sx_m1 ?_
    refine sx_lload_n (pc := 280) dX5_reckoningCodes_280 sx_m3 ?_
    refine sx_lconst (pc := 281) (v := 0) dX5_reckoningCodes_281 rfl ?_
    refine sx_lcmp (pc := 282) dX5_reckoningCodes_282 ?_
    refine sx_if_ge (pc := 283) (tgt := 291) dX5_reckoningCodes_283 (by decide) (fun c29 => ?_) (fun c29 => ?_)
    · have h := sx_pos c29 h
      refine sx_lload_n (pc := 291) dX5_reckoningCodes_291 sx_m3 ?_
      refine sx_wk sx_s0 ?_
      exact tB_X5_reckoningCodes_292 hG hP  h
    · have h := sx_neg c29 h
      refine sx_lload_n (pc := 286) dX5_reckoningCodes_286 sx_m3 ?_
      refine sx_lneg (pc := 287) dX5_reckoningCodes_287 ?_
      refine sx_goto (pc := 288) (tgt := 292) dX5_reckoningCodes_288 (by decide) ?_
      refine sx_wk sx_s0 ?_
      exact tB_X5_reckoningCodes_292 hG hP  h
  have h := sx_neg c28 h
  by_cases c30 : l1 = 101
  · have h := sx_pos c30 h
    refine sx_tabI (pc := 27) (off := 269) (tgt := 296) dX5_reckoningCodes_27 (by rw [c30]; decide) (by rw [c30]; decide) (by rw [c30]; rfl) (by decide) ?_
    refine sx_aload_n (pc := 296) dX5_reckoningCodes_296 sx_m1 ?_
    refine sx_lload_n (pc := 297) dX5_reckoningCodes_297 sx_m3 ?_
    refine sx_lneg (pc := 298) dX5_reckoningCodes_298 ?_
    obtain ⟨V31, g32, h⟩ := sx_bnd h
    refine sv_cV (pc := 299) (y := qX5_push) (o := none) (as := [.long (-l2)]) (V1 := V31) hG dX5_reckoningCodes_299 l_X5_232 y0X5_push yvX5_push rfl (Nat.le_of_ble_eq_true rfl) lay_69 kr_5 (by decide) (Nat.le_of_ble_eq_true rfl) rfl rfl rfl (t_X5_push hG ⟨rfl, rfl⟩ g32) ?_
    exact sv_vret (pc := 302) dX5_reckoningCodes_302 rfl h hP
  have h := sx_neg c30 h
  by_cases c33 : l1 = 102
  · have h := sx_pos c33 h
    refine sx_tabI (pc := 27) (off := 276) (tgt := 303) dX5_reckoningCodes_27 (by rw [c33]; decide) (by rw [c33]; decide) (by rw [c33]; rfl) (by decide) ?_
    refine sx_aload_n (pc := 303) dX5_reckoningCodes_303 sx_m1 ?_
    refine sx_lload_n (pc := 304) dX5_reckoningCodes_304 sx_m3 ?_
    refine sx_ldc2 (pc := 305) dX5_reckoningCodes_305 k_X5_68 ?_
    obtain ⟨⟨x36, V34⟩, g35, h⟩ := sx_bnd h
    refine sv_cS (pc := 308) (y := qJ9_floorDiv_f86c9) (o := (some (.long x36))) (as := [.long l2, .long (64 : Int64)]) (V1 := V34) dX5_reckoningCodes_308 l_X5_419 y0J9_floorDiv_f86c9 ysJ9_floorDiv_f86c9 rfl (Nat.le_of_ble_eq_true rfl) (by decide) (Nat.le_of_ble_eq_true rfl) rfl rfl rfl (t_J9_floorDiv_f86c9 hG ⟨rfl, rfl⟩ g35) ?_
    refine sx_ldc2 (pc := 311) dX5_reckoningCodes_311 k_X5_68 ?_
    refine sx_lmul (pc := 314) dX5_reckoningCodes_314 ?_
    obtain ⟨V37, g38, h⟩ := sx_bnd h
    refine sv_cV (pc := 315) (y := qX5_push) (o := none) (as := [.long (x36 * (64 : Int64))]) (V1 := V37) hG dX5_reckoningCodes_315 l_X5_232 y0X5_push yvX5_push rfl (Nat.le_of_ble_eq_true rfl) lay_69 kr_5 (by decide) (Nat.le_of_ble_eq_true rfl) rfl rfl rfl (t_X5_push hG ⟨rfl, rfl⟩ g38) ?_
    exact sv_vret (pc := 318) dX5_reckoningCodes_318 rfl h hP
  have h := sx_neg c33 h
  by_cases c39 : l1 = 103
  · have h := sx_pos c39 h
    refine sx_tabI (pc := 27) (off := 292) (tgt := 319) dX5_reckoningCodes_27 (by rw [c39]; decide) (by rw [c39]; decide) (by rw [c39]; rfl) (by decide) ?_
    refine sx_aload_n (pc := 319) dX5_reckoningCodes_319 sx_m1 ?_
    refine sx_lload_n (pc := 320) dX5_reckoningCodes_320 sx_m3 ?_
    refine sx_lneg (pc := 321) dX5_reckoningCodes_321 ?_
    refine sx_ldc2 (pc := 322) dX5_reckoningCodes_322 k_X5_68 ?_
    obtain ⟨⟨x42, V40⟩, g41, h⟩ := sx_bnd h
    refine sv_cS (pc := 325) (y := qJ9_floorDiv_f86c9) (o := (some (.long x42))) (as := [.long (-l2), .long (64 : Int64)]) (V1 := V40) dX5_reckoningCodes_325 l_X5_419 y0J9_floorDiv_f86c9 ysJ9_floorDiv_f86c9 rfl (Nat.le_of_ble_eq_true rfl) (by decide) (Nat.le_of_ble_eq_true rfl) rfl rfl rfl (t_J9_floorDiv_f86c9 hG ⟨rfl, rfl⟩ g41) ?_
    refine sx_lneg (pc := 328) dX5_reckoningCodes_328 ?_
    refine sx_ldc2 (pc := 329) dX5_reckoningCodes_329 k_X5_68 ?_
    refine sx_lmul (pc := 332) dX5_reckoningCodes_332 ?_
    obtain ⟨V43, g44, h⟩ := sx_bnd h
    refine sv_cV (pc := 333) (y := qX5_push) (o := none) (as := [.long ((-x42) * (64 : Int64))]) (V1 := V43) hG dX5_reckoningCodes_333 l_X5_232 y0X5_push yvX5_push rfl (Nat.le_of_ble_eq_true rfl) lay_69 kr_5 (by decide) (Nat.le_of_ble_eq_true rfl) rfl rfl rfl (t_X5_push hG ⟨rfl, rfl⟩ g44) ?_
    exact sv_vret (pc := 336) dX5_reckoningCodes_336 rfl h hP
  have h := sx_neg c39 h
  by_cases c45 : l1 = 104
  · have h := sx_pos c45 h
    refine sx_tabI (pc := 27) (off := 310) (tgt := 337) dX5_reckoningCodes_27 (by rw [c45]; decide) (by rw [c45]; decide) (by rw [c45]; rfl) (by decide) ?_
    refine sx_wk (sx_s1 sx_m1 (sx_s1 sx_m3 sx_s0)) ?_
    exact tB_X5_reckoningCodes_337 hG hP  h
  have h := sx_neg c45 h
  by_cases c46 : l1 = 105
  · have h := sx_pos c46 h
    refine sx_tabI (pc := 27) (off := 310) (tgt := 337) dX5_reckoningCodes_27 (by rw [c46]; decide) (by rw [c46]; decide) (by rw [c46]; rfl) (by decide) ?_
    refine sx_wk (sx_s1 sx_m1 (sx_s1 sx_m3 sx_s0)) ?_
    exact tB_X5_reckoningCodes_337 hG hP  h
  have h := sx_neg c46 h
  by_cases c47 : l1 = 106
  · have h := sx_pos c47 h
    refine sx_tabI (pc := 27) (off := 310) (tgt := 337) dX5_reckoningCodes_27 (by rw [c47]; decide) (by rw [c47]; decide) (by rw [c47]; rfl) (by decide) ?_
    refine sx_wk (sx_s1 sx_m1 (sx_s1 sx_m3 sx_s0)) ?_
    exact tB_X5_reckoningCodes_337 hG hP  h
  have h := sx_neg c47 h
  by_cases c48 : l1 = 107
  · have h := sx_pos c48 h
    refine sx_tabI (pc := 27) (off := 310) (tgt := 337) dX5_reckoningCodes_27 (by rw [c48]; decide) (by rw [c48]; decide) (by rw [c48]; rfl) (by decide) ?_
    refine sx_wk (sx_s1 sx_m1 (sx_s1 sx_m3 sx_s0)) ?_
    exact tB_X5_reckoningCodes_337 hG hP  h
  have h := sx_neg c48 h
  by_cases c49 : l1 = 108
  · have h := sx_pos c49 h
    refine sx_tabI (pc := 27) (off := 345) (tgt := 372) dX5_reckoningCodes_27 (by rw [c49]; decide) (by rw [c49]; decide) (by rw [c49]; rfl) (by decide) ?_
    refine sx_wk (sx_s1 sx_m1 (sx_s1 sx_m3 sx_s0)) ?_
    exact tB_X5_reckoningCodes_372 hG hP  h
  have h := sx_neg c49 h
  by_cases c50 : l1 = 109
  · have h := sx_pos c50 h
    refine sx_tabI (pc := 27) (off := 345) (tgt := 372) dX5_reckoningCodes_27 (by rw [c50]; decide) (by rw [c50]; decide) (by rw [c50]; rfl) (by decide) ?_
    refine sx_wk (sx_s1 sx_m1 (sx_s1 sx_m3 sx_s0)) ?_
    exact tB_X5_reckoningCodes_372 hG hP  h
  have h := sx_neg c50 h
  by_cases c51 : l1 = 110
  · have h := sx_pos c51 h
    refine sx_tabI (pc := 27) (off := 345) (tgt := 372) dX5_reckoningCodes_27 (by rw [c51]; decide) (by rw [c51]; decide) (by rw [c51]; rfl) (by decide) ?_
    refine sx_wk (sx_s1 sx_m1 (sx_s1 sx_m3 sx_s0)) ?_
    exact tB_X5_reckoningCodes_372 hG hP  h
  have h := sx_neg c51 h
  by_cases c52 : l1 = 111
  · have h := sx_pos c52 h
    refine sx_tabI (pc := 27) (off := 345) (tgt := 372) dX5_reckoningCodes_27 (by rw [c52]; decide) (by rw [c52]; decide) (by rw [c52]; rfl) (by decide) ?_
    refine sx_wk (sx_s1 sx_m1 (sx_s1 sx_m3 sx_s0)) ?_
    exact tB_X5_reckoningCodes_372 hG hP  h
  have h := sx_neg c52 h
  by_cases c53 : l1 = 112
  · have h := sx_pos c53 h
    refine sx_tabI (pc := 27) (off := 345) (tgt := 372) dX5_reckoningCodes_27 (by rw [c53]; decide) (by rw [c53]; decide) (by rw [c53]; rfl) (by decide) ?_
    refine sx_wk (sx_s1 sx_m1 (sx_s1 sx_m3 sx_s0)) ?_
    exact tB_X5_reckoningCodes_372 hG hP  h
  have h := sx_neg c53 h
  by_cases c54 : l1 = 113
  · have h := sx_pos c54 h
    refine sx_tabI (pc := 27) (off := 345) (tgt := 372) dX5_reckoningCodes_27 (by rw [c54]; decide) (by rw [c54]; decide) (by rw [c54]; rfl) (by decide) ?_
    refine sx_wk (sx_s1 sx_m1 (sx_s1 sx_m3 sx_s0)) ?_
    exact tB_X5_reckoningCodes_372 hG hP  h
  have h := sx_neg c54 h
  by_cases c55 : l1 = 114
  · have h := sx_pos c55 h
    refine sx_tabI (pc := 27) (off := 345) (tgt := 372) dX5_reckoningCodes_27 (by rw [c55]; decide) (by rw [c55]; decide) (by rw [c55]; rfl) (by decide) ?_
    refine sx_wk (sx_s1 sx_m1 (sx_s1 sx_m3 sx_s0)) ?_
    exact tB_X5_reckoningCodes_372 hG hP  h
  have h := sx_neg c55 h
  by_cases c56 : l1 = 115
  · have h := sx_pos c56 h
    refine sx_tabI (pc := 27) (off := 345) (tgt := 372) dX5_reckoningCodes_27 (by rw [c56]; decide) (by rw [c56]; decide) (by rw [c56]; rfl) (by decide) ?_
    refine sx_wk (sx_s1 sx_m1 (sx_s1 sx_m3 sx_s0)) ?_
    exact tB_X5_reckoningCodes_372 hG hP  h
  have h := sx_neg c56 h
  by_cases c57 : l1 = 116
  · have h := sx_pos c57 h
    refine sx_tabI (pc := 27) (off := 345) (tgt := 372) dX5_reckoningCodes_27 (by rw [c57]; decide) (by rw [c57]; decide) (by rw [c57]; rfl) (by decide) ?_
    refine sx_wk (sx_s1 sx_m1 (sx_s1 sx_m3 sx_s0)) ?_
    exact tB_X5_reckoningCodes_372 hG hP  h
  have h := sx_neg c57 h
  by_cases c58 : l1 = 117
  · have h := sx_pos c58 h
    refine sx_tabI (pc := 27) (off := 345) (tgt := 372) dX5_reckoningCodes_27 (by rw [c58]; decide) (by rw [c58]; decide) (by rw [c58]; rfl) (by decide) ?_
    refine sx_wk (sx_s1 sx_m1 (sx_s1 sx_m3 sx_s0)) ?_
    exact tB_X5_reckoningCodes_372 hG hP  h
  have h := sx_neg c58 h
  by_cases c59 : l1 = 118
  · have h := sx_pos c59 h
    refine sx_tabI (pc := 27) (off := 345) (tgt := 372) dX5_reckoningCodes_27 (by rw [c59]; decide) (by rw [c59]; decide) (by rw [c59]; rfl) (by decide) ?_
    refine sx_wk (sx_s1 sx_m1 (sx_s1 sx_m3 sx_s0)) ?_
    exact tB_X5_reckoningCodes_372 hG hP  h
  have h := sx_neg c59 h
  by_cases c60 : l1 = 119
  · have h := sx_pos c60 h
    refine sx_tabI (pc := 27) (off := 345) (tgt := 372) dX5_reckoningCodes_27 (by rw [c60]; decide) (by rw [c60]; decide) (by rw [c60]; rfl) (by decide) ?_
    refine sx_wk (sx_s1 sx_m1 (sx_s1 sx_m3 sx_s0)) ?_
    exact tB_X5_reckoningCodes_372 hG hP  h
  have h := sx_neg c60 h
  by_cases c61 : l1 = 120
  · have h := sx_pos c61 h
    refine sx_tabI (pc := 27) (off := 345) (tgt := 372) dX5_reckoningCodes_27 (by rw [c61]; decide) (by rw [c61]; decide) (by rw [c61]; rfl) (by decide) ?_
    refine sx_wk (sx_s1 sx_m1 (sx_s1 sx_m3 sx_s0)) ?_
    exact tB_X5_reckoningCodes_372 hG hP  h
  have h := sx_neg c61 h
  by_cases c62 : l1 = 121
  · have h := sx_pos c62 h
    refine sx_tabI (pc := 27) (off := 345) (tgt := 372) dX5_reckoningCodes_27 (by rw [c62]; decide) (by rw [c62]; decide) (by rw [c62]; rfl) (by decide) ?_
    refine sx_wk (sx_s1 sx_m1 (sx_s1 sx_m3 sx_s0)) ?_
    exact tB_X5_reckoningCodes_372 hG hP  h
  have h := sx_neg c62 h
  by_cases c63 : l1 = 122
  · have h := sx_pos c63 h
    refine sx_tabI (pc := 27) (off := 345) (tgt := 372) dX5_reckoningCodes_27 (by rw [c63]; decide) (by rw [c63]; decide) (by rw [c63]; rfl) (by decide) ?_
    refine sx_wk (sx_s1 sx_m1 (sx_s1 sx_m3 sx_s0)) ?_
    exact tB_X5_reckoningCodes_372 hG hP  h
  have h := sx_neg c63 h
  by_cases c64 : l1 = 123
  · have h := sx_pos c64 h
    refine sx_tabI (pc := 27) (off := 345) (tgt := 372) dX5_reckoningCodes_27 (by rw [c64]; decide) (by rw [c64]; decide) (by rw [c64]; rfl) (by decide) ?_
    refine sx_wk (sx_s1 sx_m1 (sx_s1 sx_m3 sx_s0)) ?_
    exact tB_X5_reckoningCodes_372 hG hP  h
  have h := sx_neg c64 h
  by_cases c65 : l1 = 124
  · have h := sx_pos c65 h
    refine sx_tabI (pc := 27) (off := 345) (tgt := 372) dX5_reckoningCodes_27 (by rw [c65]; decide) (by rw [c65]; decide) (by rw [c65]; rfl) (by decide) ?_
    refine sx_wk (sx_s1 sx_m1 (sx_s1 sx_m3 sx_s0)) ?_
    exact tB_X5_reckoningCodes_372 hG hP  h
  have h := sx_neg c65 h
  by_cases c66 : l1 = 125
  · have h := sx_pos c66 h
    refine sx_tabI (pc := 27) (off := 345) (tgt := 372) dX5_reckoningCodes_27 (by rw [c66]; decide) (by rw [c66]; decide) (by rw [c66]; rfl) (by decide) ?_
    refine sx_wk (sx_s1 sx_m1 (sx_s1 sx_m3 sx_s0)) ?_
    exact tB_X5_reckoningCodes_372 hG hP  h
  have h := sx_neg c66 h
  by_cases c67 : l1 = 126
  · have h := sx_pos c67 h
    refine sx_tabI (pc := 27) (off := 345) (tgt := 372) dX5_reckoningCodes_27 (by rw [c67]; decide) (by rw [c67]; decide) (by rw [c67]; rfl) (by decide) ?_
    refine sx_wk (sx_s1 sx_m1 (sx_s1 sx_m3 sx_s0)) ?_
    exact tB_X5_reckoningCodes_372 hG hP  h
  have h := sx_neg c67 h
  by_cases c68 : l1 = 127
  · have h := sx_pos c68 h
    refine sx_tabI (pc := 27) (off := 345) (tgt := 372) dX5_reckoningCodes_27 (by rw [c68]; decide) (by rw [c68]; decide) (by rw [c68]; rfl) (by decide) ?_
    refine sx_wk (sx_s1 sx_m1 (sx_s1 sx_m3 sx_s0)) ?_
    exact tB_X5_reckoningCodes_372 hG hP  h
  have h := sx_neg c68 h
  by_cases c69 : l1 = 128
  · have h := sx_pos c69 h
    refine sx_tabI (pc := 27) (off := 345) (tgt := 372) dX5_reckoningCodes_27 (by rw [c69]; decide) (by rw [c69]; decide) (by rw [c69]; rfl) (by decide) ?_
    refine sx_wk (sx_s1 sx_m1 (sx_s1 sx_m3 sx_s0)) ?_
    exact tB_X5_reckoningCodes_372 hG hP  h
  have h := sx_neg c69 h
  by_cases c70 : l1 = 129
  · have h := sx_pos c70 h
    refine sx_tabI (pc := 27) (off := 345) (tgt := 372) dX5_reckoningCodes_27 (by rw [c70]; decide) (by rw [c70]; decide) (by rw [c70]; rfl) (by decide) ?_
    refine sx_wk (sx_s1 sx_m1 (sx_s1 sx_m3 sx_s0)) ?_
    exact tB_X5_reckoningCodes_372 hG hP  h
  have h := sx_neg c70 h
  by_cases c71 : l1 = 130
  · have h := sx_pos c71 h
    refine sx_tabI (pc := 27) (off := 345) (tgt := 372) dX5_reckoningCodes_27 (by rw [c71]; decide) (by rw [c71]; decide) (by rw [c71]; rfl) (by decide) ?_
    refine sx_wk (sx_s1 sx_m1 (sx_s1 sx_m3 sx_s0)) ?_
    exact tB_X5_reckoningCodes_372 hG hP  h
  have h := sx_neg c71 h
  by_cases c72 : l1 = 131
  · have h := sx_pos c72 h
    refine sx_tabI (pc := 27) (off := 345) (tgt := 372) dX5_reckoningCodes_27 (by rw [c72]; decide) (by rw [c72]; decide) (by rw [c72]; rfl) (by decide) ?_
    refine sx_wk (sx_s1 sx_m1 (sx_s1 sx_m3 sx_s0)) ?_
    exact tB_X5_reckoningCodes_372 hG hP  h
  have h := sx_neg c72 h
  by_cases c73 : l1 = 132
  · have h := sx_pos c73 h
    refine sx_tabI (pc := 27) (off := 345) (tgt := 372) dX5_reckoningCodes_27 (by rw [c73]; decide) (by rw [c73]; decide) (by rw [c73]; rfl) (by decide) ?_
    refine sx_wk (sx_s1 sx_m1 (sx_s1 sx_m3 sx_s0)) ?_
    exact tB_X5_reckoningCodes_372 hG hP  h
  have h := sx_neg c73 h
  by_cases c74 : l1 = 133
  · have h := sx_pos c74 h
    refine sx_tabI (pc := 27) (off := 345) (tgt := 372) dX5_reckoningCodes_27 (by rw [c74]; decide) (by rw [c74]; decide) (by rw [c74]; rfl) (by decide) ?_
    refine sx_wk (sx_s1 sx_m1 (sx_s1 sx_m3 sx_s0)) ?_
    exact tB_X5_reckoningCodes_372 hG hP  h
  have h := sx_neg c74 h
  by_cases c75 : l1 = 134
  · have h := sx_pos c75 h
    refine sx_tabI (pc := 27) (off := 345) (tgt := 372) dX5_reckoningCodes_27 (by rw [c75]; decide) (by rw [c75]; decide) (by rw [c75]; rfl) (by decide) ?_
    refine sx_wk (sx_s1 sx_m1 (sx_s1 sx_m3 sx_s0)) ?_
    exact tB_X5_reckoningCodes_372 hG hP  h
  have h := sx_neg c75 h
  by_cases c76 : l1 = 135
  · have h := sx_pos c76 h
    refine sx_tabI (pc := 27) (off := 345) (tgt := 372) dX5_reckoningCodes_27 (by rw [c76]; decide) (by rw [c76]; decide) (by rw [c76]; rfl) (by decide) ?_
    refine sx_wk (sx_s1 sx_m1 (sx_s1 sx_m3 sx_s0)) ?_
    exact tB_X5_reckoningCodes_372 hG hP  h
  have h := sx_neg c76 h
  by_cases c77 : l1 = 136
  · have h := sx_pos c77 h
    refine sx_tabI (pc := 27) (off := 345) (tgt := 372) dX5_reckoningCodes_27 (by rw [c77]; decide) (by rw [c77]; decide) (by rw [c77]; rfl) (by decide) ?_
    refine sx_wk (sx_s1 sx_m1 (sx_s1 sx_m3 sx_s0)) ?_
    exact tB_X5_reckoningCodes_372 hG hP  h
  have h := sx_neg c77 h
  by_cases c78 : l1 = 137
  · have h := sx_pos c78 h
    refine sx_tabI (pc := 27) (off := 345) (tgt := 372) dX5_reckoningCodes_27 (by rw [c78]; decide) (by rw [c78]; decide) (by rw [c78]; rfl) (by decide) ?_
    refine sx_wk (sx_s1 sx_m1 (sx_s1 sx_m3 sx_s0)) ?_
    exact tB_X5_reckoningCodes_372 hG hP  h
  have h := sx_neg c78 h
  by_cases c79 : l1 = 138
  · have h := sx_pos c79 h
    refine sx_tabI (pc := 27) (off := 345) (tgt := 372) dX5_reckoningCodes_27 (by rw [c79]; decide) (by rw [c79]; decide) (by rw [c79]; rfl) (by decide) ?_
    refine sx_wk (sx_s1 sx_m1 (sx_s1 sx_m3 sx_s0)) ?_
    exact tB_X5_reckoningCodes_372 hG hP  h
  have h := sx_neg c79 h
  by_cases c80 : l1 = 139
  · have h := sx_pos c80 h
    refine sx_tabI (pc := 27) (off := 323) (tgt := 350) dX5_reckoningCodes_27 (by rw [c80]; decide) (by rw [c80]; decide) (by rw [c80]; rfl) (by decide) ?_
    refine sx_aload_n (pc := 350) dX5_reckoningCodes_350 sx_m1 ?_
    refine sx_lload (pc := 351) dX5_reckoningCodes_351 sx_m0 ?_
    refine sx_lload_n (pc := 353) dX5_reckoningCodes_353 sx_m3 ?_
    obtain ⟨⟨x83, V81⟩, g82, h⟩ := sx_bnd h
    refine sv_cS (pc := 354) (y := qJ9_max_f86c9) (o := (some (.long x83))) (as := [.long s0, .long l2]) (V1 := V81) dX5_reckoningCodes_354 l_X5_424 y0J9_max_f86c9 ysJ9_max_f86c9 rfl (Nat.le_of_ble_eq_true rfl) (by decide) (Nat.le_of_ble_eq_true rfl) rfl rfl rfl (t_J9_max_f86c9 hG ⟨rfl, rfl⟩ g82) ?_
    obtain ⟨V84, g85, h⟩ := sx_bnd h
    refine sv_cV (pc := 357) (y := qX5_push) (o := none) (as := [.long x83]) (V1 := V84) hG dX5_reckoningCodes_357 l_X5_232 y0X5_push yvX5_push rfl (Nat.le_of_ble_eq_true rfl) lay_69 kr_5 (by decide) (Nat.le_of_ble_eq_true rfl) rfl rfl rfl (t_X5_push hG ⟨rfl, rfl⟩ g85) ?_
    exact sv_vret (pc := 360) dX5_reckoningCodes_360 rfl h hP
  have h := sx_neg c80 h
  by_cases c86 : l1 = 140
  · have h := sx_pos c86 h
    refine sx_tabI (pc := 27) (off := 334) (tgt := 361) dX5_reckoningCodes_27 (by rw [c86]; decide) (by rw [c86]; decide) (by rw [c86]; rfl) (by decide) ?_
    refine sx_aload_n (pc := 361) dX5_reckoningCodes_361 sx_m1 ?_
    refine sx_lload (pc := 362) dX5_reckoningCodes_362 sx_m0 ?_
    refine sx_lload_n (pc := 364) dX5_reckoningCodes_364 sx_m3 ?_
    obtain ⟨⟨x89, V87⟩, g88, h⟩ := sx_bnd h
    refine sv_cS (pc := 365) (y := qJ9_min_f86c9) (o := (some (.long x89))) (as := [.long s0, .long l2]) (V1 := V87) dX5_reckoningCodes_365 l_X5_427 y0J9_min_f86c9 ysJ9_min_f86c9 rfl (Nat.le_of_ble_eq_true rfl) (by decide) (Nat.le_of_ble_eq_true rfl) rfl rfl rfl (t_J9_min_f86c9 hG ⟨rfl, rfl⟩ g88) ?_
    obtain ⟨V90, g91, h⟩ := sx_bnd h
    refine sv_cV (pc := 368) (y := qX5_push) (o := none) (as := [.long x89]) (V1 := V90) hG dX5_reckoningCodes_368 l_X5_232 y0X5_push yvX5_push rfl (Nat.le_of_ble_eq_true rfl) lay_69 kr_5 (by decide) (Nat.le_of_ble_eq_true rfl) rfl rfl rfl (t_X5_push hG ⟨rfl, rfl⟩ g91) ?_
    exact sv_vret (pc := 371) dX5_reckoningCodes_371 rfl h hP
  have h := sx_neg c86 h
  refine sx_tabO (pc := 27) (tgt := 372) dX5_reckoningCodes_27 (by have ec10 := lv_neT (a := 96) c10 rfl; have ec13 := lv_neT (a := 97) c13 rfl; have ec16 := lv_neT (a := 98) c16 rfl; have ec22 := lv_neT (a := 99) c22 rfl; have ec28 := lv_neT (a := 100) c28 rfl; have ec30 := lv_neT (a := 101) c30 rfl; have ec33 := lv_neT (a := 102) c33 rfl; have ec39 := lv_neT (a := 103) c39 rfl; have ec45 := lv_neT (a := 104) c45 rfl; have ec46 := lv_neT (a := 105) c46 rfl; have ec47 := lv_neT (a := 106) c47 rfl; have ec48 := lv_neT (a := 107) c48 rfl; have ec49 := lv_neT (a := 108) c49 rfl; have ec50 := lv_neT (a := 109) c50 rfl; have ec51 := lv_neT (a := 110) c51 rfl; have ec52 := lv_neT (a := 111) c52 rfl; have ec53 := lv_neT (a := 112) c53 rfl; have ec54 := lv_neT (a := 113) c54 rfl; have ec55 := lv_neT (a := 114) c55 rfl; have ec56 := lv_neT (a := 115) c56 rfl; have ec57 := lv_neT (a := 116) c57 rfl; have ec58 := lv_neT (a := 117) c58 rfl; have ec59 := lv_neT (a := 118) c59 rfl; have ec60 := lv_neT (a := 119) c60 rfl; have ec61 := lv_neT (a := 120) c61 rfl; have ec62 := lv_neT (a := 121) c62 rfl; have ec63 := lv_neT (a := 122) c63 rfl; have ec64 := lv_neT (a := 123) c64 rfl; have ec65 := lv_neT (a := 124) c65 rfl; have ec66 := lv_neT (a := 125) c66 rfl; have ec67 := lv_neT (a := 126) c67 rfl; have ec68 := lv_neT (a := 127) c68 rfl; have ec69 := lv_neT (a := 128) c69 rfl; have ec70 := lv_neT (a := 129) c70 rfl; have ec71 := lv_neT (a := 130) c71 rfl; have ec72 := lv_neT (a := 131) c72 rfl; have ec73 := lv_neT (a := 132) c73 rfl; have ec74 := lv_neT (a := 133) c74 rfl; have ec75 := lv_neT (a := 134) c75 rfl; have ec76 := lv_neT (a := 135) c76 rfl; have ec77 := lv_neT (a := 136) c77 rfl; have ec78 := lv_neT (a := 137) c78 rfl; have ec79 := lv_neT (a := 138) c79 rfl; have ec80 := lv_neT (a := 139) c80 rfl; have ec86 := lv_neT (a := 140) c86 rfl; omega) (by decide) ?_
  refine sx_wk (sx_s1 sx_m1 (sx_s1 sx_m3 sx_s0)) ?_
  exact tB_X5_reckoningCodes_372 hG hP  h
def F_X5_reckoningCodes (l1 : Int32) (V : sv_V) : Option sv_V := (F_X5_pop  V).bind (fun (x94, V92) => sx_let (x94.toInt64) (fun x95 => if sx_in l1 256 = true then if (V92.1 1006 l1.toNatClampNeg) = (2 : Int32) then ((F_X5_pop  V92).bind (fun (x100, V98) => B_X5_reckoningCodes_24  l1 x95 x100.toInt64 V98)) else (B_X5_reckoningCodes_24  l1 x95 (0 : Int64) V92) else none))
set_option maxRecDepth 20000 in
theorem t_X5_reckoningCodes {g : sx_G} (hG : sx_Go g) {P : Option Value → sv_V → Prop} {Vr : sv_V} (hP : P none Vr) {l1 : Int32} {V : sv_V} (h : F_X5_reckoningCodes l1 V = some Vr) : sv_N g qX5_reckoningCodes 2 0 [(0, .ref 69), (1, .int l1)] [] V P := by
  unfold F_X5_reckoningCodes at h
  refine sx_aload_n (pc := 0) dX5_reckoningCodes_0 sx_m0 ?_
  obtain ⟨⟨x94, V92⟩, g93, h⟩ := sx_bnd h
  refine sv_cV (pc := 1) (y := qX5_pop) (o := (some (.int x94))) (as := []) (V1 := V92) hG dX5_reckoningCodes_1 l_X5_242 y0X5_pop yvX5_pop rfl (Nat.le_of_ble_eq_true rfl) lay_69 kr_5 (by decide) (Nat.le_of_ble_eq_true rfl) rfl rfl rfl (t_X5_pop hG ⟨rfl, rfl⟩ g93) ?_
  refine sx_i2l (pc := 4) dX5_reckoningCodes_4 ?_
  refine sv_tJ (fun x95 hx95 => ?_)
  have h := sx_letE hx95 h
  refine sx_lstore_n (pc := 5) (lo' := [(2, .long x95), (0, .ref 69), (1, .int l1)]) dX5_reckoningCodes_5 (by decide) rfl ?_
  refine sv_getS (pc := 6) (j := 5) dX5_reckoningCodes_6 rfl n_X5_160 ?_
  refine sx_iload_n (pc := 9) dX5_reckoningCodes_9 sx_m2 ?_
  obtain ⟨g96, h⟩ := sx_grd h
  refine sv_xld (pc := 10) hG dX5_reckoningCodes_10 lay_1006 g96 ?_
  refine sx_iconst (pc := 11) (v := 2) dX5_reckoningCodes_11 (by decide) ?_
  refine sx_icmp_ne (pc := 12) (tgt := 23) dX5_reckoningCodes_12 (by decide) (fun c97 => ?_) (fun c97 => ?_)
  · have h := sx_neg c97 h
    refine sx_lconst (pc := 23) (v := 0) dX5_reckoningCodes_23 rfl ?_
    refine sx_wk (sx_s1 sx_m1 (sx_s1 sx_m2 (sx_s1 sx_m0 sx_s0))) ?_
    exact tB_X5_reckoningCodes_24 hG hP  h
  · have h := sx_pos c97 h
    refine sx_aload_n (pc := 15) dX5_reckoningCodes_15 sx_m1 ?_
    obtain ⟨⟨x100, V98⟩, g99, h⟩ := sx_bnd h
    refine sv_cV (pc := 16) (y := qX5_pop) (o := (some (.int x100))) (as := []) (V1 := V98) hG dX5_reckoningCodes_16 l_X5_242 y0X5_pop yvX5_pop rfl (Nat.le_of_ble_eq_true rfl) lay_69 kr_5 (by decide) (Nat.le_of_ble_eq_true rfl) rfl rfl rfl (t_X5_pop hG ⟨rfl, rfl⟩ g99) ?_
    refine sx_i2l (pc := 19) dX5_reckoningCodes_19 ?_
    refine sx_goto (pc := 20) (tgt := 24) dX5_reckoningCodes_20 (by decide) ?_
    refine sx_wk (sx_s1 sx_m1 (sx_s1 sx_m2 (sx_s1 sx_m0 sx_s0))) ?_
    exact tB_X5_reckoningCodes_24 hG hP  h
def ncX5_touchPoint : Nat := 3820214469784940776807857924018753945986167489920781011645705754678895858799664454041038617611694511702580865768494071219856960731522079781173214539189961818548297526416295233394035229946283543952186467077774932751914
theorem kcX5_touchPoint : CK cX5_touchPoint ncX5_touchPoint 90 := ⟨by decide +kernel, by decide +kernel⟩
theorem dX5_touchPoint_0 : decode cX5_touchPoint 0 = .ok (.aload_n 0, 1) := dl_o42 kcX5_touchPoint (by decide +kernel)
theorem dX5_touchPoint_1 : decode cX5_touchPoint 1 = .ok (.invokevirtual 242, 3) := dl_o182 kcX5_touchPoint (by decide +kernel)
theorem dX5_touchPoint_4 : decode cX5_touchPoint 4 = .ok (.istore_n 2, 1) := dl_o61 kcX5_touchPoint (by decide +kernel)
theorem dX5_touchPoint_5 : decode cX5_touchPoint 5 = .ok (.aload_n 0, 1) := dl_o42 kcX5_touchPoint (by decide +kernel)
theorem dX5_touchPoint_6 : decode cX5_touchPoint 6 = .ok (.iconst 0, 1) := dl_o3 kcX5_touchPoint (by decide +kernel)
theorem dX5_touchPoint_7 : decode cX5_touchPoint 7 = .ok (.invokevirtual 255, 3) := dl_o182 kcX5_touchPoint (by decide +kernel)
theorem dX5_touchPoint_10 : decode cX5_touchPoint 10 = .ok (.astore_n 3, 1) := dl_o78 kcX5_touchPoint (by decide +kernel)
theorem dX5_touchPoint_11 : decode cX5_touchPoint 11 = .ok (.aload_n 0, 1) := dl_o42 kcX5_touchPoint (by decide +kernel)
theorem dX5_touchPoint_12 : decode cX5_touchPoint 12 = .ok (.aload_n 3, 1) := dl_o45 kcX5_touchPoint (by decide +kernel)
theorem dX5_touchPoint_13 : decode cX5_touchPoint 13 = .ok (.iload_n 2, 1) := dl_o28 kcX5_touchPoint (by decide +kernel)
theorem dX5_touchPoint_14 : decode cX5_touchPoint 14 = .ok (.invokevirtual 259, 3) := dl_o182 kcX5_touchPoint (by decide +kernel)
theorem dX5_touchPoint_17 : decode cX5_touchPoint 17 = .ok (.ifCond .ne 4, 3) := dl_o154 kcX5_touchPoint 4 (by decide +kernel) (by decide +kernel)
theorem dX5_touchPoint_20 : decode cX5_touchPoint 20 = .ok (.return_, 1) := dl_o177 kcX5_touchPoint (by decide +kernel)
theorem dX5_touchPoint_21 : decode cX5_touchPoint 21 = .ok (.aload_n 0, 1) := dl_o42 kcX5_touchPoint (by decide +kernel)
theorem dX5_touchPoint_22 : decode cX5_touchPoint 22 = .ok (.aload_n 3, 1) := dl_o45 kcX5_touchPoint (by decide +kernel)
theorem dX5_touchPoint_23 : decode cX5_touchPoint 23 = .ok (.getfield 198, 3) := dl_o180 kcX5_touchPoint (by decide +kernel)
theorem dX5_touchPoint_26 : decode cX5_touchPoint 26 = .ok (.iload_n 2, 1) := dl_o28 kcX5_touchPoint (by decide +kernel)
theorem dX5_touchPoint_27 : decode cX5_touchPoint 27 = .ok (.iaload, 1) := dl_o46 kcX5_touchPoint (by decide +kernel)
theorem dX5_touchPoint_28 : decode cX5_touchPoint 28 = .ok (.i2l, 1) := dl_o133 kcX5_touchPoint (by decide +kernel)
theorem dX5_touchPoint_29 : decode cX5_touchPoint 29 = .ok (.aload_n 3, 1) := dl_o45 kcX5_touchPoint (by decide +kernel)
theorem dX5_touchPoint_30 : decode cX5_touchPoint 30 = .ok (.getfield 201, 3) := dl_o180 kcX5_touchPoint (by decide +kernel)
theorem dX5_touchPoint_33 : decode cX5_touchPoint 33 = .ok (.iload_n 2, 1) := dl_o28 kcX5_touchPoint (by decide +kernel)
theorem dX5_touchPoint_34 : decode cX5_touchPoint 34 = .ok (.iaload, 1) := dl_o46 kcX5_touchPoint (by decide +kernel)
theorem dX5_touchPoint_35 : decode cX5_touchPoint 35 = .ok (.i2l, 1) := dl_o133 kcX5_touchPoint (by decide +kernel)
theorem dX5_touchPoint_36 : decode cX5_touchPoint 36 = .ok (.invokevirtual 465, 3) := dl_o182 kcX5_touchPoint (by decide +kernel)
theorem dX5_touchPoint_39 : decode cX5_touchPoint 39 = .ok (.lstore 4, 2) := dl_o55 kcX5_touchPoint (by decide +kernel)
theorem dX5_touchPoint_41 : decode cX5_touchPoint 41 = .ok (.aload_n 0, 1) := dl_o42 kcX5_touchPoint (by decide +kernel)
theorem dX5_touchPoint_42 : decode cX5_touchPoint 42 = .ok (.aload_n 3, 1) := dl_o45 kcX5_touchPoint (by decide +kernel)
theorem dX5_touchPoint_43 : decode cX5_touchPoint 43 = .ok (.iload_n 2, 1) := dl_o28 kcX5_touchPoint (by decide +kernel)
theorem dX5_touchPoint_44 : decode cX5_touchPoint 44 = .ok (.iload_n 1, 1) := dl_o27 kcX5_touchPoint (by decide +kernel)
theorem dX5_touchPoint_45 : decode cX5_touchPoint 45 = .ok (.bipush 47, 2) := dl_o16 kcX5_touchPoint 47 (by decide +kernel) (by decide +kernel)
theorem dX5_touchPoint_47 : decode cX5_touchPoint 47 = .ok (.if_icmp .ne 18, 3) := dl_o160 kcX5_touchPoint 18 (by decide +kernel) (by decide +kernel)
theorem dX5_touchPoint_50 : decode cX5_touchPoint 50 = .ok (.aload_n 0, 1) := dl_o42 kcX5_touchPoint (by decide +kernel)
theorem dX5_touchPoint_51 : decode cX5_touchPoint 51 = .ok (.getfield 12, 3) := dl_o180 kcX5_touchPoint (by decide +kernel)
theorem dX5_touchPoint_54 : decode cX5_touchPoint 54 = .ok (.lload 4, 2) := dl_o22 kcX5_touchPoint (by decide +kernel)
theorem dX5_touchPoint_56 : decode cX5_touchPoint 56 = .ok (.invokevirtual 414, 3) := dl_o182 kcX5_touchPoint (by decide +kernel)
theorem dX5_touchPoint_59 : decode cX5_touchPoint 59 = .ok (.lload 4, 2) := dl_o22 kcX5_touchPoint (by decide +kernel)
theorem dX5_touchPoint_61 : decode cX5_touchPoint 61 = .ok (.lsub, 1) := dl_o101 kcX5_touchPoint (by decide +kernel)
theorem dX5_touchPoint_62 : decode cX5_touchPoint 62 = .ok (.goto 4, 3) := dl_o167 kcX5_touchPoint 4 (by decide +kernel) (by decide +kernel)
theorem dX5_touchPoint_65 : decode cX5_touchPoint 65 = .ok (.lconst 0, 1) := dl_o9 kcX5_touchPoint (by decide +kernel)
theorem dX5_touchPoint_66 : decode cX5_touchPoint 66 = .ok (.invokevirtual 461, 3) := dl_o182 kcX5_touchPoint (by decide +kernel)
theorem dX5_touchPoint_69 : decode cX5_touchPoint 69 = .ok (.aload_n 0, 1) := dl_o42 kcX5_touchPoint (by decide +kernel)
theorem dX5_touchPoint_70 : decode cX5_touchPoint 70 = .ok (.getfield 12, 3) := dl_o180 kcX5_touchPoint (by decide +kernel)
theorem dX5_touchPoint_73 : decode cX5_touchPoint 73 = .ok (.getfield 275, 3) := dl_o180 kcX5_touchPoint (by decide +kernel)
theorem dX5_touchPoint_76 : decode cX5_touchPoint 76 = .ok (.iconst 0, 1) := dl_o3 kcX5_touchPoint (by decide +kernel)
theorem dX5_touchPoint_77 : decode cX5_touchPoint 77 = .ok (.iload_n 2, 1) := dl_o28 kcX5_touchPoint (by decide +kernel)
theorem dX5_touchPoint_78 : decode cX5_touchPoint 78 = .ok (.iastore, 1) := dl_o79 kcX5_touchPoint (by decide +kernel)
theorem dX5_touchPoint_79 : decode cX5_touchPoint 79 = .ok (.aload_n 0, 1) := dl_o42 kcX5_touchPoint (by decide +kernel)
theorem dX5_touchPoint_80 : decode cX5_touchPoint 80 = .ok (.getfield 12, 3) := dl_o180 kcX5_touchPoint (by decide +kernel)
theorem dX5_touchPoint_83 : decode cX5_touchPoint 83 = .ok (.getfield 275, 3) := dl_o180 kcX5_touchPoint (by decide +kernel)
theorem dX5_touchPoint_86 : decode cX5_touchPoint 86 = .ok (.iconst 1, 1) := dl_o4 kcX5_touchPoint (by decide +kernel)
theorem dX5_touchPoint_87 : decode cX5_touchPoint 87 = .ok (.iload_n 2, 1) := dl_o28 kcX5_touchPoint (by decide +kernel)
theorem dX5_touchPoint_88 : decode cX5_touchPoint 88 = .ok (.iastore, 1) := dl_o79 kcX5_touchPoint (by decide +kernel)
theorem dX5_touchPoint_89 : decode cX5_touchPoint 89 = .ok (.return_, 1) := dl_o177 kcX5_touchPoint (by decide +kernel)
def B_X5_touchPoint_66  (l2 : Int32) (s1 : Nat) (s2 : Int32) (s3 : Int64) (V : sv_V) : Option sv_V := (F_X5_move s1 s2 s3 V).bind (fun V1 => sx_let (sv_I V1 71 (0 : Int32).toNatClampNeg l2) (fun V3 => sx_let (sv_I V3 71 (1 : Int32).toNatClampNeg l2) (fun V4 => some V4)))
set_option maxRecDepth 20000 in
theorem tB_X5_touchPoint_66 {g : sx_G} (hG : sx_Go g) {P : Option Value → sv_V → Prop} {Vr : sv_V} (hP : P none Vr)   {l2 : Int32} {s1 : Nat} {s2 : Int32} {s3 : Int64} {V : sv_V} (h : B_X5_touchPoint_66  l2 s1 s2 s3 V = some Vr) : sv_N g qX5_touchPoint 2 66 [(0, .ref 69), (2, .int l2)] [.long s3, .int s2, .ref s1, .ref 69] V P := by
  unfold B_X5_touchPoint_66 at h
  obtain ⟨V1, g2, h⟩ := sx_bnd h
  refine sv_cV (pc := 66) (y := qX5_move) (o := none) (as := [.ref s1, .int s2, .long s3]) (V1 := V1) hG dX5_touchPoint_66 l_X5_461 y0X5_move yvX5_move rfl (Nat.le_of_ble_eq_true rfl) lay_69 kr_5 (by decide) (Nat.le_of_ble_eq_true rfl) rfl rfl rfl (t_X5_move hG ⟨rfl, rfl⟩ g2) ?_
  refine sx_aload_n (pc := 69) dX5_touchPoint_69 sx_m0 ?_
  refine sv_getO (pc := 70) hG dX5_touchPoint_70 f_5_12 lay_69 rfl cr_69_1 ?_
  refine sv_getA (pc := 73) hG dX5_touchPoint_73 f_5_275 lay_70 rfl cr_70_6 ?_
  refine sx_iconst (pc := 76) (v := 0) dX5_touchPoint_76 (by decide) ?_
  refine sx_iload_n (pc := 77) dX5_touchPoint_77 sx_m1 ?_
  obtain ⟨V3, hV3⟩ : ∃ z : sv_V, z = sv_I V1 71 (0 : Int32).toNatClampNeg l2 := ⟨_, rfl⟩
  have h := sx_letE hV3 h
  refine sv_iast (pc := 78) hG dX5_touchPoint_78 lay_71 (by decide) hV3 ?_
  refine sx_aload_n (pc := 79) dX5_touchPoint_79 sx_m0 ?_
  refine sv_getO (pc := 80) hG dX5_touchPoint_80 f_5_12 lay_69 rfl cr_69_1 ?_
  refine sv_getA (pc := 83) hG dX5_touchPoint_83 f_5_275 lay_70 rfl cr_70_6 ?_
  refine sx_iconst (pc := 86) (v := 1) dX5_touchPoint_86 (by decide) ?_
  refine sx_iload_n (pc := 87) dX5_touchPoint_87 sx_m1 ?_
  obtain ⟨V4, hV4⟩ : ∃ z : sv_V, z = sv_I V3 71 (1 : Int32).toNatClampNeg l2 := ⟨_, rfl⟩
  have h := sx_letE hV4 h
  refine sv_iast (pc := 88) hG dX5_touchPoint_88 lay_71 (by decide) hV4 ?_
  exact sv_vret (pc := 89) dX5_touchPoint_89 rfl h hP
def F_X5_touchPoint (l1 : Int32) (V : sv_V) : Option sv_V := (F_X5_pop  V).bind (fun (x7, V5) => (F_X5_zone (0 : Int32) V5).bind (fun (x10, V8) => (F_X5_isThere x10 x7 V8).bind (fun (x13, V11) => if x13 = 0 then (some V11) else (if lay x10 = .inl 8 then (cr x10 0).bind (fun b16 => (sv_len 0 b16).bind (fun n18 => if sx_in x7 n18 = true then (cr x10 1).bind (fun b21 => (sv_len 0 b21).bind (fun n23 => if sx_in x7 n23 = true then (F_X5_longByP ((V11.1 b16 x7.toNatClampNeg).toInt64) ((V11.1 b21 x7.toNatClampNeg).toInt64) V11).bind (fun (x28, V26) => if l1 = (47 : Int32) then ((F_X9_rounded x28 V26).bind (fun (x32, V30) => B_X5_touchPoint_66  x7 x10 x7 (x32 - x28) V30)) else (B_X5_touchPoint_66  x7 x10 x7 (0 : Int64) V26)) else none)) else none)) else none))))
set_option maxRecDepth 20000 in
theorem t_X5_touchPoint {g : sx_G} (hG : sx_Go g) {P : Option Value → sv_V → Prop} {Vr : sv_V} (hP : P none Vr) {l1 : Int32} {V : sv_V} (h : F_X5_touchPoint l1 V = some Vr) : sv_N g qX5_touchPoint 2 0 [(0, .ref 69), (1, .int l1)] [] V P := by
  unfold F_X5_touchPoint at h
  refine sx_aload_n (pc := 0) dX5_touchPoint_0 sx_m0 ?_
  obtain ⟨⟨x7, V5⟩, g6, h⟩ := sx_bnd h
  refine sv_cV (pc := 1) (y := qX5_pop) (o := (some (.int x7))) (as := []) (V1 := V5) hG dX5_touchPoint_1 l_X5_242 y0X5_pop yvX5_pop rfl (Nat.le_of_ble_eq_true rfl) lay_69 kr_5 (by decide) (Nat.le_of_ble_eq_true rfl) rfl rfl rfl (t_X5_pop hG ⟨rfl, rfl⟩ g6) ?_
  refine sx_istore_n (pc := 4) (lo' := [(2, .int x7), (0, .ref 69), (1, .int l1)]) dX5_touchPoint_4 (by decide) rfl ?_
  refine sx_aload_n (pc := 5) dX5_touchPoint_5 sx_m1 ?_
  refine sx_iconst (pc := 6) (v := 0) dX5_touchPoint_6 (by decide) ?_
  obtain ⟨⟨x10, V8⟩, g9, h⟩ := sx_bnd h
  refine sv_cV (pc := 7) (y := qX5_zone) (o := (some (.ref x10))) (as := [.int (0 : Int32)]) (V1 := V8) hG dX5_touchPoint_7 l_X5_255 y0X5_zone yvX5_zone rfl (Nat.le_of_ble_eq_true rfl) lay_69 kr_5 (by decide) (Nat.le_of_ble_eq_true rfl) rfl rfl rfl (t_X5_zone hG ⟨rfl, rfl⟩ g9) ?_
  refine sx_astore_n (pc := 10) (lo' := [(3, .ref x10), (2, .int x7), (0, .ref 69), (1, .int l1)]) dX5_touchPoint_10 (by decide) rfl ?_
  refine sx_aload_n (pc := 11) dX5_touchPoint_11 sx_m2 ?_
  refine sx_aload_n (pc := 12) dX5_touchPoint_12 sx_m0 ?_
  refine sx_iload_n (pc := 13) dX5_touchPoint_13 sx_m1 ?_
  obtain ⟨⟨x13, V11⟩, g12, h⟩ := sx_bnd h
  refine sv_cV (pc := 14) (y := qX5_isThere) (o := (some (.int x13))) (as := [.ref x10, .int x7]) (V1 := V11) hG dX5_touchPoint_14 l_X5_259 y0X5_isThere yvX5_isThere rfl (Nat.le_of_ble_eq_true rfl) lay_69 kr_5 (by decide) (Nat.le_of_ble_eq_true rfl) rfl rfl rfl (t_X5_isThere hG ⟨rfl, rfl⟩ g12) ?_
  refine sx_if_ne (pc := 17) (tgt := 21) dX5_touchPoint_17 (by decide) (fun c14 => ?_) (fun c14 => ?_)
  · have h := sx_neg c14 h
    refine sx_aload_n (pc := 21) dX5_touchPoint_21 sx_m2 ?_
    refine sx_aload_n (pc := 22) dX5_touchPoint_22 sx_m0 ?_
    obtain ⟨g15, h⟩ := sx_grd h
    obtain ⟨b16, g17, h⟩ := sx_bnd h
    refine sv_getA (pc := 23) hG dX5_touchPoint_23 f_5_198 g15 rfl g17 ?_
    refine sx_iload_n (pc := 26) dX5_touchPoint_26 sx_m1 ?_
    obtain ⟨n18, g19, h⟩ := sx_bnd h
    obtain ⟨g20, h⟩ := sx_grd h
    refine sv_iald (pc := 27) hG dX5_touchPoint_27 (sv_len_e g19) g20 ?_
    refine sx_i2l (pc := 28) dX5_touchPoint_28 ?_
    refine sx_aload_n (pc := 29) dX5_touchPoint_29 sx_m0 ?_
    obtain ⟨b21, g22, h⟩ := sx_bnd h
    refine sv_getA (pc := 30) hG dX5_touchPoint_30 f_5_201 g15 rfl g22 ?_
    refine sx_iload_n (pc := 33) dX5_touchPoint_33 sx_m1 ?_
    obtain ⟨n23, g24, h⟩ := sx_bnd h
    obtain ⟨g25, h⟩ := sx_grd h
    refine sv_iald (pc := 34) hG dX5_touchPoint_34 (sv_len_e g24) g25 ?_
    refine sx_i2l (pc := 35) dX5_touchPoint_35 ?_
    obtain ⟨⟨x28, V26⟩, g27, h⟩ := sx_bnd h
    refine sv_cV (pc := 36) (y := qX5_longByP) (o := (some (.long x28))) (as := [.long ((V11.1 b16 x7.toNatClampNeg).toInt64), .long ((V11.1 b21 x7.toNatClampNeg).toInt64)]) (V1 := V26) hG dX5_touchPoint_36 l_X5_465 y0X5_longByP yvX5_longByP rfl (Nat.le_of_ble_eq_true rfl) lay_69 kr_5 (by decide) (Nat.le_of_ble_eq_true rfl) rfl rfl rfl (t_X5_longByP hG ⟨rfl, rfl⟩ g27) ?_
    refine sx_lstore (pc := 39) (lo' := [(4, .long x28), (3, .ref x10), (2, .int x7), (0, .ref 69), (1, .int l1)]) dX5_touchPoint_39 (by decide) rfl ?_
    refine sx_aload_n (pc := 41) dX5_touchPoint_41 sx_m3 ?_
    refine sx_aload_n (pc := 42) dX5_touchPoint_42 sx_m1 ?_
    refine sx_iload_n (pc := 43) dX5_touchPoint_43 sx_m2 ?_
    refine sx_iload_n (pc := 44) dX5_touchPoint_44 sx_m4 ?_
    refine sx_bipush (pc := 45) (v := 47) dX5_touchPoint_45 (by decide) ?_
    refine sx_icmp_ne (pc := 47) (tgt := 65) dX5_touchPoint_47 (by decide) (fun c29 => ?_) (fun c29 => ?_)
    · have h := sx_neg c29 h
      refine sx_lconst (pc := 65) (v := 0) dX5_touchPoint_65 rfl ?_
      refine sx_wk (sx_s1 sx_m3 (sx_s1 sx_m2 sx_s0)) ?_
      exact tB_X5_touchPoint_66 hG hP  h
    · have h := sx_pos c29 h
      refine sx_aload_n (pc := 50) dX5_touchPoint_50 sx_m3 ?_
      refine sv_getO (pc := 51) hG dX5_touchPoint_51 f_5_12 lay_69 rfl cr_69_1 ?_
      refine sx_lload (pc := 54) dX5_touchPoint_54 sx_m0 ?_
      obtain ⟨⟨x32, V30⟩, g31, h⟩ := sx_bnd h
      refine sv_cV (pc := 56) (y := qX9_rounded) (o := (some (.long x32))) (as := [.long x28]) (V1 := V30) hG dX5_touchPoint_56 l_X5_414 y0X9_rounded yvX9_rounded rfl (Nat.le_of_ble_eq_true rfl) lay_70 kr_9 (by decide) (Nat.le_of_ble_eq_true rfl) rfl rfl rfl (t_X9_rounded hG ⟨rfl, rfl⟩ g31) ?_
      refine sx_lload (pc := 59) dX5_touchPoint_59 sx_m0 ?_
      refine sx_lsub (pc := 61) dX5_touchPoint_61 ?_
      refine sx_goto (pc := 62) (tgt := 66) dX5_touchPoint_62 (by decide) ?_
      refine sx_wk (sx_s1 sx_m3 (sx_s1 sx_m2 sx_s0)) ?_
      exact tB_X5_touchPoint_66 hG hP  h
  · have h := sx_pos c14 h
    exact sv_vret (pc := 20) dX5_touchPoint_20 rfl h hP
def ncX5_fillUntouched : Nat := 35085918121087278189606781206794556614767204965678391084574111141391483348160055913315035331137600803245666810272226541183869635242914682129653972741726614069936427668916209593969444625701987974148574454801107126769093188200168243370164088392801166626092913484764725132874659114819640316485513321744480150664679687727625731
theorem kcX5_fillUntouched : CK cX5_fillUntouched ncX5_fillUntouched 134 := ⟨by decide +kernel, by decide +kernel⟩
theorem dX5_fillUntouched_0 : decode cX5_fillUntouched 0 = .ok (.iconst 0, 1) := dl_o3 kcX5_fillUntouched (by decide +kernel)
theorem dX5_fillUntouched_1 : decode cX5_fillUntouched 1 = .ok (.istore 4, 2) := dl_o54 kcX5_fillUntouched (by decide +kernel)
theorem dX5_fillUntouched_3 : decode cX5_fillUntouched 3 = .ok (.iload 4, 2) := dl_o21 kcX5_fillUntouched (by decide +kernel)
theorem dX5_fillUntouched_5 : decode cX5_fillUntouched 5 = .ok (.aload_n 0, 1) := dl_o42 kcX5_fillUntouched (by decide +kernel)
theorem dX5_fillUntouched_6 : decode cX5_fillUntouched 6 = .ok (.getfield 38, 3) := dl_o180 kcX5_fillUntouched (by decide +kernel)
theorem dX5_fillUntouched_9 : decode cX5_fillUntouched 9 = .ok (.getfield 480, 3) := dl_o180 kcX5_fillUntouched (by decide +kernel)
theorem dX5_fillUntouched_12 : decode cX5_fillUntouched 12 = .ok (.if_icmp .ge 121, 3) := dl_o162 kcX5_fillUntouched 121 (by decide +kernel) (by decide +kernel)
theorem dX5_fillUntouched_15 : decode cX5_fillUntouched 15 = .ok (.aload_n 0, 1) := dl_o42 kcX5_fillUntouched (by decide +kernel)
theorem dX5_fillUntouched_16 : decode cX5_fillUntouched 16 = .ok (.getfield 38, 3) := dl_o180 kcX5_fillUntouched (by decide +kernel)
theorem dX5_fillUntouched_19 : decode cX5_fillUntouched 19 = .ok (.iload 4, 2) := dl_o21 kcX5_fillUntouched (by decide +kernel)
theorem dX5_fillUntouched_21 : decode cX5_fillUntouched 21 = .ok (.invokevirtual 483, 3) := dl_o182 kcX5_fillUntouched (by decide +kernel)
theorem dX5_fillUntouched_24 : decode cX5_fillUntouched 24 = .ok (.istore 5, 2) := dl_o54 kcX5_fillUntouched (by decide +kernel)
theorem dX5_fillUntouched_26 : decode cX5_fillUntouched 26 = .ok (.aload_n 0, 1) := dl_o42 kcX5_fillUntouched (by decide +kernel)
theorem dX5_fillUntouched_27 : decode cX5_fillUntouched 27 = .ok (.getfield 38, 3) := dl_o180 kcX5_fillUntouched (by decide +kernel)
theorem dX5_fillUntouched_30 : decode cX5_fillUntouched 30 = .ok (.getfield 486, 3) := dl_o180 kcX5_fillUntouched (by decide +kernel)
theorem dX5_fillUntouched_33 : decode cX5_fillUntouched 33 = .ok (.iload 4, 2) := dl_o21 kcX5_fillUntouched (by decide +kernel)
theorem dX5_fillUntouched_35 : decode cX5_fillUntouched 35 = .ok (.iaload, 1) := dl_o46 kcX5_fillUntouched (by decide +kernel)
theorem dX5_fillUntouched_36 : decode cX5_fillUntouched 36 = .ok (.iload 5, 2) := dl_o21 kcX5_fillUntouched (by decide +kernel)
theorem dX5_fillUntouched_38 : decode cX5_fillUntouched 38 = .ok (.isub, 1) := dl_o100 kcX5_fillUntouched (by decide +kernel)
theorem dX5_fillUntouched_39 : decode cX5_fillUntouched 39 = .ok (.iconst 1, 1) := dl_o4 kcX5_fillUntouched (by decide +kernel)
theorem dX5_fillUntouched_40 : decode cX5_fillUntouched 40 = .ok (.iadd, 1) := dl_o96 kcX5_fillUntouched (by decide +kernel)
theorem dX5_fillUntouched_41 : decode cX5_fillUntouched 41 = .ok (.istore 6, 2) := dl_o54 kcX5_fillUntouched (by decide +kernel)
theorem dX5_fillUntouched_43 : decode cX5_fillUntouched 43 = .ok (.aload_n 0, 1) := dl_o42 kcX5_fillUntouched (by decide +kernel)
theorem dX5_fillUntouched_44 : decode cX5_fillUntouched 44 = .ok (.iload 5, 2) := dl_o21 kcX5_fillUntouched (by decide +kernel)
theorem dX5_fillUntouched_46 : decode cX5_fillUntouched 46 = .ok (.iload 6, 2) := dl_o21 kcX5_fillUntouched (by decide +kernel)
theorem dX5_fillUntouched_48 : decode cX5_fillUntouched 48 = .ok (.iload_n 3, 1) := dl_o29 kcX5_fillUntouched (by decide +kernel)
theorem dX5_fillUntouched_49 : decode cX5_fillUntouched 49 = .ok (.invokevirtual 487, 3) := dl_o182 kcX5_fillUntouched (by decide +kernel)
theorem dX5_fillUntouched_52 : decode cX5_fillUntouched 52 = .ok (.istore 7, 2) := dl_o54 kcX5_fillUntouched (by decide +kernel)
theorem dX5_fillUntouched_54 : decode cX5_fillUntouched 54 = .ok (.iload 7, 2) := dl_o21 kcX5_fillUntouched (by decide +kernel)
theorem dX5_fillUntouched_56 : decode cX5_fillUntouched 56 = .ok (.istore 8, 2) := dl_o54 kcX5_fillUntouched (by decide +kernel)
theorem dX5_fillUntouched_58 : decode cX5_fillUntouched 58 = .ok (.iconst 1, 1) := dl_o4 kcX5_fillUntouched (by decide +kernel)
theorem dX5_fillUntouched_59 : decode cX5_fillUntouched 59 = .ok (.istore 9, 2) := dl_o54 kcX5_fillUntouched (by decide +kernel)
theorem dX5_fillUntouched_61 : decode cX5_fillUntouched 61 = .ok (.iload 7, 2) := dl_o21 kcX5_fillUntouched (by decide +kernel)
theorem dX5_fillUntouched_63 : decode cX5_fillUntouched 63 = .ok (.iconst (-1), 1) := dl_o2 kcX5_fillUntouched (by decide +kernel)
theorem dX5_fillUntouched_64 : decode cX5_fillUntouched 64 = .ok (.if_icmp .eq 63, 3) := dl_o159 kcX5_fillUntouched 63 (by decide +kernel) (by decide +kernel)
theorem dX5_fillUntouched_67 : decode cX5_fillUntouched 67 = .ok (.iload 9, 2) := dl_o21 kcX5_fillUntouched (by decide +kernel)
theorem dX5_fillUntouched_69 : decode cX5_fillUntouched 69 = .ok (.iload 6, 2) := dl_o21 kcX5_fillUntouched (by decide +kernel)
theorem dX5_fillUntouched_71 : decode cX5_fillUntouched 71 = .ok (.if_icmp .gt 56, 3) := dl_o163 kcX5_fillUntouched 56 (by decide +kernel) (by decide +kernel)
theorem dX5_fillUntouched_74 : decode cX5_fillUntouched 74 = .ok (.iload 5, 2) := dl_o21 kcX5_fillUntouched (by decide +kernel)
theorem dX5_fillUntouched_76 : decode cX5_fillUntouched 76 = .ok (.iload 7, 2) := dl_o21 kcX5_fillUntouched (by decide +kernel)
theorem dX5_fillUntouched_78 : decode cX5_fillUntouched 78 = .ok (.iload 5, 2) := dl_o21 kcX5_fillUntouched (by decide +kernel)
theorem dX5_fillUntouched_80 : decode cX5_fillUntouched 80 = .ok (.isub, 1) := dl_o100 kcX5_fillUntouched (by decide +kernel)
theorem dX5_fillUntouched_81 : decode cX5_fillUntouched 81 = .ok (.iload 9, 2) := dl_o21 kcX5_fillUntouched (by decide +kernel)
theorem dX5_fillUntouched_83 : decode cX5_fillUntouched 83 = .ok (.iadd, 1) := dl_o96 kcX5_fillUntouched (by decide +kernel)
theorem dX5_fillUntouched_84 : decode cX5_fillUntouched 84 = .ok (.iload 6, 2) := dl_o21 kcX5_fillUntouched (by decide +kernel)
theorem dX5_fillUntouched_86 : decode cX5_fillUntouched 86 = .ok (.irem, 1) := dl_o112 kcX5_fillUntouched (by decide +kernel)
theorem dX5_fillUntouched_87 : decode cX5_fillUntouched 87 = .ok (.iadd, 1) := dl_o96 kcX5_fillUntouched (by decide +kernel)
theorem dX5_fillUntouched_88 : decode cX5_fillUntouched 88 = .ok (.istore 10, 2) := dl_o54 kcX5_fillUntouched (by decide +kernel)
theorem dX5_fillUntouched_90 : decode cX5_fillUntouched 90 = .ok (.aload_n 0, 1) := dl_o42 kcX5_fillUntouched (by decide +kernel)
theorem dX5_fillUntouched_91 : decode cX5_fillUntouched 91 = .ok (.getfield 38, 3) := dl_o180 kcX5_fillUntouched (by decide +kernel)
theorem dX5_fillUntouched_94 : decode cX5_fillUntouched 94 = .ok (.getfield 220, 3) := dl_o180 kcX5_fillUntouched (by decide +kernel)
theorem dX5_fillUntouched_97 : decode cX5_fillUntouched 97 = .ok (.iload 10, 2) := dl_o21 kcX5_fillUntouched (by decide +kernel)
theorem dX5_fillUntouched_99 : decode cX5_fillUntouched 99 = .ok (.iaload, 1) := dl_o46 kcX5_fillUntouched (by decide +kernel)
theorem dX5_fillUntouched_100 : decode cX5_fillUntouched 100 = .ok (.iload_n 3, 1) := dl_o29 kcX5_fillUntouched (by decide +kernel)
theorem dX5_fillUntouched_101 : decode cX5_fillUntouched 101 = .ok (.iand, 1) := dl_o126 kcX5_fillUntouched (by decide +kernel)
theorem dX5_fillUntouched_102 : decode cX5_fillUntouched 102 = .ok (.ifCond .eq 19, 3) := dl_o153 kcX5_fillUntouched 19 (by decide +kernel) (by decide +kernel)
theorem dX5_fillUntouched_105 : decode cX5_fillUntouched 105 = .ok (.aload_n 0, 1) := dl_o42 kcX5_fillUntouched (by decide +kernel)
theorem dX5_fillUntouched_106 : decode cX5_fillUntouched 106 = .ok (.aload_n 1, 1) := dl_o43 kcX5_fillUntouched (by decide +kernel)
theorem dX5_fillUntouched_107 : decode cX5_fillUntouched 107 = .ok (.aload_n 2, 1) := dl_o44 kcX5_fillUntouched (by decide +kernel)
theorem dX5_fillUntouched_108 : decode cX5_fillUntouched 108 = .ok (.iload 8, 2) := dl_o21 kcX5_fillUntouched (by decide +kernel)
theorem dX5_fillUntouched_110 : decode cX5_fillUntouched 110 = .ok (.iload 10, 2) := dl_o21 kcX5_fillUntouched (by decide +kernel)
theorem dX5_fillUntouched_112 : decode cX5_fillUntouched 112 = .ok (.iload 4, 2) := dl_o21 kcX5_fillUntouched (by decide +kernel)
theorem dX5_fillUntouched_114 : decode cX5_fillUntouched 114 = .ok (.invokevirtual 491, 3) := dl_o182 kcX5_fillUntouched (by decide +kernel)
theorem dX5_fillUntouched_117 : decode cX5_fillUntouched 117 = .ok (.iload 10, 2) := dl_o21 kcX5_fillUntouched (by decide +kernel)
theorem dX5_fillUntouched_119 : decode cX5_fillUntouched 119 = .ok (.istore 8, 2) := dl_o54 kcX5_fillUntouched (by decide +kernel)
theorem dX5_fillUntouched_121 : decode cX5_fillUntouched 121 = .ok (.iinc 9 1, 3) := by decide +kernel
theorem dX5_fillUntouched_124 : decode cX5_fillUntouched 124 = .ok (.goto (-63), 3) := dl_o167 kcX5_fillUntouched 65473 (by decide +kernel) (by decide +kernel)
theorem dX5_fillUntouched_127 : decode cX5_fillUntouched 127 = .ok (.iinc 4 1, 3) := by decide +kernel
theorem dX5_fillUntouched_130 : decode cX5_fillUntouched 130 = .ok (.goto (-127), 3) := dl_o167 kcX5_fillUntouched 65409 (by decide +kernel) (by decide +kernel)
theorem dX5_fillUntouched_133 : decode cX5_fillUntouched 133 = .ok (.return_, 1) := dl_o177 kcX5_fillUntouched (by decide +kernel)
def B_X5_fillUntouched_121 (N : Nat) (k3 : Nat → Nat → Int32 → Int32 → sv_V → Option sv_V) (k61 : Nat → Nat → Int32 → Int32 → Int32 → Int32 → Int32 → Int32 → Int32 → sv_V → Option sv_V) (l1 : Nat) (l2 : Nat) (l3 : Int32) (l4 : Int32) (l5 : Int32) (l6 : Int32) (l7 : Int32) (l8 : Int32) (l9 : Int32) (V : sv_V) : Option sv_V := sx_let (l9 + 1) (fun x1 => k61 l1 l2 l3 l4 l5 l6 l7 l8 x1 V)
set_option maxRecDepth 20000 in
theorem tB_X5_fillUntouched_121 {g : sx_G} (hG : sx_Go g) {P : Option Value → sv_V → Prop} {Vr : sv_V} (hP : P none Vr) {N : Nat} {k3 : Nat → Nat → Int32 → Int32 → sv_V → Option sv_V} {k61 : Nat → Nat → Int32 → Int32 → Int32 → Int32 → Int32 → Int32 → Int32 → sv_V → Option sv_V} (hk3 : ∀ (l1 : Nat) (l2 : Nat) (l3 : Int32) (l4 : Int32) (V : sv_V), k3 l1 l2 l3 l4 V = some Vr → sv_N g qX5_fillUntouched 2 3 [(0, .ref 69), (1, .ref l1), (2, .ref l2), (3, .int l3), (4, .int l4)] [] V P) (hk61 : ∀ (l1 : Nat) (l2 : Nat) (l3 : Int32) (l4 : Int32) (l5 : Int32) (l6 : Int32) (l7 : Int32) (l8 : Int32) (l9 : Int32) (V : sv_V), k61 l1 l2 l3 l4 l5 l6 l7 l8 l9 V = some Vr → sv_N g qX5_fillUntouched 2 61 [(0, .ref 69), (1, .ref l1), (2, .ref l2), (3, .int l3), (4, .int l4), (5, .int l5), (6, .int l6), (7, .int l7), (8, .int l8), (9, .int l9)] [] V P) {l1 : Nat} {l2 : Nat} {l3 : Int32} {l4 : Int32} {l5 : Int32} {l6 : Int32} {l7 : Int32} {l8 : Int32} {l9 : Int32} {V : sv_V} (h : B_X5_fillUntouched_121 N k3 k61 l1 l2 l3 l4 l5 l6 l7 l8 l9 V = some Vr) : sv_N g qX5_fillUntouched 2 121 [(0, .ref 69), (1, .ref l1), (2, .ref l2), (3, .int l3), (4, .int l4), (5, .int l5), (6, .int l6), (7, .int l7), (8, .int l8), (9, .int l9)] [] V P := by
  unfold B_X5_fillUntouched_121 at h
  obtain ⟨x1, hx1⟩ : ∃ z : Int32, z = l9 + 1 := ⟨_, rfl⟩
  have h := sx_letE hx1 h
  refine sx_iinc (pc := 121) (v := x1) (lo' := [(9, .int x1), (0, .ref 69), (1, .ref l1), (2, .ref l2), (3, .int l3), (4, .int l4), (5, .int l5), (6, .int l6), (7, .int l7), (8, .int l8)]) dX5_fillUntouched_121 sx_m9 (by rw [hx1]; rfl) (by decide) rfl ?_
  refine sx_goto (pc := 124) (tgt := 61) dX5_fillUntouched_124 (by decide) ?_
  refine sx_wk (sx_s1 sx_m1 (sx_s1 sx_m2 (sx_s1 sx_m3 (sx_s1 sx_m4 (sx_s1 sx_m5 (sx_s1 sx_m6 (sx_s1 sx_m7 (sx_s1 sx_m8 (sx_s1 sx_m9 (sx_s1 sx_m0 sx_s0)))))))))) ?_
  exact hk61 _ _ _ _ _ _ _ _ _ _ h
def B_X5_fillUntouched_127 (N : Nat) (k3 : Nat → Nat → Int32 → Int32 → sv_V → Option sv_V) (l1 : Nat) (l2 : Nat) (l3 : Int32) (l4 : Int32) (V : sv_V) : Option sv_V := sx_let (l4 + 1) (fun x2 => k3 l1 l2 l3 x2 V)
set_option maxRecDepth 20000 in
theorem tB_X5_fillUntouched_127 {g : sx_G} (hG : sx_Go g) {P : Option Value → sv_V → Prop} {Vr : sv_V} (hP : P none Vr) {N : Nat} {k3 : Nat → Nat → Int32 → Int32 → sv_V → Option sv_V} (hk3 : ∀ (l1 : Nat) (l2 : Nat) (l3 : Int32) (l4 : Int32) (V : sv_V), k3 l1 l2 l3 l4 V = some Vr → sv_N g qX5_fillUntouched 2 3 [(0, .ref 69), (1, .ref l1), (2, .ref l2), (3, .int l3), (4, .int l4)] [] V P) {l1 : Nat} {l2 : Nat} {l3 : Int32} {l4 : Int32} {V : sv_V} (h : B_X5_fillUntouched_127 N k3 l1 l2 l3 l4 V = some Vr) : sv_N g qX5_fillUntouched 2 127 [(0, .ref 69), (1, .ref l1), (2, .ref l2), (3, .int l3), (4, .int l4)] [] V P := by
  unfold B_X5_fillUntouched_127 at h
  obtain ⟨x2, hx2⟩ : ∃ z : Int32, z = l4 + 1 := ⟨_, rfl⟩
  have h := sx_letE hx2 h
  refine sx_iinc (pc := 127) (v := x2) (lo' := [(4, .int x2), (0, .ref 69), (1, .ref l1), (2, .ref l2), (3, .int l3)]) dX5_fillUntouched_127 sx_m4 (by rw [hx2]; rfl) (by decide) rfl ?_
  refine sx_goto (pc := 130) (tgt := 3) dX5_fillUntouched_130 (by decide) ?_
  refine sx_wk (sx_s1 sx_m1 (sx_s1 sx_m2 (sx_s1 sx_m3 (sx_s1 sx_m4 (sx_s1 sx_m0 sx_s0))))) ?_
  exact hk3 _ _ _ _ _ h
def B_X5_fillUntouched_61 (N : Nat) (k3 : Nat → Nat → Int32 → Int32 → sv_V → Option sv_V) (k61 : Nat → Nat → Int32 → Int32 → Int32 → Int32 → Int32 → Int32 → Int32 → sv_V → Option sv_V) (l1 : Nat) (l2 : Nat) (l3 : Int32) (l4 : Int32) (l5 : Int32) (l6 : Int32) (l7 : Int32) (l8 : Int32) (l9 : Int32) (V : sv_V) : Option sv_V := if l7 = (-1 : Int32) then (B_X5_fillUntouched_127 N k3 l1 l2 l3 l4 V) else (if l6 < l9 then (B_X5_fillUntouched_127 N k3 l1 l2 l3 l4 V) else (if ¬ l6 = 0 then sx_let (l5 + (((l7 - l5) + l9) - ((l7 - l5) + l9) / l6 * l6)) (fun x6 => (V.2.2 69 7).bind (fun b7 => if lay b7 = .inl 8 then (cr b7 4).bind (fun b10 => (sv_len 0 b10).bind (fun n12 => if sx_in x6 n12 = true then if ((V.1 b10 x6.toNatClampNeg) &&& l3) = 0 then (B_X5_fillUntouched_121 N k3 k61 l1 l2 l3 l4 l5 l6 l7 l8 l9 V) else ((F_X5_fillBetween N l1 l2 l8 x6 l4 V).bind (fun V16 => B_X5_fillUntouched_121 N k3 k61 l1 l2 l3 l4 l5 l6 l7 x6 l9 V16)) else none)) else none)) else none))
set_option maxRecDepth 20000 in
theorem tB_X5_fillUntouched_61 {g : sx_G} (hG : sx_Go g) {P : Option Value → sv_V → Prop} {Vr : sv_V} (hP : P none Vr) {N : Nat} {k3 : Nat → Nat → Int32 → Int32 → sv_V → Option sv_V} {k61 : Nat → Nat → Int32 → Int32 → Int32 → Int32 → Int32 → Int32 → Int32 → sv_V → Option sv_V} (hk3 : ∀ (l1 : Nat) (l2 : Nat) (l3 : Int32) (l4 : Int32) (V : sv_V), k3 l1 l2 l3 l4 V = some Vr → sv_N g qX5_fillUntouched 2 3 [(0, .ref 69), (1, .ref l1), (2, .ref l2), (3, .int l3), (4, .int l4)] [] V P) (hk61 : ∀ (l1 : Nat) (l2 : Nat) (l3 : Int32) (l4 : Int32) (l5 : Int32) (l6 : Int32) (l7 : Int32) (l8 : Int32) (l9 : Int32) (V : sv_V), k61 l1 l2 l3 l4 l5 l6 l7 l8 l9 V = some Vr → sv_N g qX5_fillUntouched 2 61 [(0, .ref 69), (1, .ref l1), (2, .ref l2), (3, .int l3), (4, .int l4), (5, .int l5), (6, .int l6), (7, .int l7), (8, .int l8), (9, .int l9)] [] V P) {l1 : Nat} {l2 : Nat} {l3 : Int32} {l4 : Int32} {l5 : Int32} {l6 : Int32} {l7 : Int32} {l8 : Int32} {l9 : Int32} {V : sv_V} (h : B_X5_fillUntouched_61 N k3 k61 l1 l2 l3 l4 l5 l6 l7 l8 l9 V = some Vr) : sv_N g qX5_fillUntouched 2 61 [(0, .ref 69), (1, .ref l1), (2, .ref l2), (3, .int l3), (4, .int l4), (5, .int l5), (6, .int l6), (7, .int l7), (8, .int l8), (9, .int l9)] [] V P := by
  unfold B_X5_fillUntouched_61 at h
  refine sx_iload (pc := 61) dX5_fillUntouched_61 sx_m7 ?_
  refine sx_iconst (pc := 63) (v := (-1)) dX5_fillUntouched_63 (by decide) ?_
  refine sx_icmp_eq (pc := 64) (tgt := 127) dX5_fillUntouched_64 (by decide) (fun c3 => ?_) (fun c3 => ?_)
  · have h := sx_pos c3 h
    refine sx_wk (sx_s1 sx_m0 (sx_s1 sx_m1 (sx_s1 sx_m2 (sx_s1 sx_m3 (sx_s1 sx_m4 sx_s0))))) ?_
    exact tB_X5_fillUntouched_127 hG hP hk3 h
  · have h := sx_neg c3 h
    refine sx_iload (pc := 67) dX5_fillUntouched_67 sx_m9 ?_
    refine sx_iload (pc := 69) dX5_fillUntouched_69 sx_m6 ?_
    refine sx_icmp_gt (pc := 71) (tgt := 127) dX5_fillUntouched_71 (by decide) (fun c4 => ?_) (fun c4 => ?_)
    · have h := sx_pos c4 h
      refine sx_wk (sx_s1 sx_m0 (sx_s1 sx_m1 (sx_s1 sx_m2 (sx_s1 sx_m3 (sx_s1 sx_m4 sx_s0))))) ?_
      exact tB_X5_fillUntouched_127 hG hP hk3 h
    · have h := sx_neg c4 h
      refine sx_iload (pc := 74) dX5_fillUntouched_74 sx_m5 ?_
      refine sx_iload (pc := 76) dX5_fillUntouched_76 sx_m7 ?_
      refine sx_iload (pc := 78) dX5_fillUntouched_78 sx_m5 ?_
      refine sx_isub (pc := 80) dX5_fillUntouched_80 ?_
      refine sx_iload (pc := 81) dX5_fillUntouched_81 sx_m9 ?_
      refine sx_iadd (pc := 83) dX5_fillUntouched_83 ?_
      refine sx_iload (pc := 84) dX5_fillUntouched_84 sx_m6 ?_
      obtain ⟨g5, h⟩ := sx_grd h
      refine sx_irem (pc := 86) dX5_fillUntouched_86 g5 ?_
      refine sx_iadd (pc := 87) dX5_fillUntouched_87 ?_
      refine sv_tI (fun x6 hx6 => ?_)
      have h := sx_letE hx6 h
      refine sx_istore (pc := 88) (lo' := [(10, .int x6), (0, .ref 69), (1, .ref l1), (2, .ref l2), (3, .int l3), (4, .int l4), (5, .int l5), (6, .int l6), (7, .int l7), (8, .int l8), (9, .int l9)]) dX5_fillUntouched_88 (by decide) rfl ?_
      refine sx_aload_n (pc := 90) dX5_fillUntouched_90 sx_m1 ?_
      obtain ⟨b7, g8, h⟩ := sx_bnd h
      refine sv_getV (pc := 91) hG dX5_fillUntouched_91 f_5_38 lay_69 rfl rfl g8 ?_
      obtain ⟨g9, h⟩ := sx_grd h
      obtain ⟨b10, g11, h⟩ := sx_bnd h
      refine sv_getA (pc := 94) hG dX5_fillUntouched_94 f_5_220 g9 rfl g11 ?_
      refine sx_iload (pc := 97) dX5_fillUntouched_97 sx_m0 ?_
      obtain ⟨n12, g13, h⟩ := sx_bnd h
      obtain ⟨g14, h⟩ := sx_grd h
      refine sv_iald (pc := 99) hG dX5_fillUntouched_99 (sv_len_e g13) g14 ?_
      refine sx_iload_n (pc := 100) dX5_fillUntouched_100 sx_m4 ?_
      refine sx_iand (pc := 101) dX5_fillUntouched_101 ?_
      refine sx_if_eq (pc := 102) (tgt := 121) dX5_fillUntouched_102 (by decide) (fun c15 => ?_) (fun c15 => ?_)
      · have h := sx_pos c15 h
        refine sx_wk (sx_s1 sx_m1 (sx_s1 sx_m2 (sx_s1 sx_m3 (sx_s1 sx_m4 (sx_s1 sx_m5 (sx_s1 sx_m6 (sx_s1 sx_m7 (sx_s1 sx_m8 (sx_s1 sx_m9 (sx_s1 sx_m10 sx_s0)))))))))) ?_
        exact tB_X5_fillUntouched_121 hG hP hk3 hk61 h
      · have h := sx_neg c15 h
        refine sx_aload_n (pc := 105) dX5_fillUntouched_105 sx_m1 ?_
        refine sx_aload_n (pc := 106) dX5_fillUntouched_106 sx_m2 ?_
        refine sx_aload_n (pc := 107) dX5_fillUntouched_107 sx_m3 ?_
        refine sx_iload (pc := 108) dX5_fillUntouched_108 sx_m9 ?_
        refine sx_iload (pc := 110) dX5_fillUntouched_110 sx_m0 ?_
        refine sx_iload (pc := 112) dX5_fillUntouched_112 sx_m5 ?_
        obtain ⟨V16, g17, h⟩ := sx_bnd h
        refine sv_cV (pc := 114) (y := qX5_fillBetween) (o := none) (as := [.ref l1, .ref l2, .int l8, .int x6, .int l4]) (V1 := V16) hG dX5_fillUntouched_114 l_X5_491 y0X5_fillBetween yvX5_fillBetween rfl (Nat.le_of_ble_eq_true rfl) lay_69 kr_5 (by decide) (Nat.le_of_ble_eq_true rfl) rfl rfl rfl (t_X5_fillBetween hG ⟨rfl, rfl⟩ g17) ?_
        refine sx_iload (pc := 117) dX5_fillUntouched_117 sx_m0 ?_
        refine sx_istore (pc := 119) (lo' := [(8, .int x6), (10, .int x6), (0, .ref 69), (1, .ref l1), (2, .ref l2), (3, .int l3), (4, .int l4), (5, .int l5), (6, .int l6), (7, .int l7), (9, .int l9)]) dX5_fillUntouched_119 (by decide) rfl ?_
        refine sx_wk (sx_s1 sx_m2 (sx_s1 sx_m3 (sx_s1 sx_m4 (sx_s1 sx_m5 (sx_s1 sx_m6 (sx_s1 sx_m7 (sx_s1 sx_m8 (sx_s1 sx_m9 (sx_s1 sx_m0 (sx_s1 sx_m10 sx_s0)))))))))) ?_
        exact tB_X5_fillUntouched_121 hG hP hk3 hk61 h
theorem tL_X5_fillUntouched_61 {g : sx_G} (hG : sx_Go g) {P : Option Value → sv_V → Prop} {Vr : sv_V} (hP : P none Vr) {N : Nat} {k3 : Nat → Nat → Int32 → Int32 → sv_V → Option sv_V} (hk3 : ∀ (l1 : Nat) (l2 : Nat) (l3 : Int32) (l4 : Int32) (V : sv_V), k3 l1 l2 l3 l4 V = some Vr → sv_N g qX5_fillUntouched 2 3 [(0, .ref 69), (1, .ref l1), (2, .ref l2), (3, .int l3), (4, .int l4)] [] V P) : ∀ (n : Nat) (l1 : Nat) (l2 : Nat) (l3 : Int32) (l4 : Int32) (l5 : Int32) (l6 : Int32) (l7 : Int32) (l8 : Int32) (l9 : Int32) (V : sv_V), sx_lp10 (B_X5_fillUntouched_61 N k3) n l1 l2 l3 l4 l5 l6 l7 l8 l9 V = some Vr → sv_N g qX5_fillUntouched 2 61 [(0, .ref 69), (1, .ref l1), (2, .ref l2), (3, .int l3), (4, .int l4), (5, .int l5), (6, .int l6), (7, .int l7), (8, .int l8), (9, .int l9)] [] V P :=
  sx_lp10_ind (fun k0 ih _ _ _ _ _ _ _ _ _ V h => tB_X5_fillUntouched_61 hG hP hk3 ih h)
def B_X5_fillUntouched_3 (N : Nat) (k3 : Nat → Nat → Int32 → Int32 → sv_V → Option sv_V) (l1 : Nat) (l2 : Nat) (l3 : Int32) (l4 : Int32) (V : sv_V) : Option sv_V := (V.2.2 69 7).bind (fun b18 => if lay b18 = .inl 8 then if (V.1 b18 10) ≤ l4 then (some V) else ((V.2.2 69 7).bind (fun b22 => (F_X8_firstOf b22 l4 V).bind (fun (x26, V24) => if lay b22 = .inl 8 then (V24.2.2 69 7).bind (fun b28 => if lay b28 = .inl 8 then (cr b28 6).bind (fun b31 => (sv_len 0 b31).bind (fun n33 => if sx_in l4 n33 = true then sx_let (((V24.1 b31 l4.toNatClampNeg) - x26) + (1 : Int32)) (fun x36 => (F_X5_firstTouched N x26 x36 l3 V24).bind (fun (x39, V37) => sx_lp10 (B_X5_fillUntouched_61 N k3) N l1 l2 l3 l4 x26 x36 x39 x39 (1 : Int32) V37)) else none)) else none) else none))) else none)
set_option maxRecDepth 20000 in
theorem tB_X5_fillUntouched_3 {g : sx_G} (hG : sx_Go g) {P : Option Value → sv_V → Prop} {Vr : sv_V} (hP : P none Vr) {N : Nat} {k3 : Nat → Nat → Int32 → Int32 → sv_V → Option sv_V} (hk3 : ∀ (l1 : Nat) (l2 : Nat) (l3 : Int32) (l4 : Int32) (V : sv_V), k3 l1 l2 l3 l4 V = some Vr → sv_N g qX5_fillUntouched 2 3 [(0, .ref 69), (1, .ref l1), (2, .ref l2), (3, .int l3), (4, .int l4)] [] V P) {l1 : Nat} {l2 : Nat} {l3 : Int32} {l4 : Int32} {V : sv_V} (h : B_X5_fillUntouched_3 N k3 l1 l2 l3 l4 V = some Vr) : sv_N g qX5_fillUntouched 2 3 [(0, .ref 69), (1, .ref l1), (2, .ref l2), (3, .int l3), (4, .int l4)] [] V P := by
  unfold B_X5_fillUntouched_3 at h
  refine sx_iload (pc := 3) dX5_fillUntouched_3 sx_m4 ?_
  refine sx_aload_n (pc := 5) dX5_fillUntouched_5 sx_m0 ?_
  obtain ⟨b18, g19, h⟩ := sx_bnd h
  refine sv_getV (pc := 6) hG dX5_fillUntouched_6 f_5_38 lay_69 rfl rfl g19 ?_
  obtain ⟨g20, h⟩ := sx_grd h
  refine sv_getI (pc := 9) hG dX5_fillUntouched_9 f_5_480 g20 rfl ?_
  refine sx_icmp_ge (pc := 12) (tgt := 133) dX5_fillUntouched_12 (by decide) (fun c21 => ?_) (fun c21 => ?_)
  · have h := sx_pos c21 h
    exact sv_vret (pc := 133) dX5_fillUntouched_133 rfl h hP
  · have h := sx_neg c21 h
    refine sx_aload_n (pc := 15) dX5_fillUntouched_15 sx_m0 ?_
    obtain ⟨b22, g23, h⟩ := sx_bnd h
    refine sv_getV (pc := 16) hG dX5_fillUntouched_16 f_5_38 lay_69 rfl rfl g23 ?_
    refine sx_iload (pc := 19) dX5_fillUntouched_19 sx_m4 ?_
    obtain ⟨⟨x26, V24⟩, g25, h⟩ := sx_bnd h
    obtain ⟨g27, h⟩ := sx_grd h
    refine sv_cV (pc := 21) (y := qX8_firstOf) (o := (some (.int x26))) (as := [.int l4]) (V1 := V24) hG dX5_fillUntouched_21 l_X5_483 y0X8_firstOf yvX8_firstOf rfl (Nat.le_of_ble_eq_true rfl) g27 kr_8 (by decide) (Nat.le_of_ble_eq_true rfl) rfl rfl rfl (t_X8_firstOf hG ⟨rfl, rfl⟩ g25) ?_
    refine sx_istore (pc := 24) (lo' := [(5, .int x26), (0, .ref 69), (1, .ref l1), (2, .ref l2), (3, .int l3), (4, .int l4)]) dX5_fillUntouched_24 (by decide) rfl ?_
    refine sx_aload_n (pc := 26) dX5_fillUntouched_26 sx_m1 ?_
    obtain ⟨b28, g29, h⟩ := sx_bnd h
    refine sv_getV (pc := 27) hG dX5_fillUntouched_27 f_5_38 lay_69 rfl rfl g29 ?_
    obtain ⟨g30, h⟩ := sx_grd h
    obtain ⟨b31, g32, h⟩ := sx_bnd h
    refine sv_getA (pc := 30) hG dX5_fillUntouched_30 f_5_486 g30 rfl g32 ?_
    refine sx_iload (pc := 33) dX5_fillUntouched_33 sx_m5 ?_
    obtain ⟨n33, g34, h⟩ := sx_bnd h
    obtain ⟨g35, h⟩ := sx_grd h
    refine sv_iald (pc := 35) hG dX5_fillUntouched_35 (sv_len_e g34) g35 ?_
    refine sx_iload (pc := 36) dX5_fillUntouched_36 sx_m0 ?_
    refine sx_isub (pc := 38) dX5_fillUntouched_38 ?_
    refine sx_iconst (pc := 39) (v := 1) dX5_fillUntouched_39 (by decide) ?_
    refine sx_iadd (pc := 40) dX5_fillUntouched_40 ?_
    refine sv_tI (fun x36 hx36 => ?_)
    have h := sx_letE hx36 h
    refine sx_istore (pc := 41) (lo' := [(6, .int x36), (5, .int x26), (0, .ref 69), (1, .ref l1), (2, .ref l2), (3, .int l3), (4, .int l4)]) dX5_fillUntouched_41 (by decide) rfl ?_
    refine sx_aload_n (pc := 43) dX5_fillUntouched_43 sx_m2 ?_
    refine sx_iload (pc := 44) dX5_fillUntouched_44 sx_m1 ?_
    refine sx_iload (pc := 46) dX5_fillUntouched_46 sx_m0 ?_
    refine sx_iload_n (pc := 48) dX5_fillUntouched_48 sx_m5 ?_
    obtain ⟨⟨x39, V37⟩, g38, h⟩ := sx_bnd h
    refine sv_cV (pc := 49) (y := qX5_firstTouched) (o := (some (.int x39))) (as := [.int x26, .int x36, .int l3]) (V1 := V37) hG dX5_fillUntouched_49 l_X5_487 y0X5_firstTouched yvX5_firstTouched rfl (Nat.le_of_ble_eq_true rfl) lay_69 kr_5 (by decide) (Nat.le_of_ble_eq_true rfl) rfl rfl rfl (t_X5_firstTouched hG ⟨rfl, rfl⟩ g38) ?_
    refine sx_istore (pc := 52) (lo' := [(7, .int x39), (6, .int x36), (5, .int x26), (0, .ref 69), (1, .ref l1), (2, .ref l2), (3, .int l3), (4, .int l4)]) dX5_fillUntouched_52 (by decide) rfl ?_
    refine sx_iload (pc := 54) dX5_fillUntouched_54 sx_m0 ?_
    refine sx_istore (pc := 56) (lo' := [(8, .int x39), (7, .int x39), (6, .int x36), (5, .int x26), (0, .ref 69), (1, .ref l1), (2, .ref l2), (3, .int l3), (4, .int l4)]) dX5_fillUntouched_56 (by decide) rfl ?_
    refine sx_iconst (pc := 58) (v := 1) dX5_fillUntouched_58 (by decide) ?_
    refine sx_istore (pc := 59) (lo' := [(9, .int (1 : Int32)), (8, .int x39), (7, .int x39), (6, .int x36), (5, .int x26), (0, .ref 69), (1, .ref l1), (2, .ref l2), (3, .int l3), (4, .int l4)]) dX5_fillUntouched_59 (by decide) rfl ?_
    refine sx_wk (sx_s1 sx_m5 (sx_s1 sx_m6 (sx_s1 sx_m7 (sx_s1 sx_m8 (sx_s1 sx_m9 (sx_s1 sx_m4 (sx_s1 sx_m3 (sx_s1 sx_m2 (sx_s1 sx_m1 (sx_s1 sx_m0 sx_s0)))))))))) ?_
    exact tL_X5_fillUntouched_61 hG hP hk3 N _ _ _ _ _ _ _ _ _ _ h
theorem tL_X5_fillUntouched_3 {g : sx_G} (hG : sx_Go g) {P : Option Value → sv_V → Prop} {Vr : sv_V} (hP : P none Vr) {N : Nat}   : ∀ (n : Nat) (l1 : Nat) (l2 : Nat) (l3 : Int32) (l4 : Int32) (V : sv_V), sx_lp5 (B_X5_fillUntouched_3 N ) n l1 l2 l3 l4 V = some Vr → sv_N g qX5_fillUntouched 2 3 [(0, .ref 69), (1, .ref l1), (2, .ref l2), (3, .int l3), (4, .int l4)] [] V P :=
  sx_lp5_ind (fun k0 ih _ _ _ _ V h => tB_X5_fillUntouched_3 hG hP ih h)
def F_X5_fillUntouched (N : Nat) (l1 : Nat) (l2 : Nat) (l3 : Int32) (V : sv_V) : Option sv_V := sx_lp5 (B_X5_fillUntouched_3 N ) N l1 l2 l3 (0 : Int32) V
set_option maxRecDepth 20000 in
theorem t_X5_fillUntouched {g : sx_G} (hG : sx_Go g) {P : Option Value → sv_V → Prop} {Vr : sv_V} (hP : P none Vr) {N : Nat} {l1 : Nat} {l2 : Nat} {l3 : Int32} {V : sv_V} (h : F_X5_fillUntouched N l1 l2 l3 V = some Vr) : sv_N g qX5_fillUntouched 2 0 [(0, .ref 69), (1, .ref l1), (2, .ref l2), (3, .int l3)] [] V P := by
  unfold F_X5_fillUntouched at h
  refine sx_iconst (pc := 0) (v := 0) dX5_fillUntouched_0 (by decide) ?_
  refine sx_istore (pc := 1) (lo' := [(4, .int (0 : Int32)), (0, .ref 69), (1, .ref l1), (2, .ref l2), (3, .int l3)]) dX5_fillUntouched_1 (by decide) rfl ?_
  refine sx_wk (sx_s1 sx_m1 (sx_s1 sx_m2 (sx_s1 sx_m3 (sx_s1 sx_m4 (sx_s1 sx_m0 sx_s0))))) ?_
  exact tL_X5_fillUntouched_3 hG hP  N _ _ _ _ _ h
def ncX5_manyPointCodes : Nat := 142226884823953620080558988241149932271315394543274384418162181377395827893573914224889121394019487878803632288694843905251222437625123213935749671451
theorem kcX5_manyPointCodes : CK cX5_manyPointCodes ncX5_manyPointCodes 62 := ⟨by decide +kernel, by decide +kernel⟩
theorem dX5_manyPointCodes_0 : decode cX5_manyPointCodes 0 = .ok (.iload_n 1, 1) := dl_o27 kcX5_manyPointCodes (by decide +kernel)
theorem dX5_manyPointCodes_1 : decode cX5_manyPointCodes 1 = .ok (.tableswitch 56 56 60 #[35, 42, 56, 56, 49], 35) := by decide +kernel
theorem dX5_manyPointCodes_36 : decode cX5_manyPointCodes 36 = .ok (.aload_n 0, 1) := dl_o42 kcX5_manyPointCodes (by decide +kernel)
theorem dX5_manyPointCodes_37 : decode cX5_manyPointCodes 37 = .ok (.invokevirtual 495, 3) := dl_o182 kcX5_manyPointCodes (by decide +kernel)
theorem dX5_manyPointCodes_40 : decode cX5_manyPointCodes 40 = .ok (.goto 21, 3) := dl_o167 kcX5_manyPointCodes 21 (by decide +kernel) (by decide +kernel)
theorem dX5_manyPointCodes_43 : decode cX5_manyPointCodes 43 = .ok (.aload_n 0, 1) := dl_o42 kcX5_manyPointCodes (by decide +kernel)
theorem dX5_manyPointCodes_44 : decode cX5_manyPointCodes 44 = .ok (.invokevirtual 498, 3) := dl_o182 kcX5_manyPointCodes (by decide +kernel)
theorem dX5_manyPointCodes_47 : decode cX5_manyPointCodes 47 = .ok (.goto 14, 3) := dl_o167 kcX5_manyPointCodes 14 (by decide +kernel) (by decide +kernel)
theorem dX5_manyPointCodes_50 : decode cX5_manyPointCodes 50 = .ok (.aload_n 0, 1) := dl_o42 kcX5_manyPointCodes (by decide +kernel)
theorem dX5_manyPointCodes_51 : decode cX5_manyPointCodes 51 = .ok (.invokevirtual 501, 3) := dl_o182 kcX5_manyPointCodes (by decide +kernel)
theorem dX5_manyPointCodes_54 : decode cX5_manyPointCodes 54 = .ok (.goto 7, 3) := dl_o167 kcX5_manyPointCodes 7 (by decide +kernel) (by decide +kernel)
theorem dX5_manyPointCodes_57 : decode cX5_manyPointCodes 57 = .ok (.aload_n 0, 1) := dl_o42 kcX5_manyPointCodes (by decide +kernel)
theorem dX5_manyPointCodes_58 : decode cX5_manyPointCodes 58 = .ok (.invokevirtual 504, 3) := dl_o182 kcX5_manyPointCodes (by decide +kernel)
theorem dX5_manyPointCodes_61 : decode cX5_manyPointCodes 61 = .ok (.return_, 1) := dl_o177 kcX5_manyPointCodes (by decide +kernel)
def B_X5_manyPointCodes_57 (N : Nat)   (V : sv_V) : Option sv_V := (F_X5_turnPoints N  V).bind (fun V1 => some V1)
set_option maxRecDepth 20000 in
theorem tB_X5_manyPointCodes_57 {g : sx_G} (hG : sx_Go g) {P : Option Value → sv_V → Prop} {Vr : sv_V} (hP : P none Vr) {N : Nat}    {V : sv_V} (h : B_X5_manyPointCodes_57 N   V = some Vr) : sv_N g qX5_manyPointCodes 3 57 [(0, .ref 69)] [] V P := by
  unfold B_X5_manyPointCodes_57 at h
  refine sx_aload_n (pc := 57) dX5_manyPointCodes_57 sx_m0 ?_
  obtain ⟨V1, g2, h⟩ := sx_bnd h
  refine sv_cV (pc := 58) (y := qX5_turnPoints) (o := none) (as := []) (V1 := V1) hG dX5_manyPointCodes_58 l_X5_504 y0X5_turnPoints yvX5_turnPoints rfl (Nat.le_of_ble_eq_true rfl) lay_69 kr_5 (by decide) (Nat.le_of_ble_eq_true rfl) rfl rfl rfl (t_X5_turnPoints hG ⟨rfl, rfl⟩ g2) ?_
  exact sv_vret (pc := 61) dX5_manyPointCodes_61 rfl h hP
def F_X5_manyPointCodes (N : Nat) (l1 : Int32) (V : sv_V) : Option sv_V := if l1 = 56 then ((F_X5_shiftByPixels N  V).bind (fun V4 => some V4)) else (if l1 = 57 then ((F_X5_interpolate N  V).bind (fun V7 => some V7)) else (if l1 = 58 then (B_X5_manyPointCodes_57 N   V) else (if l1 = 59 then (B_X5_manyPointCodes_57 N   V) else (if l1 = 60 then ((F_X5_alignToReference N  V).bind (fun V12 => some V12)) else (B_X5_manyPointCodes_57 N   V)))))
set_option maxRecDepth 20000 in
theorem t_X5_manyPointCodes {g : sx_G} (hG : sx_Go g) {P : Option Value → sv_V → Prop} {Vr : sv_V} (hP : P none Vr) {N : Nat} {l1 : Int32} {V : sv_V} (h : F_X5_manyPointCodes N l1 V = some Vr) : sv_N g qX5_manyPointCodes 3 0 [(0, .ref 69), (1, .int l1)] [] V P := by
  unfold F_X5_manyPointCodes at h
  refine sx_iload_n (pc := 0) dX5_manyPointCodes_0 sx_m1 ?_
  by_cases c3 : l1 = 56
  · have h := sx_pos c3 h
    refine sx_tabI (pc := 1) (off := 35) (tgt := 36) dX5_manyPointCodes_1 (by rw [c3]; decide) (by rw [c3]; decide) (by rw [c3]; rfl) (by decide) ?_
    refine sx_aload_n (pc := 36) dX5_manyPointCodes_36 sx_m0 ?_
    obtain ⟨V4, g5, h⟩ := sx_bnd h
    refine sv_cV (pc := 37) (y := qX5_shiftByPixels) (o := none) (as := []) (V1 := V4) hG dX5_manyPointCodes_37 l_X5_495 y0X5_shiftByPixels yvX5_shiftByPixels rfl (Nat.le_of_ble_eq_true rfl) lay_69 kr_5 (by decide) (Nat.le_of_ble_eq_true rfl) rfl rfl rfl (t_X5_shiftByPixels hG ⟨rfl, rfl⟩ g5) ?_
    refine sx_goto (pc := 40) (tgt := 61) dX5_manyPointCodes_40 (by decide) ?_
    exact sv_vret (pc := 61) dX5_manyPointCodes_61 rfl h hP
  have h := sx_neg c3 h
  by_cases c6 : l1 = 57
  · have h := sx_pos c6 h
    refine sx_tabI (pc := 1) (off := 42) (tgt := 43) dX5_manyPointCodes_1 (by rw [c6]; decide) (by rw [c6]; decide) (by rw [c6]; rfl) (by decide) ?_
    refine sx_aload_n (pc := 43) dX5_manyPointCodes_43 sx_m0 ?_
    obtain ⟨V7, g8, h⟩ := sx_bnd h
    refine sv_cV (pc := 44) (y := qX5_interpolate) (o := none) (as := []) (V1 := V7) hG dX5_manyPointCodes_44 l_X5_498 y0X5_interpolate yvX5_interpolate rfl (Nat.le_of_ble_eq_true rfl) lay_69 kr_5 (by decide) (Nat.le_of_ble_eq_true rfl) rfl rfl rfl (t_X5_interpolate hG ⟨rfl, rfl⟩ g8) ?_
    refine sx_goto (pc := 47) (tgt := 61) dX5_manyPointCodes_47 (by decide) ?_
    exact sv_vret (pc := 61) dX5_manyPointCodes_61 rfl h hP
  have h := sx_neg c6 h
  by_cases c9 : l1 = 58
  · have h := sx_pos c9 h
    refine sx_tabI (pc := 1) (off := 56) (tgt := 57) dX5_manyPointCodes_1 (by rw [c9]; decide) (by rw [c9]; decide) (by rw [c9]; rfl) (by decide) ?_
    refine sx_wk (sx_s1 sx_m0 sx_s0) ?_
    exact tB_X5_manyPointCodes_57 hG hP  h
  have h := sx_neg c9 h
  by_cases c10 : l1 = 59
  · have h := sx_pos c10 h
    refine sx_tabI (pc := 1) (off := 56) (tgt := 57) dX5_manyPointCodes_1 (by rw [c10]; decide) (by rw [c10]; decide) (by rw [c10]; rfl) (by decide) ?_
    refine sx_wk (sx_s1 sx_m0 sx_s0) ?_
    exact tB_X5_manyPointCodes_57 hG hP  h
  have h := sx_neg c10 h
  by_cases c11 : l1 = 60
  · have h := sx_pos c11 h
    refine sx_tabI (pc := 1) (off := 49) (tgt := 50) dX5_manyPointCodes_1 (by rw [c11]; decide) (by rw [c11]; decide) (by rw [c11]; rfl) (by decide) ?_
    refine sx_aload_n (pc := 50) dX5_manyPointCodes_50 sx_m0 ?_
    obtain ⟨V12, g13, h⟩ := sx_bnd h
    refine sv_cV (pc := 51) (y := qX5_alignToReference) (o := none) (as := []) (V1 := V12) hG dX5_manyPointCodes_51 l_X5_501 y0X5_alignToReference yvX5_alignToReference rfl (Nat.le_of_ble_eq_true rfl) lay_69 kr_5 (by decide) (Nat.le_of_ble_eq_true rfl) rfl rfl rfl (t_X5_alignToReference hG ⟨rfl, rfl⟩ g13) ?_
    refine sx_goto (pc := 54) (tgt := 61) dX5_manyPointCodes_54 (by decide) ?_
    exact sv_vret (pc := 61) dX5_manyPointCodes_61 rfl h hP
  have h := sx_neg c11 h
  refine sx_tabO (pc := 1) (tgt := 57) dX5_manyPointCodes_1 (by have ec3 := lv_neT (a := 56) c3 rfl; have ec6 := lv_neT (a := 57) c6 rfl; have ec9 := lv_neT (a := 58) c9 rfl; have ec10 := lv_neT (a := 59) c10 rfl; have ec11 := lv_neT (a := 60) c11 rfl; omega) (by decide) ?_
  refine sx_wk (sx_s1 sx_m0 sx_s0) ?_
  exact tB_X5_manyPointCodes_57 hG hP  h
def ncX5_shiftByReference : Nat := 46505830313423712735564099382900264977675025764473120446835038582831395203559707073644095508563876687038385354010973228758510150249430965940706067515731232909917800217752862522317357356230690611839619524958699359358733968005696140054429957313358308011239046698548497425446774299985119377007246395088139812467891691307252846519666076356017665314182927113651227
theorem kcX5_shiftByReference : CK cX5_shiftByReference ncX5_shiftByReference 149 := ⟨by decide +kernel, by decide +kernel⟩
theorem dX5_shiftByReference_0 : decode cX5_shiftByReference 0 = .ok (.iload_n 1, 1) := dl_o27 kcX5_shiftByReference (by decide +kernel)
theorem dX5_shiftByReference_1 : decode cX5_shiftByReference 1 = .ok (.iconst 1, 1) := dl_o4 kcX5_shiftByReference (by decide +kernel)
theorem dX5_shiftByReference_2 : decode cX5_shiftByReference 2 = .ok (.iand, 1) := dl_o126 kcX5_shiftByReference (by decide +kernel)
theorem dX5_shiftByReference_3 : decode cX5_shiftByReference 3 = .ok (.iconst 1, 1) := dl_o4 kcX5_shiftByReference (by decide +kernel)
theorem dX5_shiftByReference_4 : decode cX5_shiftByReference 4 = .ok (.if_icmp .ne 7, 3) := dl_o160 kcX5_shiftByReference 7 (by decide +kernel) (by decide +kernel)
theorem dX5_shiftByReference_7 : decode cX5_shiftByReference 7 = .ok (.iconst 1, 1) := dl_o4 kcX5_shiftByReference (by decide +kernel)
theorem dX5_shiftByReference_8 : decode cX5_shiftByReference 8 = .ok (.goto 4, 3) := dl_o167 kcX5_shiftByReference 4 (by decide +kernel) (by decide +kernel)
theorem dX5_shiftByReference_11 : decode cX5_shiftByReference 11 = .ok (.iconst 0, 1) := dl_o3 kcX5_shiftByReference (by decide +kernel)
theorem dX5_shiftByReference_12 : decode cX5_shiftByReference 12 = .ok (.istore_n 2, 1) := dl_o61 kcX5_shiftByReference (by decide +kernel)
theorem dX5_shiftByReference_13 : decode cX5_shiftByReference 13 = .ok (.aload_n 0, 1) := dl_o42 kcX5_shiftByReference (by decide +kernel)
theorem dX5_shiftByReference_14 : decode cX5_shiftByReference 14 = .ok (.iload_n 2, 1) := dl_o28 kcX5_shiftByReference (by decide +kernel)
theorem dX5_shiftByReference_15 : decode cX5_shiftByReference 15 = .ok (.ifCond .eq 7, 3) := dl_o153 kcX5_shiftByReference 7 (by decide +kernel) (by decide +kernel)
theorem dX5_shiftByReference_18 : decode cX5_shiftByReference 18 = .ok (.iconst 0, 1) := dl_o3 kcX5_shiftByReference (by decide +kernel)
theorem dX5_shiftByReference_19 : decode cX5_shiftByReference 19 = .ok (.goto 4, 3) := dl_o167 kcX5_shiftByReference 4 (by decide +kernel) (by decide +kernel)
theorem dX5_shiftByReference_22 : decode cX5_shiftByReference 22 = .ok (.iconst 1, 1) := dl_o4 kcX5_shiftByReference (by decide +kernel)
theorem dX5_shiftByReference_23 : decode cX5_shiftByReference 23 = .ok (.invokevirtual 255, 3) := dl_o182 kcX5_shiftByReference (by decide +kernel)
theorem dX5_shiftByReference_26 : decode cX5_shiftByReference 26 = .ok (.astore_n 3, 1) := dl_o78 kcX5_shiftByReference (by decide +kernel)
theorem dX5_shiftByReference_27 : decode cX5_shiftByReference 27 = .ok (.aload_n 0, 1) := dl_o42 kcX5_shiftByReference (by decide +kernel)
theorem dX5_shiftByReference_28 : decode cX5_shiftByReference 28 = .ok (.getfield 12, 3) := dl_o180 kcX5_shiftByReference (by decide +kernel)
theorem dX5_shiftByReference_31 : decode cX5_shiftByReference 31 = .ok (.getfield 275, 3) := dl_o180 kcX5_shiftByReference (by decide +kernel)
theorem dX5_shiftByReference_34 : decode cX5_shiftByReference 34 = .ok (.iload_n 2, 1) := dl_o28 kcX5_shiftByReference (by decide +kernel)
theorem dX5_shiftByReference_35 : decode cX5_shiftByReference 35 = .ok (.ifCond .eq 7, 3) := dl_o153 kcX5_shiftByReference 7 (by decide +kernel) (by decide +kernel)
theorem dX5_shiftByReference_38 : decode cX5_shiftByReference 38 = .ok (.iconst 1, 1) := dl_o4 kcX5_shiftByReference (by decide +kernel)
theorem dX5_shiftByReference_39 : decode cX5_shiftByReference 39 = .ok (.goto 4, 3) := dl_o167 kcX5_shiftByReference 4 (by decide +kernel) (by decide +kernel)
theorem dX5_shiftByReference_42 : decode cX5_shiftByReference 42 = .ok (.iconst 2, 1) := dl_o5 kcX5_shiftByReference (by decide +kernel)
theorem dX5_shiftByReference_43 : decode cX5_shiftByReference 43 = .ok (.iaload, 1) := dl_o46 kcX5_shiftByReference (by decide +kernel)
theorem dX5_shiftByReference_44 : decode cX5_shiftByReference 44 = .ok (.istore 4, 2) := dl_o54 kcX5_shiftByReference (by decide +kernel)
theorem dX5_shiftByReference_46 : decode cX5_shiftByReference 46 = .ok (.aload_n 0, 1) := dl_o42 kcX5_shiftByReference (by decide +kernel)
theorem dX5_shiftByReference_47 : decode cX5_shiftByReference 47 = .ok (.aload_n 3, 1) := dl_o45 kcX5_shiftByReference (by decide +kernel)
theorem dX5_shiftByReference_48 : decode cX5_shiftByReference 48 = .ok (.iload 4, 2) := dl_o21 kcX5_shiftByReference (by decide +kernel)
theorem dX5_shiftByReference_50 : decode cX5_shiftByReference 50 = .ok (.invokevirtual 259, 3) := dl_o182 kcX5_shiftByReference (by decide +kernel)
theorem dX5_shiftByReference_53 : decode cX5_shiftByReference 53 = .ok (.ifCond .ne 4, 3) := dl_o154 kcX5_shiftByReference 4 (by decide +kernel) (by decide +kernel)
theorem dX5_shiftByReference_56 : decode cX5_shiftByReference 56 = .ok (.return_, 1) := dl_o177 kcX5_shiftByReference (by decide +kernel)
theorem dX5_shiftByReference_57 : decode cX5_shiftByReference 57 = .ok (.aload_n 0, 1) := dl_o42 kcX5_shiftByReference (by decide +kernel)
theorem dX5_shiftByReference_58 : decode cX5_shiftByReference 58 = .ok (.aload_n 3, 1) := dl_o45 kcX5_shiftByReference (by decide +kernel)
theorem dX5_shiftByReference_59 : decode cX5_shiftByReference 59 = .ok (.getfield 198, 3) := dl_o180 kcX5_shiftByReference (by decide +kernel)
theorem dX5_shiftByReference_62 : decode cX5_shiftByReference 62 = .ok (.iload 4, 2) := dl_o21 kcX5_shiftByReference (by decide +kernel)
theorem dX5_shiftByReference_64 : decode cX5_shiftByReference 64 = .ok (.iaload, 1) := dl_o46 kcX5_shiftByReference (by decide +kernel)
theorem dX5_shiftByReference_65 : decode cX5_shiftByReference 65 = .ok (.aload_n 3, 1) := dl_o45 kcX5_shiftByReference (by decide +kernel)
theorem dX5_shiftByReference_66 : decode cX5_shiftByReference 66 = .ok (.getfield 204, 3) := dl_o180 kcX5_shiftByReference (by decide +kernel)
theorem dX5_shiftByReference_69 : decode cX5_shiftByReference 69 = .ok (.iload 4, 2) := dl_o21 kcX5_shiftByReference (by decide +kernel)
theorem dX5_shiftByReference_71 : decode cX5_shiftByReference 71 = .ok (.iaload, 1) := dl_o46 kcX5_shiftByReference (by decide +kernel)
theorem dX5_shiftByReference_72 : decode cX5_shiftByReference 72 = .ok (.isub, 1) := dl_o100 kcX5_shiftByReference (by decide +kernel)
theorem dX5_shiftByReference_73 : decode cX5_shiftByReference 73 = .ok (.i2l, 1) := dl_o133 kcX5_shiftByReference (by decide +kernel)
theorem dX5_shiftByReference_74 : decode cX5_shiftByReference 74 = .ok (.aload_n 3, 1) := dl_o45 kcX5_shiftByReference (by decide +kernel)
theorem dX5_shiftByReference_75 : decode cX5_shiftByReference 75 = .ok (.getfield 201, 3) := dl_o180 kcX5_shiftByReference (by decide +kernel)
theorem dX5_shiftByReference_78 : decode cX5_shiftByReference 78 = .ok (.iload 4, 2) := dl_o21 kcX5_shiftByReference (by decide +kernel)
theorem dX5_shiftByReference_80 : decode cX5_shiftByReference 80 = .ok (.iaload, 1) := dl_o46 kcX5_shiftByReference (by decide +kernel)
theorem dX5_shiftByReference_81 : decode cX5_shiftByReference 81 = .ok (.aload_n 3, 1) := dl_o45 kcX5_shiftByReference (by decide +kernel)
theorem dX5_shiftByReference_82 : decode cX5_shiftByReference 82 = .ok (.getfield 207, 3) := dl_o180 kcX5_shiftByReference (by decide +kernel)
theorem dX5_shiftByReference_85 : decode cX5_shiftByReference 85 = .ok (.iload 4, 2) := dl_o21 kcX5_shiftByReference (by decide +kernel)
theorem dX5_shiftByReference_87 : decode cX5_shiftByReference 87 = .ok (.iaload, 1) := dl_o46 kcX5_shiftByReference (by decide +kernel)
theorem dX5_shiftByReference_88 : decode cX5_shiftByReference 88 = .ok (.isub, 1) := dl_o100 kcX5_shiftByReference (by decide +kernel)
theorem dX5_shiftByReference_89 : decode cX5_shiftByReference 89 = .ok (.i2l, 1) := dl_o133 kcX5_shiftByReference (by decide +kernel)
theorem dX5_shiftByReference_90 : decode cX5_shiftByReference 90 = .ok (.invokevirtual 465, 3) := dl_o182 kcX5_shiftByReference (by decide +kernel)
theorem dX5_shiftByReference_93 : decode cX5_shiftByReference 93 = .ok (.lstore 5, 2) := dl_o55 kcX5_shiftByReference (by decide +kernel)
theorem dX5_shiftByReference_95 : decode cX5_shiftByReference 95 = .ok (.iload_n 1, 1) := dl_o27 kcX5_shiftByReference (by decide +kernel)
theorem dX5_shiftByReference_96 : decode cX5_shiftByReference 96 = .ok (.bipush 52, 2) := dl_o16 kcX5_shiftByReference 52 (by decide +kernel) (by decide +kernel)
theorem dX5_shiftByReference_98 : decode cX5_shiftByReference 98 = .ok (.if_icmp .ge 12, 3) := dl_o162 kcX5_shiftByReference 12 (by decide +kernel) (by decide +kernel)
theorem dX5_shiftByReference_101 : decode cX5_shiftByReference 101 = .ok (.aload_n 0, 1) := dl_o42 kcX5_shiftByReference (by decide +kernel)
theorem dX5_shiftByReference_102 : decode cX5_shiftByReference 102 = .ok (.lload 5, 2) := dl_o22 kcX5_shiftByReference (by decide +kernel)
theorem dX5_shiftByReference_104 : decode cX5_shiftByReference 104 = .ok (.invokevirtual 507, 3) := dl_o182 kcX5_shiftByReference (by decide +kernel)
theorem dX5_shiftByReference_107 : decode cX5_shiftByReference 107 = .ok (.goto 41, 3) := dl_o167 kcX5_shiftByReference 41 (by decide +kernel) (by decide +kernel)
theorem dX5_shiftByReference_110 : decode cX5_shiftByReference 110 = .ok (.iload_n 1, 1) := dl_o27 kcX5_shiftByReference (by decide +kernel)
theorem dX5_shiftByReference_111 : decode cX5_shiftByReference 111 = .ok (.bipush 54, 2) := dl_o16 kcX5_shiftByReference 54 (by decide +kernel) (by decide +kernel)
theorem dX5_shiftByReference_113 : decode cX5_shiftByReference 113 = .ok (.if_icmp .ge 26, 3) := dl_o162 kcX5_shiftByReference 26 (by decide +kernel) (by decide +kernel)
theorem dX5_shiftByReference_116 : decode cX5_shiftByReference 116 = .ok (.aload_n 0, 1) := dl_o42 kcX5_shiftByReference (by decide +kernel)
theorem dX5_shiftByReference_117 : decode cX5_shiftByReference 117 = .ok (.lload 5, 2) := dl_o22 kcX5_shiftByReference (by decide +kernel)
theorem dX5_shiftByReference_119 : decode cX5_shiftByReference 119 = .ok (.aload_n 3, 1) := dl_o45 kcX5_shiftByReference (by decide +kernel)
theorem dX5_shiftByReference_120 : decode cX5_shiftByReference 120 = .ok (.aload_n 0, 1) := dl_o42 kcX5_shiftByReference (by decide +kernel)
theorem dX5_shiftByReference_121 : decode cX5_shiftByReference 121 = .ok (.getfield 38, 3) := dl_o180 kcX5_shiftByReference (by decide +kernel)
theorem dX5_shiftByReference_124 : decode cX5_shiftByReference 124 = .ok (.if_acmp .ne 8, 3) := by decide +kernel
theorem dX5_shiftByReference_127 : decode cX5_shiftByReference 127 = .ok (.iload 4, 2) := dl_o21 kcX5_shiftByReference (by decide +kernel)
theorem dX5_shiftByReference_129 : decode cX5_shiftByReference 129 = .ok (.goto 4, 3) := dl_o167 kcX5_shiftByReference 4 (by decide +kernel) (by decide +kernel)
theorem dX5_shiftByReference_132 : decode cX5_shiftByReference 132 = .ok (.iconst (-1), 1) := dl_o2 kcX5_shiftByReference (by decide +kernel)
theorem dX5_shiftByReference_133 : decode cX5_shiftByReference 133 = .ok (.invokevirtual 510, 3) := dl_o182 kcX5_shiftByReference (by decide +kernel)
theorem dX5_shiftByReference_136 : decode cX5_shiftByReference 136 = .ok (.goto 12, 3) := dl_o167 kcX5_shiftByReference 12 (by decide +kernel) (by decide +kernel)
theorem dX5_shiftByReference_139 : decode cX5_shiftByReference 139 = .ok (.aload_n 0, 1) := dl_o42 kcX5_shiftByReference (by decide +kernel)
theorem dX5_shiftByReference_140 : decode cX5_shiftByReference 140 = .ok (.lload 5, 2) := dl_o22 kcX5_shiftByReference (by decide +kernel)
theorem dX5_shiftByReference_142 : decode cX5_shiftByReference 142 = .ok (.aload_n 3, 1) := dl_o45 kcX5_shiftByReference (by decide +kernel)
theorem dX5_shiftByReference_143 : decode cX5_shiftByReference 143 = .ok (.iload 4, 2) := dl_o21 kcX5_shiftByReference (by decide +kernel)
theorem dX5_shiftByReference_145 : decode cX5_shiftByReference 145 = .ok (.invokevirtual 514, 3) := dl_o182 kcX5_shiftByReference (by decide +kernel)
theorem dX5_shiftByReference_148 : decode cX5_shiftByReference 148 = .ok (.return_, 1) := dl_o177 kcX5_shiftByReference (by decide +kernel)
def B_X5_shiftByReference_133 (N : Nat)  (s1 : Int64) (s2 : Int32) (V : sv_V) : Option sv_V := (F_X5_shiftContour N s1 s2 V).bind (fun V1 => some V1)
set_option maxRecDepth 20000 in
theorem tB_X5_shiftByReference_133 {g : sx_G} (hG : sx_Go g) {P : Option Value → sv_V → Prop} {Vr : sv_V} (hP : P none Vr) {N : Nat}   {s1 : Int64} {s2 : Int32} {V : sv_V} (h : B_X5_shiftByReference_133 N  s1 s2 V = some Vr) : sv_N g qX5_shiftByReference 3 133 [] [.int s2, .long s1, .ref 69] V P := by
  unfold B_X5_shiftByReference_133 at h
  obtain ⟨V1, g2, h⟩ := sx_bnd h
  refine sv_cV (pc := 133) (y := qX5_shiftContour) (o := none) (as := [.long s1, .int s2]) (V1 := V1) hG dX5_shiftByReference_133 l_X5_510 y0X5_shiftContour yvX5_shiftContour rfl (Nat.le_of_ble_eq_true rfl) lay_69 kr_5 (by decide) (Nat.le_of_ble_eq_true rfl) rfl rfl rfl (t_X5_shiftContour hG ⟨rfl, rfl⟩ g2) ?_
  refine sx_goto (pc := 136) (tgt := 148) dX5_shiftByReference_136 (by decide) ?_
  exact sv_vret (pc := 148) dX5_shiftByReference_148 rfl h hP
def B_X5_shiftByReference_43 (N : Nat)  (l1 : Int32) (l3 : Nat) (s1 : Int32) (V : sv_V) : Option sv_V := if sx_in s1 3 = true then sx_let (V.1 71 s1.toNatClampNeg) (fun x4 => (F_X5_isThere l3 x4 V).bind (fun (x7, V5) => if x7 = 0 then (some V5) else (if lay l3 = .inl 8 then (cr l3 0).bind (fun b10 => (sv_len 0 b10).bind (fun n12 => if sx_in x4 n12 = true then (cr l3 2).bind (fun b15 => (sv_len 0 b15).bind (fun n17 => if sx_in x4 n17 = true then (cr l3 1).bind (fun b20 => (sv_len 0 b20).bind (fun n22 => if sx_in x4 n22 = true then (cr l3 3).bind (fun b25 => (sv_len 0 b25).bind (fun n27 => if sx_in x4 n27 = true then (F_X5_longByP (((V5.1 b10 x4.toNatClampNeg) - (V5.1 b15 x4.toNatClampNeg)).toInt64) (((V5.1 b20 x4.toNatClampNeg) - (V5.1 b25 x4.toNatClampNeg)).toInt64) V5).bind (fun (x32, V30) => if (52 : Int32) ≤ l1 then (if (54 : Int32) ≤ l1 then ((F_X5_shiftZone N x32 l3 x4 V30).bind (fun V35 => some V35)) else ((V30.2.2 69 7).bind (fun b37 => if lay b37 = .inl 8 then if l3 = b37 then (B_X5_shiftByReference_133 N  x32 x4 V30) else (B_X5_shiftByReference_133 N  x32 (-1 : Int32) V30) else none))) else ((F_X5_shiftPoints N x32 V30).bind (fun V41 => some V41))) else none)) else none)) else none)) else none)) else none))) else none
set_option maxRecDepth 20000 in
theorem tB_X5_shiftByReference_43 {g : sx_G} (hG : sx_Go g) {P : Option Value → sv_V → Prop} {Vr : sv_V} (hP : P none Vr) {N : Nat}   {l1 : Int32} {l3 : Nat} {s1 : Int32} {V : sv_V} (h : B_X5_shiftByReference_43 N  l1 l3 s1 V = some Vr) : sv_N g qX5_shiftByReference 3 43 [(0, .ref 69), (1, .int l1), (3, .ref l3)] [.int s1, .ref 71] V P := by
  unfold B_X5_shiftByReference_43 at h
  obtain ⟨g3, h⟩ := sx_grd h
  refine sv_iald (pc := 43) hG dX5_shiftByReference_43 lay_71 g3 ?_
  refine sv_tI (fun x4 hx4 => ?_)
  have h := sx_letE hx4 h
  refine sx_istore (pc := 44) (lo' := [(4, .int x4), (0, .ref 69), (1, .int l1), (3, .ref l3)]) dX5_shiftByReference_44 (by decide) rfl ?_
  refine sx_aload_n (pc := 46) dX5_shiftByReference_46 sx_m1 ?_
  refine sx_aload_n (pc := 47) dX5_shiftByReference_47 sx_m3 ?_
  refine sx_iload (pc := 48) dX5_shiftByReference_48 sx_m0 ?_
  obtain ⟨⟨x7, V5⟩, g6, h⟩ := sx_bnd h
  refine sv_cV (pc := 50) (y := qX5_isThere) (o := (some (.int x7))) (as := [.ref l3, .int x4]) (V1 := V5) hG dX5_shiftByReference_50 l_X5_259 y0X5_isThere yvX5_isThere rfl (Nat.le_of_ble_eq_true rfl) lay_69 kr_5 (by decide) (Nat.le_of_ble_eq_true rfl) rfl rfl rfl (t_X5_isThere hG ⟨rfl, rfl⟩ g6) ?_
  refine sx_if_ne (pc := 53) (tgt := 57) dX5_shiftByReference_53 (by decide) (fun c8 => ?_) (fun c8 => ?_)
  · have h := sx_neg c8 h
    refine sx_aload_n (pc := 57) dX5_shiftByReference_57 sx_m1 ?_
    refine sx_aload_n (pc := 58) dX5_shiftByReference_58 sx_m3 ?_
    obtain ⟨g9, h⟩ := sx_grd h
    obtain ⟨b10, g11, h⟩ := sx_bnd h
    refine sv_getA (pc := 59) hG dX5_shiftByReference_59 f_5_198 g9 rfl g11 ?_
    refine sx_iload (pc := 62) dX5_shiftByReference_62 sx_m0 ?_
    obtain ⟨n12, g13, h⟩ := sx_bnd h
    obtain ⟨g14, h⟩ := sx_grd h
    refine sv_iald (pc := 64) hG dX5_shiftByReference_64 (sv_len_e g13) g14 ?_
    refine sx_aload_n (pc := 65) dX5_shiftByReference_65 sx_m3 ?_
    obtain ⟨b15, g16, h⟩ := sx_bnd h
    refine sv_getA (pc := 66) hG dX5_shiftByReference_66 f_5_204 g9 rfl g16 ?_
    refine sx_iload (pc := 69) dX5_shiftByReference_69 sx_m0 ?_
    obtain ⟨n17, g18, h⟩ := sx_bnd h
    obtain ⟨g19, h⟩ := sx_grd h
    refine sv_iald (pc := 71) hG dX5_shiftByReference_71 (sv_len_e g18) g19 ?_
    refine sx_isub (pc := 72) dX5_shiftByReference_72 ?_
    refine sx_i2l (pc := 73) dX5_shiftByReference_73 ?_
    refine sx_aload_n (pc := 74) dX5_shiftByReference_74 sx_m3 ?_
    obtain ⟨b20, g21, h⟩ := sx_bnd h
    refine sv_getA (pc := 75) hG dX5_shiftByReference_75 f_5_201 g9 rfl g21 ?_
    refine sx_iload (pc := 78) dX5_shiftByReference_78 sx_m0 ?_
    obtain ⟨n22, g23, h⟩ := sx_bnd h
    obtain ⟨g24, h⟩ := sx_grd h
    refine sv_iald (pc := 80) hG dX5_shiftByReference_80 (sv_len_e g23) g24 ?_
    refine sx_aload_n (pc := 81) dX5_shiftByReference_81 sx_m3 ?_
    obtain ⟨b25, g26, h⟩ := sx_bnd h
    refine sv_getA (pc := 82) hG dX5_shiftByReference_82 f_5_207 g9 rfl g26 ?_
    refine sx_iload (pc := 85) dX5_shiftByReference_85 sx_m0 ?_
    obtain ⟨n27, g28, h⟩ := sx_bnd h
    obtain ⟨g29, h⟩ := sx_grd h
    refine sv_iald (pc := 87) hG dX5_shiftByReference_87 (sv_len_e g28) g29 ?_
    refine sx_isub (pc := 88) dX5_shiftByReference_88 ?_
    refine sx_i2l (pc := 89) dX5_shiftByReference_89 ?_
    obtain ⟨⟨x32, V30⟩, g31, h⟩ := sx_bnd h
    refine sv_cV (pc := 90) (y := qX5_longByP) (o := (some (.long x32))) (as := [.long (((V5.1 b10 x4.toNatClampNeg) - (V5.1 b15 x4.toNatClampNeg)).toInt64), .long (((V5.1 b20 x4.toNatClampNeg) - (V5.1 b25 x4.toNatClampNeg)).toInt64)]) (V1 := V30) hG dX5_shiftByReference_90 l_X5_465 y0X5_longByP yvX5_longByP rfl (Nat.le_of_ble_eq_true rfl) lay_69 kr_5 (by decide) (Nat.le_of_ble_eq_true rfl) rfl rfl rfl (t_X5_longByP hG ⟨rfl, rfl⟩ g31) ?_
    refine sx_lstore (pc := 93) (lo' := [(5, .long x32), (4, .int x4), (0, .ref 69), (1, .int l1), (3, .ref l3)]) dX5_shiftByReference_93 (by decide) rfl ?_
    refine sx_iload_n (pc := 95) dX5_shiftByReference_95 sx_m3 ?_
    refine sx_bipush (pc := 96) (v := 52) dX5_shiftByReference_96 (by decide) ?_
    refine sx_icmp_ge (pc := 98) (tgt := 110) dX5_shiftByReference_98 (by decide) (fun c33 => ?_) (fun c33 => ?_)
    · have h := sx_pos c33 h
      refine sx_iload_n (pc := 110) dX5_shiftByReference_110 sx_m3 ?_
      refine sx_bipush (pc := 111) (v := 54) dX5_shiftByReference_111 (by decide) ?_
      refine sx_icmp_ge (pc := 113) (tgt := 139) dX5_shiftByReference_113 (by decide) (fun c34 => ?_) (fun c34 => ?_)
      · have h := sx_pos c34 h
        refine sx_aload_n (pc := 139) dX5_shiftByReference_139 sx_m2 ?_
        refine sx_lload (pc := 140) dX5_shiftByReference_140 sx_m0 ?_
        refine sx_aload_n (pc := 142) dX5_shiftByReference_142 sx_m4 ?_
        refine sx_iload (pc := 143) dX5_shiftByReference_143 sx_m1 ?_
        obtain ⟨V35, g36, h⟩ := sx_bnd h
        refine sv_cV (pc := 145) (y := qX5_shiftZone) (o := none) (as := [.long x32, .ref l3, .int x4]) (V1 := V35) hG dX5_shiftByReference_145 l_X5_514 y0X5_shiftZone yvX5_shiftZone rfl (Nat.le_of_ble_eq_true rfl) lay_69 kr_5 (by decide) (Nat.le_of_ble_eq_true rfl) rfl rfl rfl (t_X5_shiftZone hG ⟨rfl, rfl⟩ g36) ?_
        exact sv_vret (pc := 148) dX5_shiftByReference_148 rfl h hP
      · have h := sx_neg c34 h
        refine sx_aload_n (pc := 116) dX5_shiftByReference_116 sx_m2 ?_
        refine sx_lload (pc := 117) dX5_shiftByReference_117 sx_m0 ?_
        refine sx_aload_n (pc := 119) dX5_shiftByReference_119 sx_m4 ?_
        refine sx_aload_n (pc := 120) dX5_shiftByReference_120 sx_m2 ?_
        obtain ⟨b37, g38, h⟩ := sx_bnd h
        refine sv_getV (pc := 121) hG dX5_shiftByReference_121 f_5_38 lay_69 rfl rfl g38 ?_
        obtain ⟨g39, h⟩ := sx_grd h
        refine sv_acmp (pc := 124) (tgt := 132) dX5_shiftByReference_124 (by decide) g9 g39 (fun c40 => ?_) (fun c40 => ?_)
        · have h := sx_neg c40 h
          refine sx_iconst (pc := 132) (v := (-1)) dX5_shiftByReference_132 (by decide) ?_
          refine sx_wk sx_s0 ?_
          exact tB_X5_shiftByReference_133 hG hP  h
        · have h := sx_pos c40 h
          refine sx_iload (pc := 127) dX5_shiftByReference_127 sx_m1 ?_
          refine sx_goto (pc := 129) (tgt := 133) dX5_shiftByReference_129 (by decide) ?_
          refine sx_wk sx_s0 ?_
          exact tB_X5_shiftByReference_133 hG hP  h
    · have h := sx_neg c33 h
      refine sx_aload_n (pc := 101) dX5_shiftByReference_101 sx_m2 ?_
      refine sx_lload (pc := 102) dX5_shiftByReference_102 sx_m0 ?_
      obtain ⟨V41, g42, h⟩ := sx_bnd h
      refine sv_cV (pc := 104) (y := qX5_shiftPoints) (o := none) (as := [.long x32]) (V1 := V41) hG dX5_shiftByReference_104 l_X5_507 y0X5_shiftPoints yvX5_shiftPoints rfl (Nat.le_of_ble_eq_true rfl) lay_69 kr_5 (by decide) (Nat.le_of_ble_eq_true rfl) rfl rfl rfl (t_X5_shiftPoints hG ⟨rfl, rfl⟩ g42) ?_
      refine sx_goto (pc := 107) (tgt := 148) dX5_shiftByReference_107 (by decide) ?_
      exact sv_vret (pc := 148) dX5_shiftByReference_148 rfl h hP
  · have h := sx_pos c8 h
    exact sv_vret (pc := 56) dX5_shiftByReference_56 rfl h hP
def B_X5_shiftByReference_23 (N : Nat)  (l1 : Int32) (l2 : Int32) (s1 : Int32) (V : sv_V) : Option sv_V := (F_X5_zone s1 V).bind (fun (x45, V43) => if l2 = 0 then (B_X5_shiftByReference_43 N  l1 x45 (2 : Int32) V43) else (B_X5_shiftByReference_43 N  l1 x45 (1 : Int32) V43))
set_option maxRecDepth 20000 in
theorem tB_X5_shiftByReference_23 {g : sx_G} (hG : sx_Go g) {P : Option Value → sv_V → Prop} {Vr : sv_V} (hP : P none Vr) {N : Nat}   {l1 : Int32} {l2 : Int32} {s1 : Int32} {V : sv_V} (h : B_X5_shiftByReference_23 N  l1 l2 s1 V = some Vr) : sv_N g qX5_shiftByReference 3 23 [(0, .ref 69), (1, .int l1), (2, .int l2)] [.int s1, .ref 69] V P := by
  unfold B_X5_shiftByReference_23 at h
  obtain ⟨⟨x45, V43⟩, g44, h⟩ := sx_bnd h
  refine sv_cV (pc := 23) (y := qX5_zone) (o := (some (.ref x45))) (as := [.int s1]) (V1 := V43) hG dX5_shiftByReference_23 l_X5_255 y0X5_zone yvX5_zone rfl (Nat.le_of_ble_eq_true rfl) lay_69 kr_5 (by decide) (Nat.le_of_ble_eq_true rfl) rfl rfl rfl (t_X5_zone hG ⟨rfl, rfl⟩ g44) ?_
  refine sx_astore_n (pc := 26) (lo' := [(3, .ref x45), (0, .ref 69), (1, .int l1), (2, .int l2)]) dX5_shiftByReference_26 (by decide) rfl ?_
  refine sx_aload_n (pc := 27) dX5_shiftByReference_27 sx_m1 ?_
  refine sv_getO (pc := 28) hG dX5_shiftByReference_28 f_5_12 lay_69 rfl cr_69_1 ?_
  refine sv_getA (pc := 31) hG dX5_shiftByReference_31 f_5_275 lay_70 rfl cr_70_6 ?_
  refine sx_iload_n (pc := 34) dX5_shiftByReference_34 sx_m3 ?_
  refine sx_if_eq (pc := 35) (tgt := 42) dX5_shiftByReference_35 (by decide) (fun c46 => ?_) (fun c46 => ?_)
  · have h := sx_pos c46 h
    refine sx_iconst (pc := 42) (v := 2) dX5_shiftByReference_42 (by decide) ?_
    refine sx_wk (sx_s1 sx_m1 (sx_s1 sx_m2 (sx_s1 sx_m0 sx_s0))) ?_
    exact tB_X5_shiftByReference_43 hG hP  h
  · have h := sx_neg c46 h
    refine sx_iconst (pc := 38) (v := 1) dX5_shiftByReference_38 (by decide) ?_
    refine sx_goto (pc := 39) (tgt := 43) dX5_shiftByReference_39 (by decide) ?_
    refine sx_wk (sx_s1 sx_m1 (sx_s1 sx_m2 (sx_s1 sx_m0 sx_s0))) ?_
    exact tB_X5_shiftByReference_43 hG hP  h
def B_X5_shiftByReference_12 (N : Nat)  (l1 : Int32) (s0 : Int32) (V : sv_V) : Option sv_V := if s0 = 0 then (B_X5_shiftByReference_23 N  l1 s0 (1 : Int32) V) else (B_X5_shiftByReference_23 N  l1 s0 (0 : Int32) V)
set_option maxRecDepth 20000 in
theorem tB_X5_shiftByReference_12 {g : sx_G} (hG : sx_Go g) {P : Option Value → sv_V → Prop} {Vr : sv_V} (hP : P none Vr) {N : Nat}   {l1 : Int32} {s0 : Int32} {V : sv_V} (h : B_X5_shiftByReference_12 N  l1 s0 V = some Vr) : sv_N g qX5_shiftByReference 3 12 [(0, .ref 69), (1, .int l1)] [.int s0] V P := by
  unfold B_X5_shiftByReference_12 at h
  refine sx_istore_n (pc := 12) (lo' := [(2, .int s0), (0, .ref 69), (1, .int l1)]) dX5_shiftByReference_12 (by decide) rfl ?_
  refine sx_aload_n (pc := 13) dX5_shiftByReference_13 sx_m1 ?_
  refine sx_iload_n (pc := 14) dX5_shiftByReference_14 sx_m0 ?_
  refine sx_if_eq (pc := 15) (tgt := 22) dX5_shiftByReference_15 (by decide) (fun c47 => ?_) (fun c47 => ?_)
  · have h := sx_pos c47 h
    refine sx_iconst (pc := 22) (v := 1) dX5_shiftByReference_22 (by decide) ?_
    refine sx_wk (sx_s1 sx_m1 (sx_s1 sx_m2 (sx_s1 sx_m0 sx_s0))) ?_
    exact tB_X5_shiftByReference_23 hG hP  h
  · have h := sx_neg c47 h
    refine sx_iconst (pc := 18) (v := 0) dX5_shiftByReference_18 (by decide) ?_
    refine sx_goto (pc := 19) (tgt := 23) dX5_shiftByReference_19 (by decide) ?_
    refine sx_wk (sx_s1 sx_m1 (sx_s1 sx_m2 (sx_s1 sx_m0 sx_s0))) ?_
    exact tB_X5_shiftByReference_23 hG hP  h
def F_X5_shiftByReference (N : Nat) (l1 : Int32) (V : sv_V) : Option sv_V := if (l1 &&& (1 : Int32)) = (1 : Int32) then (B_X5_shiftByReference_12 N  l1 (1 : Int32) V) else (B_X5_shiftByReference_12 N  l1 (0 : Int32) V)
set_option maxRecDepth 20000 in
theorem t_X5_shiftByReference {g : sx_G} (hG : sx_Go g) {P : Option Value → sv_V → Prop} {Vr : sv_V} (hP : P none Vr) {N : Nat} {l1 : Int32} {V : sv_V} (h : F_X5_shiftByReference N l1 V = some Vr) : sv_N g qX5_shiftByReference 3 0 [(0, .ref 69), (1, .int l1)] [] V P := by
  unfold F_X5_shiftByReference at h
  refine sx_iload_n (pc := 0) dX5_shiftByReference_0 sx_m1 ?_
  refine sx_iconst (pc := 1) (v := 1) dX5_shiftByReference_1 (by decide) ?_
  refine sx_iand (pc := 2) dX5_shiftByReference_2 ?_
  refine sx_iconst (pc := 3) (v := 1) dX5_shiftByReference_3 (by decide) ?_
  refine sx_icmp_ne (pc := 4) (tgt := 11) dX5_shiftByReference_4 (by decide) (fun c48 => ?_) (fun c48 => ?_)
  · have h := sx_neg c48 h
    refine sx_iconst (pc := 11) (v := 0) dX5_shiftByReference_11 (by decide) ?_
    refine sx_wk (sx_s1 sx_m0 (sx_s1 sx_m1 sx_s0)) ?_
    exact tB_X5_shiftByReference_12 hG hP  h
  · have h := sx_pos c48 h
    refine sx_iconst (pc := 7) (v := 1) dX5_shiftByReference_7 (by decide) ?_
    refine sx_goto (pc := 8) (tgt := 12) dX5_shiftByReference_8 (by decide) ?_
    refine sx_wk (sx_s1 sx_m0 (sx_s1 sx_m1 sx_s0)) ?_
    exact tB_X5_shiftByReference_12 hG hP  h
end
section
/-! methods: X5_moveToCvt, X5_moveAsOriginal, X5_moveAsCvt, X5_deltaCodes, X6_offset, X7_renew, X8_beginProgram, X9_renew, X10_trace, X10_holds, X11_glyphOf -/
def ncX5_moveToCvt : Nat := 21070976399121797673215168188778618536691909297740570275508374931110675522079771407628571478930024307674927258613780414933991173101655611688828041578807225183527858605474558458329334812143937694388253273541190638250270002192535545666310630085925648641933869113880827744873942858872342967028051578587521732464982414231025357359104864455082030253588143833792335655638002238530123888430302946594592347966121929379883461648835293957109290
theorem kcX5_moveToCvt : CK cX5_moveToCvt ncX5_moveToCvt 180 := ⟨by decide +kernel, by decide +kernel⟩
theorem dX5_moveToCvt_0 : decode cX5_moveToCvt 0 = .ok (.aload_n 0, 1) := dl_o42 kcX5_moveToCvt (by decide +kernel)
theorem dX5_moveToCvt_1 : decode cX5_moveToCvt 1 = .ok (.invokevirtual 242, 3) := dl_o182 kcX5_moveToCvt (by decide +kernel)
theorem dX5_moveToCvt_4 : decode cX5_moveToCvt 4 = .ok (.istore_n 2, 1) := dl_o61 kcX5_moveToCvt (by decide +kernel)
theorem dX5_moveToCvt_5 : decode cX5_moveToCvt 5 = .ok (.aload_n 0, 1) := dl_o42 kcX5_moveToCvt (by decide +kernel)
theorem dX5_moveToCvt_6 : decode cX5_moveToCvt 6 = .ok (.invokevirtual 242, 3) := dl_o182 kcX5_moveToCvt (by decide +kernel)
theorem dX5_moveToCvt_9 : decode cX5_moveToCvt 9 = .ok (.istore_n 3, 1) := dl_o62 kcX5_moveToCvt (by decide +kernel)
theorem dX5_moveToCvt_10 : decode cX5_moveToCvt 10 = .ok (.aload_n 0, 1) := dl_o42 kcX5_moveToCvt (by decide +kernel)
theorem dX5_moveToCvt_11 : decode cX5_moveToCvt 11 = .ok (.iconst 0, 1) := dl_o3 kcX5_moveToCvt (by decide +kernel)
theorem dX5_moveToCvt_12 : decode cX5_moveToCvt 12 = .ok (.invokevirtual 255, 3) := dl_o182 kcX5_moveToCvt (by decide +kernel)
theorem dX5_moveToCvt_15 : decode cX5_moveToCvt 15 = .ok (.astore 4, 2) := dl_o58 kcX5_moveToCvt (by decide +kernel)
theorem dX5_moveToCvt_17 : decode cX5_moveToCvt 17 = .ok (.aload_n 0, 1) := dl_o42 kcX5_moveToCvt (by decide +kernel)
theorem dX5_moveToCvt_18 : decode cX5_moveToCvt 18 = .ok (.aload 4, 2) := dl_o25 kcX5_moveToCvt (by decide +kernel)
theorem dX5_moveToCvt_20 : decode cX5_moveToCvt 20 = .ok (.iload_n 3, 1) := dl_o29 kcX5_moveToCvt (by decide +kernel)
theorem dX5_moveToCvt_21 : decode cX5_moveToCvt 21 = .ok (.invokevirtual 259, 3) := dl_o182 kcX5_moveToCvt (by decide +kernel)
theorem dX5_moveToCvt_24 : decode cX5_moveToCvt 24 = .ok (.ifCond .ne 4, 3) := dl_o154 kcX5_moveToCvt 4 (by decide +kernel) (by decide +kernel)
theorem dX5_moveToCvt_27 : decode cX5_moveToCvt 27 = .ok (.return_, 1) := dl_o177 kcX5_moveToCvt (by decide +kernel)
theorem dX5_moveToCvt_28 : decode cX5_moveToCvt 28 = .ok (.aload_n 0, 1) := dl_o42 kcX5_moveToCvt (by decide +kernel)
theorem dX5_moveToCvt_29 : decode cX5_moveToCvt 29 = .ok (.getfield 49, 3) := dl_o180 kcX5_moveToCvt (by decide +kernel)
theorem dX5_moveToCvt_32 : decode cX5_moveToCvt 32 = .ok (.iload_n 2, 1) := dl_o28 kcX5_moveToCvt (by decide +kernel)
theorem dX5_moveToCvt_33 : decode cX5_moveToCvt 33 = .ok (.invokevirtual 405, 3) := dl_o182 kcX5_moveToCvt (by decide +kernel)
theorem dX5_moveToCvt_36 : decode cX5_moveToCvt 36 = .ok (.ifCond .ne 10, 3) := dl_o154 kcX5_moveToCvt 10 (by decide +kernel) (by decide +kernel)
theorem dX5_moveToCvt_39 : decode cX5_moveToCvt 39 = .ok (.aload_n 0, 1) := dl_o42 kcX5_moveToCvt (by decide +kernel)
theorem dX5_moveToCvt_40 : decode cX5_moveToCvt 40 = .ok (.bipush 6, 2) := dl_o16 kcX5_moveToCvt 6 (by decide +kernel) (by decide +kernel)
theorem dX5_moveToCvt_42 : decode cX5_moveToCvt 42 = .ok (.putfield 56, 3) := dl_o181 kcX5_moveToCvt (by decide +kernel)
theorem dX5_moveToCvt_45 : decode cX5_moveToCvt 45 = .ok (.return_, 1) := dl_o177 kcX5_moveToCvt (by decide +kernel)
theorem dX5_moveToCvt_46 : decode cX5_moveToCvt 46 = .ok (.aload_n 0, 1) := dl_o42 kcX5_moveToCvt (by decide +kernel)
theorem dX5_moveToCvt_47 : decode cX5_moveToCvt 47 = .ok (.getfield 49, 3) := dl_o180 kcX5_moveToCvt (by decide +kernel)
theorem dX5_moveToCvt_50 : decode cX5_moveToCvt 50 = .ok (.getfield 411, 3) := dl_o180 kcX5_moveToCvt (by decide +kernel)
theorem dX5_moveToCvt_53 : decode cX5_moveToCvt 53 = .ok (.iload_n 2, 1) := dl_o28 kcX5_moveToCvt (by decide +kernel)
theorem dX5_moveToCvt_54 : decode cX5_moveToCvt 54 = .ok (.iaload, 1) := dl_o46 kcX5_moveToCvt (by decide +kernel)
theorem dX5_moveToCvt_55 : decode cX5_moveToCvt 55 = .ok (.i2l, 1) := dl_o133 kcX5_moveToCvt (by decide +kernel)
theorem dX5_moveToCvt_56 : decode cX5_moveToCvt 56 = .ok (.lstore 5, 2) := dl_o55 kcX5_moveToCvt (by decide +kernel)
theorem dX5_moveToCvt_58 : decode cX5_moveToCvt 58 = .ok (.aload_n 0, 1) := dl_o42 kcX5_moveToCvt (by decide +kernel)
theorem dX5_moveToCvt_59 : decode cX5_moveToCvt 59 = .ok (.getfield 12, 3) := dl_o180 kcX5_moveToCvt (by decide +kernel)
theorem dX5_moveToCvt_62 : decode cX5_moveToCvt 62 = .ok (.getfield 172, 3) := dl_o180 kcX5_moveToCvt (by decide +kernel)
theorem dX5_moveToCvt_65 : decode cX5_moveToCvt 65 = .ok (.iconst 0, 1) := dl_o3 kcX5_moveToCvt (by decide +kernel)
theorem dX5_moveToCvt_66 : decode cX5_moveToCvt 66 = .ok (.iaload, 1) := dl_o46 kcX5_moveToCvt (by decide +kernel)
theorem dX5_moveToCvt_67 : decode cX5_moveToCvt 67 = .ok (.ifCond .ne 14, 3) := dl_o154 kcX5_moveToCvt 14 (by decide +kernel) (by decide +kernel)
theorem dX5_moveToCvt_70 : decode cX5_moveToCvt 70 = .ok (.aload_n 0, 1) := dl_o42 kcX5_moveToCvt (by decide +kernel)
theorem dX5_moveToCvt_71 : decode cX5_moveToCvt 71 = .ok (.aload 4, 2) := dl_o25 kcX5_moveToCvt (by decide +kernel)
theorem dX5_moveToCvt_73 : decode cX5_moveToCvt 73 = .ok (.iload_n 3, 1) := dl_o29 kcX5_moveToCvt (by decide +kernel)
theorem dX5_moveToCvt_74 : decode cX5_moveToCvt 74 = .ok (.iconst 0, 1) := dl_o3 kcX5_moveToCvt (by decide +kernel)
theorem dX5_moveToCvt_75 : decode cX5_moveToCvt 75 = .ok (.iconst 0, 1) := dl_o3 kcX5_moveToCvt (by decide +kernel)
theorem dX5_moveToCvt_76 : decode cX5_moveToCvt 76 = .ok (.lload 5, 2) := dl_o22 kcX5_moveToCvt (by decide +kernel)
theorem dX5_moveToCvt_78 : decode cX5_moveToCvt 78 = .ok (.invokevirtual 530, 3) := dl_o182 kcX5_moveToCvt (by decide +kernel)
theorem dX5_moveToCvt_81 : decode cX5_moveToCvt 81 = .ok (.aload_n 0, 1) := dl_o42 kcX5_moveToCvt (by decide +kernel)
theorem dX5_moveToCvt_82 : decode cX5_moveToCvt 82 = .ok (.aload 4, 2) := dl_o25 kcX5_moveToCvt (by decide +kernel)
theorem dX5_moveToCvt_84 : decode cX5_moveToCvt 84 = .ok (.getfield 198, 3) := dl_o180 kcX5_moveToCvt (by decide +kernel)
theorem dX5_moveToCvt_87 : decode cX5_moveToCvt 87 = .ok (.iload_n 3, 1) := dl_o29 kcX5_moveToCvt (by decide +kernel)
theorem dX5_moveToCvt_88 : decode cX5_moveToCvt 88 = .ok (.iaload, 1) := dl_o46 kcX5_moveToCvt (by decide +kernel)
theorem dX5_moveToCvt_89 : decode cX5_moveToCvt 89 = .ok (.i2l, 1) := dl_o133 kcX5_moveToCvt (by decide +kernel)
theorem dX5_moveToCvt_90 : decode cX5_moveToCvt 90 = .ok (.aload 4, 2) := dl_o25 kcX5_moveToCvt (by decide +kernel)
theorem dX5_moveToCvt_92 : decode cX5_moveToCvt 92 = .ok (.getfield 201, 3) := dl_o180 kcX5_moveToCvt (by decide +kernel)
theorem dX5_moveToCvt_95 : decode cX5_moveToCvt 95 = .ok (.iload_n 3, 1) := dl_o29 kcX5_moveToCvt (by decide +kernel)
theorem dX5_moveToCvt_96 : decode cX5_moveToCvt 96 = .ok (.iaload, 1) := dl_o46 kcX5_moveToCvt (by decide +kernel)
theorem dX5_moveToCvt_97 : decode cX5_moveToCvt 97 = .ok (.i2l, 1) := dl_o133 kcX5_moveToCvt (by decide +kernel)
theorem dX5_moveToCvt_98 : decode cX5_moveToCvt 98 = .ok (.invokevirtual 465, 3) := dl_o182 kcX5_moveToCvt (by decide +kernel)
theorem dX5_moveToCvt_101 : decode cX5_moveToCvt 101 = .ok (.lstore 7, 2) := dl_o55 kcX5_moveToCvt (by decide +kernel)
theorem dX5_moveToCvt_103 : decode cX5_moveToCvt 103 = .ok (.iload_n 1, 1) := dl_o27 kcX5_moveToCvt (by decide +kernel)
theorem dX5_moveToCvt_104 : decode cX5_moveToCvt 104 = .ok (.bipush 63, 2) := dl_o16 kcX5_moveToCvt 63 (by decide +kernel) (by decide +kernel)
theorem dX5_moveToCvt_106 : decode cX5_moveToCvt 106 = .ok (.if_icmp .ne 41, 3) := dl_o160 kcX5_moveToCvt 41 (by decide +kernel) (by decide +kernel)
theorem dX5_moveToCvt_109 : decode cX5_moveToCvt 109 = .ok (.aload_n 0, 1) := dl_o42 kcX5_moveToCvt (by decide +kernel)
theorem dX5_moveToCvt_110 : decode cX5_moveToCvt 110 = .ok (.getfield 12, 3) := dl_o180 kcX5_moveToCvt (by decide +kernel)
theorem dX5_moveToCvt_113 : decode cX5_moveToCvt 113 = .ok (.lload 5, 2) := dl_o22 kcX5_moveToCvt (by decide +kernel)
theorem dX5_moveToCvt_115 : decode cX5_moveToCvt 115 = .ok (.lload 7, 2) := dl_o22 kcX5_moveToCvt (by decide +kernel)
theorem dX5_moveToCvt_117 : decode cX5_moveToCvt 117 = .ok (.lsub, 1) := dl_o101 kcX5_moveToCvt (by decide +kernel)
theorem dX5_moveToCvt_118 : decode cX5_moveToCvt 118 = .ok (.invokestatic 538, 3) := dl_o184 kcX5_moveToCvt (by decide +kernel)
theorem dX5_moveToCvt_121 : decode cX5_moveToCvt 121 = .ok (.aload_n 0, 1) := dl_o42 kcX5_moveToCvt (by decide +kernel)
theorem dX5_moveToCvt_122 : decode cX5_moveToCvt 122 = .ok (.getfield 49, 3) := dl_o180 kcX5_moveToCvt (by decide +kernel)
theorem dX5_moveToCvt_125 : decode cX5_moveToCvt 125 = .ok (.getfield 272, 3) := dl_o180 kcX5_moveToCvt (by decide +kernel)
theorem dX5_moveToCvt_128 : decode cX5_moveToCvt 128 = .ok (.iconst 0, 1) := dl_o3 kcX5_moveToCvt (by decide +kernel)
theorem dX5_moveToCvt_129 : decode cX5_moveToCvt 129 = .ok (.iaload, 1) := dl_o46 kcX5_moveToCvt (by decide +kernel)
theorem dX5_moveToCvt_130 : decode cX5_moveToCvt 130 = .ok (.i2l, 1) := dl_o133 kcX5_moveToCvt (by decide +kernel)
theorem dX5_moveToCvt_131 : decode cX5_moveToCvt 131 = .ok (.lcmp, 1) := dl_o148 kcX5_moveToCvt (by decide +kernel)
theorem dX5_moveToCvt_132 : decode cX5_moveToCvt 132 = .ok (.ifCond .le 8, 3) := dl_o158 kcX5_moveToCvt 8 (by decide +kernel) (by decide +kernel)
theorem dX5_moveToCvt_135 : decode cX5_moveToCvt 135 = .ok (.lload 7, 2) := dl_o22 kcX5_moveToCvt (by decide +kernel)
theorem dX5_moveToCvt_137 : decode cX5_moveToCvt 137 = .ok (.goto 5, 3) := dl_o167 kcX5_moveToCvt 5 (by decide +kernel) (by decide +kernel)
theorem dX5_moveToCvt_140 : decode cX5_moveToCvt 140 = .ok (.lload 5, 2) := dl_o22 kcX5_moveToCvt (by decide +kernel)
theorem dX5_moveToCvt_142 : decode cX5_moveToCvt 142 = .ok (.invokevirtual 414, 3) := dl_o182 kcX5_moveToCvt (by decide +kernel)
theorem dX5_moveToCvt_145 : decode cX5_moveToCvt 145 = .ok (.lstore 5, 2) := dl_o55 kcX5_moveToCvt (by decide +kernel)
theorem dX5_moveToCvt_147 : decode cX5_moveToCvt 147 = .ok (.aload_n 0, 1) := dl_o42 kcX5_moveToCvt (by decide +kernel)
theorem dX5_moveToCvt_148 : decode cX5_moveToCvt 148 = .ok (.aload 4, 2) := dl_o25 kcX5_moveToCvt (by decide +kernel)
theorem dX5_moveToCvt_150 : decode cX5_moveToCvt 150 = .ok (.iload_n 3, 1) := dl_o29 kcX5_moveToCvt (by decide +kernel)
theorem dX5_moveToCvt_151 : decode cX5_moveToCvt 151 = .ok (.lload 5, 2) := dl_o22 kcX5_moveToCvt (by decide +kernel)
theorem dX5_moveToCvt_153 : decode cX5_moveToCvt 153 = .ok (.lload 7, 2) := dl_o22 kcX5_moveToCvt (by decide +kernel)
theorem dX5_moveToCvt_155 : decode cX5_moveToCvt 155 = .ok (.lsub, 1) := dl_o101 kcX5_moveToCvt (by decide +kernel)
theorem dX5_moveToCvt_156 : decode cX5_moveToCvt 156 = .ok (.invokevirtual 461, 3) := dl_o182 kcX5_moveToCvt (by decide +kernel)
theorem dX5_moveToCvt_159 : decode cX5_moveToCvt 159 = .ok (.aload_n 0, 1) := dl_o42 kcX5_moveToCvt (by decide +kernel)
theorem dX5_moveToCvt_160 : decode cX5_moveToCvt 160 = .ok (.getfield 12, 3) := dl_o180 kcX5_moveToCvt (by decide +kernel)
theorem dX5_moveToCvt_163 : decode cX5_moveToCvt 163 = .ok (.getfield 275, 3) := dl_o180 kcX5_moveToCvt (by decide +kernel)
theorem dX5_moveToCvt_166 : decode cX5_moveToCvt 166 = .ok (.iconst 0, 1) := dl_o3 kcX5_moveToCvt (by decide +kernel)
theorem dX5_moveToCvt_167 : decode cX5_moveToCvt 167 = .ok (.iload_n 3, 1) := dl_o29 kcX5_moveToCvt (by decide +kernel)
theorem dX5_moveToCvt_168 : decode cX5_moveToCvt 168 = .ok (.iastore, 1) := dl_o79 kcX5_moveToCvt (by decide +kernel)
theorem dX5_moveToCvt_169 : decode cX5_moveToCvt 169 = .ok (.aload_n 0, 1) := dl_o42 kcX5_moveToCvt (by decide +kernel)
theorem dX5_moveToCvt_170 : decode cX5_moveToCvt 170 = .ok (.getfield 12, 3) := dl_o180 kcX5_moveToCvt (by decide +kernel)
theorem dX5_moveToCvt_173 : decode cX5_moveToCvt 173 = .ok (.getfield 275, 3) := dl_o180 kcX5_moveToCvt (by decide +kernel)
theorem dX5_moveToCvt_176 : decode cX5_moveToCvt 176 = .ok (.iconst 1, 1) := dl_o4 kcX5_moveToCvt (by decide +kernel)
theorem dX5_moveToCvt_177 : decode cX5_moveToCvt 177 = .ok (.iload_n 3, 1) := dl_o29 kcX5_moveToCvt (by decide +kernel)
theorem dX5_moveToCvt_178 : decode cX5_moveToCvt 178 = .ok (.iastore, 1) := dl_o79 kcX5_moveToCvt (by decide +kernel)
theorem dX5_moveToCvt_179 : decode cX5_moveToCvt 179 = .ok (.return_, 1) := dl_o177 kcX5_moveToCvt (by decide +kernel)
def B_X5_moveToCvt_147  (l3 : Int32) (l4 : Nat) (l5 : Int64) (l7 : Int64) (V : sv_V) : Option sv_V := (F_X5_move l4 l3 (l5 - l7) V).bind (fun V1 => sx_let (sv_I V1 71 (0 : Int32).toNatClampNeg l3) (fun V3 => sx_let (sv_I V3 71 (1 : Int32).toNatClampNeg l3) (fun V4 => some V4)))
set_option maxRecDepth 20000 in
theorem tB_X5_moveToCvt_147 {g : sx_G} (hG : sx_Go g) {P : Option Value → sv_V → Prop} {Vr : sv_V} (hP : P none Vr)   {l3 : Int32} {l4 : Nat} {l5 : Int64} {l7 : Int64} {V : sv_V} (h : B_X5_moveToCvt_147  l3 l4 l5 l7 V = some Vr) : sv_N g qX5_moveToCvt 2 147 [(0, .ref 69), (3, .int l3), (4, .ref l4), (5, .long l5), (7, .long l7)] [] V P := by
  unfold B_X5_moveToCvt_147 at h
  refine sx_aload_n (pc := 147) dX5_moveToCvt_147 sx_m0 ?_
  refine sx_aload (pc := 148) dX5_moveToCvt_148 sx_m2 ?_
  refine sx_iload_n (pc := 150) dX5_moveToCvt_150 sx_m1 ?_
  refine sx_lload (pc := 151) dX5_moveToCvt_151 sx_m3 ?_
  refine sx_lload (pc := 153) dX5_moveToCvt_153 sx_m4 ?_
  refine sx_lsub (pc := 155) dX5_moveToCvt_155 ?_
  obtain ⟨V1, g2, h⟩ := sx_bnd h
  refine sv_cV (pc := 156) (y := qX5_move) (o := none) (as := [.ref l4, .int l3, .long (l5 - l7)]) (V1 := V1) hG dX5_moveToCvt_156 l_X5_461 y0X5_move yvX5_move rfl (Nat.le_of_ble_eq_true rfl) lay_69 kr_5 (by decide) (Nat.le_of_ble_eq_true rfl) rfl rfl rfl (t_X5_move hG ⟨rfl, rfl⟩ g2) ?_
  refine sx_aload_n (pc := 159) dX5_moveToCvt_159 sx_m0 ?_
  refine sv_getO (pc := 160) hG dX5_moveToCvt_160 f_5_12 lay_69 rfl cr_69_1 ?_
  refine sv_getA (pc := 163) hG dX5_moveToCvt_163 f_5_275 lay_70 rfl cr_70_6 ?_
  refine sx_iconst (pc := 166) (v := 0) dX5_moveToCvt_166 (by decide) ?_
  refine sx_iload_n (pc := 167) dX5_moveToCvt_167 sx_m1 ?_
  obtain ⟨V3, hV3⟩ : ∃ z : sv_V, z = sv_I V1 71 (0 : Int32).toNatClampNeg l3 := ⟨_, rfl⟩
  have h := sx_letE hV3 h
  refine sv_iast (pc := 168) hG dX5_moveToCvt_168 lay_71 (by decide) hV3 ?_
  refine sx_aload_n (pc := 169) dX5_moveToCvt_169 sx_m0 ?_
  refine sv_getO (pc := 170) hG dX5_moveToCvt_170 f_5_12 lay_69 rfl cr_69_1 ?_
  refine sv_getA (pc := 173) hG dX5_moveToCvt_173 f_5_275 lay_70 rfl cr_70_6 ?_
  refine sx_iconst (pc := 176) (v := 1) dX5_moveToCvt_176 (by decide) ?_
  refine sx_iload_n (pc := 177) dX5_moveToCvt_177 sx_m1 ?_
  obtain ⟨V4, hV4⟩ : ∃ z : sv_V, z = sv_I V3 71 (1 : Int32).toNatClampNeg l3 := ⟨_, rfl⟩
  have h := sx_letE hV4 h
  refine sv_iast (pc := 178) hG dX5_moveToCvt_178 lay_71 (by decide) hV4 ?_
  exact sv_vret (pc := 179) dX5_moveToCvt_179 rfl h hP
def B_X5_moveToCvt_142  (l3 : Int32) (l4 : Nat) (l7 : Int64) (s1 : Int64) (V : sv_V) : Option sv_V := (F_X9_rounded s1 V).bind (fun (x7, V5) => B_X5_moveToCvt_147  l3 l4 x7 l7 V5)
set_option maxRecDepth 20000 in
theorem tB_X5_moveToCvt_142 {g : sx_G} (hG : sx_Go g) {P : Option Value → sv_V → Prop} {Vr : sv_V} (hP : P none Vr)   {l3 : Int32} {l4 : Nat} {l7 : Int64} {s1 : Int64} {V : sv_V} (h : B_X5_moveToCvt_142  l3 l4 l7 s1 V = some Vr) : sv_N g qX5_moveToCvt 2 142 [(0, .ref 69), (3, .int l3), (4, .ref l4), (7, .long l7)] [.long s1, .ref 70] V P := by
  unfold B_X5_moveToCvt_142 at h
  obtain ⟨⟨x7, V5⟩, g6, h⟩ := sx_bnd h
  refine sv_cV (pc := 142) (y := qX9_rounded) (o := (some (.long x7))) (as := [.long s1]) (V1 := V5) hG dX5_moveToCvt_142 l_X5_414 y0X9_rounded yvX9_rounded rfl (Nat.le_of_ble_eq_true rfl) lay_70 kr_9 (by decide) (Nat.le_of_ble_eq_true rfl) rfl rfl rfl (t_X9_rounded hG ⟨rfl, rfl⟩ g6) ?_
  refine sx_lstore (pc := 145) (lo' := [(5, .long x7), (0, .ref 69), (3, .int l3), (4, .ref l4), (7, .long l7)]) dX5_moveToCvt_145 (by decide) rfl ?_
  refine sx_wk (sx_s1 sx_m1 (sx_s1 sx_m2 (sx_s1 sx_m3 (sx_s1 sx_m0 (sx_s1 sx_m4 sx_s0))))) ?_
  exact tB_X5_moveToCvt_147 hG hP  h
def B_X5_moveToCvt_81  (l1 : Int32) (l3 : Int32) (l4 : Nat) (l5 : Int64) (V : sv_V) : Option sv_V := if lay l4 = .inl 8 then (cr l4 0).bind (fun b9 => (sv_len 0 b9).bind (fun n11 => if sx_in l3 n11 = true then (cr l4 1).bind (fun b14 => (sv_len 0 b14).bind (fun n16 => if sx_in l3 n16 = true then (F_X5_longByP ((V.1 b9 l3.toNatClampNeg).toInt64) ((V.1 b14 l3.toNatClampNeg).toInt64) V).bind (fun (x21, V19) => if l1 = (63 : Int32) then ((F_J9_abs_067f4 (l5 - x21) V19).bind (fun (x25, V23) => (V23.2.2 69 6).bind (fun b26 => if lay b26 = .inl 7 then (cr b26 5).bind (fun b29 => (sv_len 0 b29).bind (fun n31 => if sx_in (0 : Int32) n31 = true then if (lg_cmp x25 ((V23.1 b29 (0 : Int32).toNatClampNeg).toInt64)) ≤ 0 then (B_X5_moveToCvt_142  l3 l4 x21 l5 V23) else (B_X5_moveToCvt_142  l3 l4 x21 x21 V23) else none)) else none))) else (B_X5_moveToCvt_147  l3 l4 l5 x21 V19)) else none)) else none)) else none
set_option maxRecDepth 20000 in
theorem tB_X5_moveToCvt_81 {g : sx_G} (hG : sx_Go g) {P : Option Value → sv_V → Prop} {Vr : sv_V} (hP : P none Vr)   {l1 : Int32} {l3 : Int32} {l4 : Nat} {l5 : Int64} {V : sv_V} (h : B_X5_moveToCvt_81  l1 l3 l4 l5 V = some Vr) : sv_N g qX5_moveToCvt 2 81 [(0, .ref 69), (1, .int l1), (3, .int l3), (4, .ref l4), (5, .long l5)] [] V P := by
  unfold B_X5_moveToCvt_81 at h
  refine sx_aload_n (pc := 81) dX5_moveToCvt_81 sx_m0 ?_
  refine sx_aload (pc := 82) dX5_moveToCvt_82 sx_m3 ?_
  obtain ⟨g8, h⟩ := sx_grd h
  obtain ⟨b9, g10, h⟩ := sx_bnd h
  refine sv_getA (pc := 84) hG dX5_moveToCvt_84 f_5_198 g8 rfl g10 ?_
  refine sx_iload_n (pc := 87) dX5_moveToCvt_87 sx_m2 ?_
  obtain ⟨n11, g12, h⟩ := sx_bnd h
  obtain ⟨g13, h⟩ := sx_grd h
  refine sv_iald (pc := 88) hG dX5_moveToCvt_88 (sv_len_e g12) g13 ?_
  refine sx_i2l (pc := 89) dX5_moveToCvt_89 ?_
  refine sx_aload (pc := 90) dX5_moveToCvt_90 sx_m3 ?_
  obtain ⟨b14, g15, h⟩ := sx_bnd h
  refine sv_getA (pc := 92) hG dX5_moveToCvt_92 f_5_201 g8 rfl g15 ?_
  refine sx_iload_n (pc := 95) dX5_moveToCvt_95 sx_m2 ?_
  obtain ⟨n16, g17, h⟩ := sx_bnd h
  obtain ⟨g18, h⟩ := sx_grd h
  refine sv_iald (pc := 96) hG dX5_moveToCvt_96 (sv_len_e g17) g18 ?_
  refine sx_i2l (pc := 97) dX5_moveToCvt_97 ?_
  obtain ⟨⟨x21, V19⟩, g20, h⟩ := sx_bnd h
  refine sv_cV (pc := 98) (y := qX5_longByP) (o := (some (.long x21))) (as := [.long ((V.1 b9 l3.toNatClampNeg).toInt64), .long ((V.1 b14 l3.toNatClampNeg).toInt64)]) (V1 := V19) hG dX5_moveToCvt_98 l_X5_465 y0X5_longByP yvX5_longByP rfl (Nat.le_of_ble_eq_true rfl) lay_69 kr_5 (by decide) (Nat.le_of_ble_eq_true rfl) rfl rfl rfl (t_X5_longByP hG ⟨rfl, rfl⟩ g20) ?_
  refine sx_lstore (pc := 101) (lo' := [(7, .long x21), (0, .ref 69), (1, .int l1), (3, .int l3), (4, .ref l4), (5, .long l5)]) dX5_moveToCvt_101 (by decide) rfl ?_
  refine sx_iload_n (pc := 103) dX5_moveToCvt_103 sx_m2 ?_
  refine sx_bipush (pc := 104) (v := 63) dX5_moveToCvt_104 (by decide) ?_
  refine sx_icmp_ne (pc := 106) (tgt := 147) dX5_moveToCvt_106 (by decide) (fun c22 => ?_) (fun c22 => ?_)
  · have h := sx_neg c22 h
    refine sx_wk (sx_s1 sx_m1 (sx_s1 sx_m3 (sx_s1 sx_m4 (sx_s1 sx_m5 (sx_s1 sx_m0 sx_s0))))) ?_
    exact tB_X5_moveToCvt_147 hG hP  h
  · have h := sx_pos c22 h
    refine sx_aload_n (pc := 109) dX5_moveToCvt_109 sx_m1 ?_
    refine sv_getO (pc := 110) hG dX5_moveToCvt_110 f_5_12 lay_69 rfl cr_69_1 ?_
    refine sx_lload (pc := 113) dX5_moveToCvt_113 sx_m5 ?_
    refine sx_lload (pc := 115) dX5_moveToCvt_115 sx_m0 ?_
    refine sx_lsub (pc := 117) dX5_moveToCvt_117 ?_
    obtain ⟨⟨x25, V23⟩, g24, h⟩ := sx_bnd h
    refine sv_cS (pc := 118) (y := qJ9_abs_067f4) (o := (some (.long x25))) (as := [.long (l5 - x21)]) (V1 := V23) dX5_moveToCvt_118 l_X5_538 y0J9_abs_067f4 ysJ9_abs_067f4 rfl (Nat.le_of_ble_eq_true rfl) (by decide) (Nat.le_of_ble_eq_true rfl) rfl rfl rfl (t_J9_abs_067f4 hG ⟨rfl, rfl⟩ g24) ?_
    refine sx_aload_n (pc := 121) dX5_moveToCvt_121 sx_m1 ?_
    obtain ⟨b26, g27, h⟩ := sx_bnd h
    refine sv_getV (pc := 122) hG dX5_moveToCvt_122 f_5_49 lay_69 rfl rfl g27 ?_
    obtain ⟨g28, h⟩ := sx_grd h
    obtain ⟨b29, g30, h⟩ := sx_bnd h
    refine sv_getA (pc := 125) hG dX5_moveToCvt_125 f_5_272 g28 rfl g30 ?_
    refine sx_iconst (pc := 128) (v := 0) dX5_moveToCvt_128 (by decide) ?_
    obtain ⟨n31, g32, h⟩ := sx_bnd h
    obtain ⟨g33, h⟩ := sx_grd h
    refine sv_iald (pc := 129) hG dX5_moveToCvt_129 (sv_len_e g32) g33 ?_
    refine sx_i2l (pc := 130) dX5_moveToCvt_130 ?_
    refine sx_lcmp (pc := 131) dX5_moveToCvt_131 ?_
    refine sx_if_le (pc := 132) (tgt := 140) dX5_moveToCvt_132 (by decide) (fun c34 => ?_) (fun c34 => ?_)
    · have h := sx_pos c34 h
      refine sx_lload (pc := 140) dX5_moveToCvt_140 sx_m5 ?_
      refine sx_wk (sx_s1 sx_m1 (sx_s1 sx_m3 (sx_s1 sx_m4 (sx_s1 sx_m0 sx_s0)))) ?_
      exact tB_X5_moveToCvt_142 hG hP  h
    · have h := sx_neg c34 h
      refine sx_lload (pc := 135) dX5_moveToCvt_135 sx_m0 ?_
      refine sx_goto (pc := 137) (tgt := 142) dX5_moveToCvt_137 (by decide) ?_
      refine sx_wk (sx_s1 sx_m1 (sx_s1 sx_m3 (sx_s1 sx_m4 (sx_s1 sx_m0 sx_s0)))) ?_
      exact tB_X5_moveToCvt_142 hG hP  h
def F_X5_moveToCvt (l1 : Int32) (V : sv_V) : Option sv_V := (F_X5_pop  V).bind (fun (x37, V35) => (F_X5_pop  V35).bind (fun (x40, V38) => (F_X5_zone (0 : Int32) V38).bind (fun (x43, V41) => (F_X5_isThere x43 x40 V41).bind (fun (x46, V44) => if x46 = 0 then (some V44) else ((V44.2.2 69 6).bind (fun b48 => (F_X7_hasCvt b48 x37 V44).bind (fun (x52, V50) => if lay b48 = .inl 7 then if x52 = 0 then (sx_let (sv_I V50 69 14 (6 : Int32)) (fun V67 => some V67)) else ((V50.2.2 69 6).bind (fun b55 => if lay b55 = .inl 7 then (cr b55 0).bind (fun b58 => (sv_len 0 b58).bind (fun n60 => if sx_in x37 n60 = true then sx_let ((V50.1 b58 x37.toNatClampNeg).toInt64) (fun x63 => if (V50.1 72 (0 : Int32).toNatClampNeg) = 0 then ((F_X5_plant x43 x40 (0 : Int32) (0 : Int32) x63 V50).bind (fun V65 => B_X5_moveToCvt_81  l1 x40 x43 x63 V65)) else (B_X5_moveToCvt_81  l1 x40 x43 x63 V50)) else none)) else none)) else none)))))))
set_option maxRecDepth 20000 in
theorem t_X5_moveToCvt {g : sx_G} (hG : sx_Go g) {P : Option Value → sv_V → Prop} {Vr : sv_V} (hP : P none Vr) {l1 : Int32} {V : sv_V} (h : F_X5_moveToCvt l1 V = some Vr) : sv_N g qX5_moveToCvt 2 0 [(0, .ref 69), (1, .int l1)] [] V P := by
  unfold F_X5_moveToCvt at h
  refine sx_aload_n (pc := 0) dX5_moveToCvt_0 sx_m0 ?_
  obtain ⟨⟨x37, V35⟩, g36, h⟩ := sx_bnd h
  refine sv_cV (pc := 1) (y := qX5_pop) (o := (some (.int x37))) (as := []) (V1 := V35) hG dX5_moveToCvt_1 l_X5_242 y0X5_pop yvX5_pop rfl (Nat.le_of_ble_eq_true rfl) lay_69 kr_5 (by decide) (Nat.le_of_ble_eq_true rfl) rfl rfl rfl (t_X5_pop hG ⟨rfl, rfl⟩ g36) ?_
  refine sx_istore_n (pc := 4) (lo' := [(2, .int x37), (0, .ref 69), (1, .int l1)]) dX5_moveToCvt_4 (by decide) rfl ?_
  refine sx_aload_n (pc := 5) dX5_moveToCvt_5 sx_m1 ?_
  obtain ⟨⟨x40, V38⟩, g39, h⟩ := sx_bnd h
  refine sv_cV (pc := 6) (y := qX5_pop) (o := (some (.int x40))) (as := []) (V1 := V38) hG dX5_moveToCvt_6 l_X5_242 y0X5_pop yvX5_pop rfl (Nat.le_of_ble_eq_true rfl) lay_69 kr_5 (by decide) (Nat.le_of_ble_eq_true rfl) rfl rfl rfl (t_X5_pop hG ⟨rfl, rfl⟩ g39) ?_
  refine sx_istore_n (pc := 9) (lo' := [(3, .int x40), (2, .int x37), (0, .ref 69), (1, .int l1)]) dX5_moveToCvt_9 (by decide) rfl ?_
  refine sx_aload_n (pc := 10) dX5_moveToCvt_10 sx_m2 ?_
  refine sx_iconst (pc := 11) (v := 0) dX5_moveToCvt_11 (by decide) ?_
  obtain ⟨⟨x43, V41⟩, g42, h⟩ := sx_bnd h
  refine sv_cV (pc := 12) (y := qX5_zone) (o := (some (.ref x43))) (as := [.int (0 : Int32)]) (V1 := V41) hG dX5_moveToCvt_12 l_X5_255 y0X5_zone yvX5_zone rfl (Nat.le_of_ble_eq_true rfl) lay_69 kr_5 (by decide) (Nat.le_of_ble_eq_true rfl) rfl rfl rfl (t_X5_zone hG ⟨rfl, rfl⟩ g42) ?_
  refine sx_astore (pc := 15) (lo' := [(4, .ref x43), (3, .int x40), (2, .int x37), (0, .ref 69), (1, .int l1)]) dX5_moveToCvt_15 (by decide) rfl ?_
  refine sx_aload_n (pc := 17) dX5_moveToCvt_17 sx_m3 ?_
  refine sx_aload (pc := 18) dX5_moveToCvt_18 sx_m0 ?_
  refine sx_iload_n (pc := 20) dX5_moveToCvt_20 sx_m1 ?_
  obtain ⟨⟨x46, V44⟩, g45, h⟩ := sx_bnd h
  refine sv_cV (pc := 21) (y := qX5_isThere) (o := (some (.int x46))) (as := [.ref x43, .int x40]) (V1 := V44) hG dX5_moveToCvt_21 l_X5_259 y0X5_isThere yvX5_isThere rfl (Nat.le_of_ble_eq_true rfl) lay_69 kr_5 (by decide) (Nat.le_of_ble_eq_true rfl) rfl rfl rfl (t_X5_isThere hG ⟨rfl, rfl⟩ g45) ?_
  refine sx_if_ne (pc := 24) (tgt := 28) dX5_moveToCvt_24 (by decide) (fun c47 => ?_) (fun c47 => ?_)
  · have h := sx_neg c47 h
    refine sx_aload_n (pc := 28) dX5_moveToCvt_28 sx_m3 ?_
    obtain ⟨b48, g49, h⟩ := sx_bnd h
    refine sv_getV (pc := 29) hG dX5_moveToCvt_29 f_5_49 lay_69 rfl rfl g49 ?_
    refine sx_iload_n (pc := 32) dX5_moveToCvt_32 sx_m2 ?_
    obtain ⟨⟨x52, V50⟩, g51, h⟩ := sx_bnd h
    obtain ⟨g53, h⟩ := sx_grd h
    refine sv_cV (pc := 33) (y := qX7_hasCvt) (o := (some (.int x52))) (as := [.int x37]) (V1 := V50) hG dX5_moveToCvt_33 l_X5_405 y0X7_hasCvt yvX7_hasCvt rfl (Nat.le_of_ble_eq_true rfl) g53 kr_7 (by decide) (Nat.le_of_ble_eq_true rfl) rfl rfl rfl (t_X7_hasCvt hG ⟨rfl, rfl⟩ g51) ?_
    refine sx_if_ne (pc := 36) (tgt := 46) dX5_moveToCvt_36 (by decide) (fun c54 => ?_) (fun c54 => ?_)
    · have h := sx_neg c54 h
      refine sx_aload_n (pc := 46) dX5_moveToCvt_46 sx_m3 ?_
      obtain ⟨b55, g56, h⟩ := sx_bnd h
      refine sv_getV (pc := 47) hG dX5_moveToCvt_47 f_5_49 lay_69 rfl rfl g56 ?_
      obtain ⟨g57, h⟩ := sx_grd h
      obtain ⟨b58, g59, h⟩ := sx_bnd h
      refine sv_getA (pc := 50) hG dX5_moveToCvt_50 f_5_411 g57 rfl g59 ?_
      refine sx_iload_n (pc := 53) dX5_moveToCvt_53 sx_m2 ?_
      obtain ⟨n60, g61, h⟩ := sx_bnd h
      obtain ⟨g62, h⟩ := sx_grd h
      refine sv_iald (pc := 54) hG dX5_moveToCvt_54 (sv_len_e g61) g62 ?_
      refine sx_i2l (pc := 55) dX5_moveToCvt_55 ?_
      refine sv_tJ (fun x63 hx63 => ?_)
      have h := sx_letE hx63 h
      refine sx_lstore (pc := 56) (lo' := [(5, .long x63), (4, .ref x43), (3, .int x40), (2, .int x37), (0, .ref 69), (1, .int l1)]) dX5_moveToCvt_56 (by decide) rfl ?_
      refine sx_aload_n (pc := 58) dX5_moveToCvt_58 sx_m4 ?_
      refine sv_getO (pc := 59) hG dX5_moveToCvt_59 f_5_12 lay_69 rfl cr_69_1 ?_
      refine sv_getA (pc := 62) hG dX5_moveToCvt_62 f_5_172 lay_70 rfl cr_70_7 ?_
      refine sx_iconst (pc := 65) (v := 0) dX5_moveToCvt_65 (by decide) ?_
      refine sv_iald (pc := 66) hG dX5_moveToCvt_66 lay_72 (by decide) ?_
      refine sx_if_ne (pc := 67) (tgt := 81) dX5_moveToCvt_67 (by decide) (fun c64 => ?_) (fun c64 => ?_)
      · have h := sx_neg c64 h
        refine sx_wk (sx_s1 sx_m4 (sx_s1 sx_m5 (sx_s1 sx_m2 (sx_s1 sx_m1 (sx_s1 sx_m0 sx_s0))))) ?_
        exact tB_X5_moveToCvt_81 hG hP  h
      · have h := sx_pos c64 h
        refine sx_aload_n (pc := 70) dX5_moveToCvt_70 sx_m4 ?_
        refine sx_aload (pc := 71) dX5_moveToCvt_71 sx_m1 ?_
        refine sx_iload_n (pc := 73) dX5_moveToCvt_73 sx_m2 ?_
        refine sx_iconst (pc := 74) (v := 0) dX5_moveToCvt_74 (by decide) ?_
        refine sx_iconst (pc := 75) (v := 0) dX5_moveToCvt_75 (by decide) ?_
        refine sx_lload (pc := 76) dX5_moveToCvt_76 sx_m0 ?_
        obtain ⟨V65, g66, h⟩ := sx_bnd h
        refine sv_cV (pc := 78) (y := qX5_plant) (o := none) (as := [.ref x43, .int x40, .int (0 : Int32), .int (0 : Int32), .long x63]) (V1 := V65) hG dX5_moveToCvt_78 l_X5_530 y0X5_plant yvX5_plant rfl (Nat.le_of_ble_eq_true rfl) lay_69 kr_5 (by decide) (Nat.le_of_ble_eq_true rfl) rfl rfl rfl (t_X5_plant hG ⟨rfl, rfl⟩ g66) ?_
        refine sx_wk (sx_s1 sx_m4 (sx_s1 sx_m5 (sx_s1 sx_m2 (sx_s1 sx_m1 (sx_s1 sx_m0 sx_s0))))) ?_
        exact tB_X5_moveToCvt_81 hG hP  h
    · have h := sx_pos c54 h
      refine sx_aload_n (pc := 39) dX5_moveToCvt_39 sx_m3 ?_
      refine sx_bipush (pc := 40) (v := 6) dX5_moveToCvt_40 (by decide) ?_
      obtain ⟨V67, hV67⟩ : ∃ z : sv_V, z = sv_I V50 69 14 (6 : Int32) := ⟨_, rfl⟩
      have h := sx_letE hV67 h
      refine sv_putI (pc := 42) hG dX5_moveToCvt_42 f_5_56 lay_69 rfl hV67 ?_
      exact sv_vret (pc := 45) dX5_moveToCvt_45 rfl h hP
  · have h := sx_pos c47 h
    exact sv_vret (pc := 27) dX5_moveToCvt_27 rfl h hP
def ncX5_moveAsOriginal : Nat := 645682900762692988448681561642934969747248767379784255423829935364658544458353579054884026878421098678474358091320032745496857214396788525000748441356589529655110733694713749379024682303538225328559216391838728062062352130889506195764810765045550546268695812479525463104634158291027386718020926753535922387831761154883701146389077246500451882
theorem kcX5_moveAsOriginal : CK cX5_moveAsOriginal ncX5_moveAsOriginal 142 := ⟨by decide +kernel, by decide +kernel⟩
theorem dX5_moveAsOriginal_0 : decode cX5_moveAsOriginal 0 = .ok (.aload_n 0, 1) := dl_o42 kcX5_moveAsOriginal (by decide +kernel)
theorem dX5_moveAsOriginal_1 : decode cX5_moveAsOriginal 1 = .ok (.invokevirtual 242, 3) := dl_o182 kcX5_moveAsOriginal (by decide +kernel)
theorem dX5_moveAsOriginal_4 : decode cX5_moveAsOriginal 4 = .ok (.istore_n 2, 1) := dl_o61 kcX5_moveAsOriginal (by decide +kernel)
theorem dX5_moveAsOriginal_5 : decode cX5_moveAsOriginal 5 = .ok (.aload_n 0, 1) := dl_o42 kcX5_moveAsOriginal (by decide +kernel)
theorem dX5_moveAsOriginal_6 : decode cX5_moveAsOriginal 6 = .ok (.iconst 1, 1) := dl_o4 kcX5_moveAsOriginal (by decide +kernel)
theorem dX5_moveAsOriginal_7 : decode cX5_moveAsOriginal 7 = .ok (.invokevirtual 255, 3) := dl_o182 kcX5_moveAsOriginal (by decide +kernel)
theorem dX5_moveAsOriginal_10 : decode cX5_moveAsOriginal 10 = .ok (.astore_n 3, 1) := dl_o78 kcX5_moveAsOriginal (by decide +kernel)
theorem dX5_moveAsOriginal_11 : decode cX5_moveAsOriginal 11 = .ok (.aload_n 0, 1) := dl_o42 kcX5_moveAsOriginal (by decide +kernel)
theorem dX5_moveAsOriginal_12 : decode cX5_moveAsOriginal 12 = .ok (.iconst 0, 1) := dl_o3 kcX5_moveAsOriginal (by decide +kernel)
theorem dX5_moveAsOriginal_13 : decode cX5_moveAsOriginal 13 = .ok (.invokevirtual 255, 3) := dl_o182 kcX5_moveAsOriginal (by decide +kernel)
theorem dX5_moveAsOriginal_16 : decode cX5_moveAsOriginal 16 = .ok (.astore 4, 2) := dl_o58 kcX5_moveAsOriginal (by decide +kernel)
theorem dX5_moveAsOriginal_18 : decode cX5_moveAsOriginal 18 = .ok (.aload_n 0, 1) := dl_o42 kcX5_moveAsOriginal (by decide +kernel)
theorem dX5_moveAsOriginal_19 : decode cX5_moveAsOriginal 19 = .ok (.getfield 12, 3) := dl_o180 kcX5_moveAsOriginal (by decide +kernel)
theorem dX5_moveAsOriginal_22 : decode cX5_moveAsOriginal 22 = .ok (.getfield 275, 3) := dl_o180 kcX5_moveAsOriginal (by decide +kernel)
theorem dX5_moveAsOriginal_25 : decode cX5_moveAsOriginal 25 = .ok (.iconst 0, 1) := dl_o3 kcX5_moveAsOriginal (by decide +kernel)
theorem dX5_moveAsOriginal_26 : decode cX5_moveAsOriginal 26 = .ok (.iaload, 1) := dl_o46 kcX5_moveAsOriginal (by decide +kernel)
theorem dX5_moveAsOriginal_27 : decode cX5_moveAsOriginal 27 = .ok (.istore 5, 2) := dl_o54 kcX5_moveAsOriginal (by decide +kernel)
theorem dX5_moveAsOriginal_29 : decode cX5_moveAsOriginal 29 = .ok (.aload_n 0, 1) := dl_o42 kcX5_moveAsOriginal (by decide +kernel)
theorem dX5_moveAsOriginal_30 : decode cX5_moveAsOriginal 30 = .ok (.aload_n 3, 1) := dl_o45 kcX5_moveAsOriginal (by decide +kernel)
theorem dX5_moveAsOriginal_31 : decode cX5_moveAsOriginal 31 = .ok (.iload_n 2, 1) := dl_o28 kcX5_moveAsOriginal (by decide +kernel)
theorem dX5_moveAsOriginal_32 : decode cX5_moveAsOriginal 32 = .ok (.invokevirtual 259, 3) := dl_o182 kcX5_moveAsOriginal (by decide +kernel)
theorem dX5_moveAsOriginal_35 : decode cX5_moveAsOriginal 35 = .ok (.ifCond .eq 14, 3) := dl_o153 kcX5_moveAsOriginal 14 (by decide +kernel) (by decide +kernel)
theorem dX5_moveAsOriginal_38 : decode cX5_moveAsOriginal 38 = .ok (.aload_n 0, 1) := dl_o42 kcX5_moveAsOriginal (by decide +kernel)
theorem dX5_moveAsOriginal_39 : decode cX5_moveAsOriginal 39 = .ok (.aload 4, 2) := dl_o25 kcX5_moveAsOriginal (by decide +kernel)
theorem dX5_moveAsOriginal_41 : decode cX5_moveAsOriginal 41 = .ok (.iload 5, 2) := dl_o21 kcX5_moveAsOriginal (by decide +kernel)
theorem dX5_moveAsOriginal_43 : decode cX5_moveAsOriginal 43 = .ok (.invokevirtual 259, 3) := dl_o182 kcX5_moveAsOriginal (by decide +kernel)
theorem dX5_moveAsOriginal_46 : decode cX5_moveAsOriginal 46 = .ok (.ifCond .ne 4, 3) := dl_o154 kcX5_moveAsOriginal 4 (by decide +kernel) (by decide +kernel)
theorem dX5_moveAsOriginal_49 : decode cX5_moveAsOriginal 49 = .ok (.return_, 1) := dl_o177 kcX5_moveAsOriginal (by decide +kernel)
theorem dX5_moveAsOriginal_50 : decode cX5_moveAsOriginal 50 = .ok (.aload_n 0, 1) := dl_o42 kcX5_moveAsOriginal (by decide +kernel)
theorem dX5_moveAsOriginal_51 : decode cX5_moveAsOriginal 51 = .ok (.aload_n 0, 1) := dl_o42 kcX5_moveAsOriginal (by decide +kernel)
theorem dX5_moveAsOriginal_52 : decode cX5_moveAsOriginal 52 = .ok (.aload_n 3, 1) := dl_o45 kcX5_moveAsOriginal (by decide +kernel)
theorem dX5_moveAsOriginal_53 : decode cX5_moveAsOriginal 53 = .ok (.iload_n 2, 1) := dl_o28 kcX5_moveAsOriginal (by decide +kernel)
theorem dX5_moveAsOriginal_54 : decode cX5_moveAsOriginal 54 = .ok (.aload 4, 2) := dl_o25 kcX5_moveAsOriginal (by decide +kernel)
theorem dX5_moveAsOriginal_56 : decode cX5_moveAsOriginal 56 = .ok (.iload 5, 2) := dl_o21 kcX5_moveAsOriginal (by decide +kernel)
theorem dX5_moveAsOriginal_58 : decode cX5_moveAsOriginal 58 = .ok (.invokevirtual 471, 3) := dl_o182 kcX5_moveAsOriginal (by decide +kernel)
theorem dX5_moveAsOriginal_61 : decode cX5_moveAsOriginal 61 = .ok (.invokevirtual 541, 3) := dl_o182 kcX5_moveAsOriginal (by decide +kernel)
theorem dX5_moveAsOriginal_64 : decode cX5_moveAsOriginal 64 = .ok (.lstore 6, 2) := dl_o55 kcX5_moveAsOriginal (by decide +kernel)
theorem dX5_moveAsOriginal_66 : decode cX5_moveAsOriginal 66 = .ok (.iload_n 1, 1) := dl_o27 kcX5_moveAsOriginal (by decide +kernel)
theorem dX5_moveAsOriginal_67 : decode cX5_moveAsOriginal 67 = .ok (.iconst 4, 1) := dl_o7 kcX5_moveAsOriginal (by decide +kernel)
theorem dX5_moveAsOriginal_68 : decode cX5_moveAsOriginal 68 = .ok (.iand, 1) := dl_o126 kcX5_moveAsOriginal (by decide +kernel)
theorem dX5_moveAsOriginal_69 : decode cX5_moveAsOriginal 69 = .ok (.ifCond .eq 15, 3) := dl_o153 kcX5_moveAsOriginal 15 (by decide +kernel) (by decide +kernel)
theorem dX5_moveAsOriginal_72 : decode cX5_moveAsOriginal 72 = .ok (.aload_n 0, 1) := dl_o42 kcX5_moveAsOriginal (by decide +kernel)
theorem dX5_moveAsOriginal_73 : decode cX5_moveAsOriginal 73 = .ok (.getfield 12, 3) := dl_o180 kcX5_moveAsOriginal (by decide +kernel)
theorem dX5_moveAsOriginal_76 : decode cX5_moveAsOriginal 76 = .ok (.lload 6, 2) := dl_o22 kcX5_moveAsOriginal (by decide +kernel)
theorem dX5_moveAsOriginal_78 : decode cX5_moveAsOriginal 78 = .ok (.invokevirtual 414, 3) := dl_o182 kcX5_moveAsOriginal (by decide +kernel)
theorem dX5_moveAsOriginal_81 : decode cX5_moveAsOriginal 81 = .ok (.goto 5, 3) := dl_o167 kcX5_moveAsOriginal 5 (by decide +kernel) (by decide +kernel)
theorem dX5_moveAsOriginal_84 : decode cX5_moveAsOriginal 84 = .ok (.lload 6, 2) := dl_o22 kcX5_moveAsOriginal (by decide +kernel)
theorem dX5_moveAsOriginal_86 : decode cX5_moveAsOriginal 86 = .ok (.lstore 8, 2) := dl_o55 kcX5_moveAsOriginal (by decide +kernel)
theorem dX5_moveAsOriginal_88 : decode cX5_moveAsOriginal 88 = .ok (.iload_n 1, 1) := dl_o27 kcX5_moveAsOriginal (by decide +kernel)
theorem dX5_moveAsOriginal_89 : decode cX5_moveAsOriginal 89 = .ok (.bipush 8, 2) := dl_o16 kcX5_moveAsOriginal 8 (by decide +kernel) (by decide +kernel)
theorem dX5_moveAsOriginal_91 : decode cX5_moveAsOriginal 91 = .ok (.iand, 1) := dl_o126 kcX5_moveAsOriginal (by decide +kernel)
theorem dX5_moveAsOriginal_92 : decode cX5_moveAsOriginal 92 = .ok (.ifCond .eq 13, 3) := dl_o153 kcX5_moveAsOriginal 13 (by decide +kernel) (by decide +kernel)
theorem dX5_moveAsOriginal_95 : decode cX5_moveAsOriginal 95 = .ok (.aload_n 0, 1) := dl_o42 kcX5_moveAsOriginal (by decide +kernel)
theorem dX5_moveAsOriginal_96 : decode cX5_moveAsOriginal 96 = .ok (.lload 8, 2) := dl_o22 kcX5_moveAsOriginal (by decide +kernel)
theorem dX5_moveAsOriginal_98 : decode cX5_moveAsOriginal 98 = .ok (.lload 6, 2) := dl_o22 kcX5_moveAsOriginal (by decide +kernel)
theorem dX5_moveAsOriginal_100 : decode cX5_moveAsOriginal 100 = .ok (.invokevirtual 544, 3) := dl_o182 kcX5_moveAsOriginal (by decide +kernel)
theorem dX5_moveAsOriginal_103 : decode cX5_moveAsOriginal 103 = .ok (.lstore 8, 2) := dl_o55 kcX5_moveAsOriginal (by decide +kernel)
theorem dX5_moveAsOriginal_105 : decode cX5_moveAsOriginal 105 = .ok (.aload_n 0, 1) := dl_o42 kcX5_moveAsOriginal (by decide +kernel)
theorem dX5_moveAsOriginal_106 : decode cX5_moveAsOriginal 106 = .ok (.aload_n 3, 1) := dl_o45 kcX5_moveAsOriginal (by decide +kernel)
theorem dX5_moveAsOriginal_107 : decode cX5_moveAsOriginal 107 = .ok (.iload_n 2, 1) := dl_o28 kcX5_moveAsOriginal (by decide +kernel)
theorem dX5_moveAsOriginal_108 : decode cX5_moveAsOriginal 108 = .ok (.lload 8, 2) := dl_o22 kcX5_moveAsOriginal (by decide +kernel)
theorem dX5_moveAsOriginal_110 : decode cX5_moveAsOriginal 110 = .ok (.aload_n 0, 1) := dl_o42 kcX5_moveAsOriginal (by decide +kernel)
theorem dX5_moveAsOriginal_111 : decode cX5_moveAsOriginal 111 = .ok (.aload_n 3, 1) := dl_o45 kcX5_moveAsOriginal (by decide +kernel)
theorem dX5_moveAsOriginal_112 : decode cX5_moveAsOriginal 112 = .ok (.iload_n 2, 1) := dl_o28 kcX5_moveAsOriginal (by decide +kernel)
theorem dX5_moveAsOriginal_113 : decode cX5_moveAsOriginal 113 = .ok (.aload 4, 2) := dl_o25 kcX5_moveAsOriginal (by decide +kernel)
theorem dX5_moveAsOriginal_115 : decode cX5_moveAsOriginal 115 = .ok (.iload 5, 2) := dl_o21 kcX5_moveAsOriginal (by decide +kernel)
theorem dX5_moveAsOriginal_117 : decode cX5_moveAsOriginal 117 = .ok (.invokevirtual 455, 3) := dl_o182 kcX5_moveAsOriginal (by decide +kernel)
theorem dX5_moveAsOriginal_120 : decode cX5_moveAsOriginal 120 = .ok (.lsub, 1) := dl_o101 kcX5_moveAsOriginal (by decide +kernel)
theorem dX5_moveAsOriginal_121 : decode cX5_moveAsOriginal 121 = .ok (.invokevirtual 461, 3) := dl_o182 kcX5_moveAsOriginal (by decide +kernel)
theorem dX5_moveAsOriginal_124 : decode cX5_moveAsOriginal 124 = .ok (.aload_n 0, 1) := dl_o42 kcX5_moveAsOriginal (by decide +kernel)
theorem dX5_moveAsOriginal_125 : decode cX5_moveAsOriginal 125 = .ok (.iload_n 2, 1) := dl_o28 kcX5_moveAsOriginal (by decide +kernel)
theorem dX5_moveAsOriginal_126 : decode cX5_moveAsOriginal 126 = .ok (.iload_n 1, 1) := dl_o27 kcX5_moveAsOriginal (by decide +kernel)
theorem dX5_moveAsOriginal_127 : decode cX5_moveAsOriginal 127 = .ok (.bipush 16, 2) := dl_o16 kcX5_moveAsOriginal 16 (by decide +kernel) (by decide +kernel)
theorem dX5_moveAsOriginal_129 : decode cX5_moveAsOriginal 129 = .ok (.iand, 1) := dl_o126 kcX5_moveAsOriginal (by decide +kernel)
theorem dX5_moveAsOriginal_130 : decode cX5_moveAsOriginal 130 = .ok (.ifCond .eq 7, 3) := dl_o153 kcX5_moveAsOriginal 7 (by decide +kernel) (by decide +kernel)
theorem dX5_moveAsOriginal_133 : decode cX5_moveAsOriginal 133 = .ok (.iconst 1, 1) := dl_o4 kcX5_moveAsOriginal (by decide +kernel)
theorem dX5_moveAsOriginal_134 : decode cX5_moveAsOriginal 134 = .ok (.goto 4, 3) := dl_o167 kcX5_moveAsOriginal 4 (by decide +kernel) (by decide +kernel)
theorem dX5_moveAsOriginal_137 : decode cX5_moveAsOriginal 137 = .ok (.iconst 0, 1) := dl_o3 kcX5_moveAsOriginal (by decide +kernel)
theorem dX5_moveAsOriginal_138 : decode cX5_moveAsOriginal 138 = .ok (.invokevirtual 534, 3) := dl_o182 kcX5_moveAsOriginal (by decide +kernel)
theorem dX5_moveAsOriginal_141 : decode cX5_moveAsOriginal 141 = .ok (.return_, 1) := dl_o177 kcX5_moveAsOriginal (by decide +kernel)
def B_X5_moveAsOriginal_138  (s1 : Int32) (s2 : Int32) (V : sv_V) : Option sv_V := (F_X5_noteReferences s1 s2 V).bind (fun V1 => some V1)
set_option maxRecDepth 20000 in
theorem tB_X5_moveAsOriginal_138 {g : sx_G} (hG : sx_Go g) {P : Option Value → sv_V → Prop} {Vr : sv_V} (hP : P none Vr)   {s1 : Int32} {s2 : Int32} {V : sv_V} (h : B_X5_moveAsOriginal_138  s1 s2 V = some Vr) : sv_N g qX5_moveAsOriginal 2 138 [] [.int s2, .int s1, .ref 69] V P := by
  unfold B_X5_moveAsOriginal_138 at h
  obtain ⟨V1, g2, h⟩ := sx_bnd h
  refine sv_cV (pc := 138) (y := qX5_noteReferences) (o := none) (as := [.int s1, .int s2]) (V1 := V1) hG dX5_moveAsOriginal_138 l_X5_534 y0X5_noteReferences yvX5_noteReferences rfl (Nat.le_of_ble_eq_true rfl) lay_69 kr_5 (by decide) (Nat.le_of_ble_eq_true rfl) rfl rfl rfl (t_X5_noteReferences hG ⟨rfl, rfl⟩ g2) ?_
  exact sv_vret (pc := 141) dX5_moveAsOriginal_141 rfl h hP
def B_X5_moveAsOriginal_105  (l1 : Int32) (l2 : Int32) (l3 : Nat) (l4 : Nat) (l5 : Int32) (l8 : Int64) (V : sv_V) : Option sv_V := (F_X5_longBetween l3 l2 l4 l5 V).bind (fun (x5, V3) => (F_X5_move l3 l2 (l8 - x5) V3).bind (fun V6 => if (l1 &&& (16 : Int32)) = 0 then (B_X5_moveAsOriginal_138  l2 (0 : Int32) V6) else (B_X5_moveAsOriginal_138  l2 (1 : Int32) V6)))
set_option maxRecDepth 20000 in
theorem tB_X5_moveAsOriginal_105 {g : sx_G} (hG : sx_Go g) {P : Option Value → sv_V → Prop} {Vr : sv_V} (hP : P none Vr)   {l1 : Int32} {l2 : Int32} {l3 : Nat} {l4 : Nat} {l5 : Int32} {l8 : Int64} {V : sv_V} (h : B_X5_moveAsOriginal_105  l1 l2 l3 l4 l5 l8 V = some Vr) : sv_N g qX5_moveAsOriginal 2 105 [(0, .ref 69), (1, .int l1), (2, .int l2), (3, .ref l3), (4, .ref l4), (5, .int l5), (8, .long l8)] [] V P := by
  unfold B_X5_moveAsOriginal_105 at h
  refine sx_aload_n (pc := 105) dX5_moveAsOriginal_105 sx_m0 ?_
  refine sx_aload_n (pc := 106) dX5_moveAsOriginal_106 sx_m3 ?_
  refine sx_iload_n (pc := 107) dX5_moveAsOriginal_107 sx_m2 ?_
  refine sx_lload (pc := 108) dX5_moveAsOriginal_108 sx_m6 ?_
  refine sx_aload_n (pc := 110) dX5_moveAsOriginal_110 sx_m0 ?_
  refine sx_aload_n (pc := 111) dX5_moveAsOriginal_111 sx_m3 ?_
  refine sx_iload_n (pc := 112) dX5_moveAsOriginal_112 sx_m2 ?_
  refine sx_aload (pc := 113) dX5_moveAsOriginal_113 sx_m4 ?_
  refine sx_iload (pc := 115) dX5_moveAsOriginal_115 sx_m5 ?_
  obtain ⟨⟨x5, V3⟩, g4, h⟩ := sx_bnd h
  refine sv_cV (pc := 117) (y := qX5_longBetween) (o := (some (.long x5))) (as := [.ref l3, .int l2, .ref l4, .int l5]) (V1 := V3) hG dX5_moveAsOriginal_117 l_X5_455 y0X5_longBetween yvX5_longBetween rfl (Nat.le_of_ble_eq_true rfl) lay_69 kr_5 (by decide) (Nat.le_of_ble_eq_true rfl) rfl rfl rfl (t_X5_longBetween hG ⟨rfl, rfl⟩ g4) ?_
  refine sx_lsub (pc := 120) dX5_moveAsOriginal_120 ?_
  obtain ⟨V6, g7, h⟩ := sx_bnd h
  refine sv_cV (pc := 121) (y := qX5_move) (o := none) (as := [.ref l3, .int l2, .long (l8 - x5)]) (V1 := V6) hG dX5_moveAsOriginal_121 l_X5_461 y0X5_move yvX5_move rfl (Nat.le_of_ble_eq_true rfl) lay_69 kr_5 (by decide) (Nat.le_of_ble_eq_true rfl) rfl rfl rfl (t_X5_move hG ⟨rfl, rfl⟩ g7) ?_
  refine sx_aload_n (pc := 124) dX5_moveAsOriginal_124 sx_m0 ?_
  refine sx_iload_n (pc := 125) dX5_moveAsOriginal_125 sx_m2 ?_
  refine sx_iload_n (pc := 126) dX5_moveAsOriginal_126 sx_m1 ?_
  refine sx_bipush (pc := 127) (v := 16) dX5_moveAsOriginal_127 (by decide) ?_
  refine sx_iand (pc := 129) dX5_moveAsOriginal_129 ?_
  refine sx_if_eq (pc := 130) (tgt := 137) dX5_moveAsOriginal_130 (by decide) (fun c8 => ?_) (fun c8 => ?_)
  · have h := sx_pos c8 h
    refine sx_iconst (pc := 137) (v := 0) dX5_moveAsOriginal_137 (by decide) ?_
    refine sx_wk sx_s0 ?_
    exact tB_X5_moveAsOriginal_138 hG hP  h
  · have h := sx_neg c8 h
    refine sx_iconst (pc := 133) (v := 1) dX5_moveAsOriginal_133 (by decide) ?_
    refine sx_goto (pc := 134) (tgt := 138) dX5_moveAsOriginal_134 (by decide) ?_
    refine sx_wk sx_s0 ?_
    exact tB_X5_moveAsOriginal_138 hG hP  h
def B_X5_moveAsOriginal_86  (l1 : Int32) (l2 : Int32) (l3 : Nat) (l4 : Nat) (l5 : Int32) (l6 : Int64) (s0 : Int64) (V : sv_V) : Option sv_V := if (l1 &&& (8 : Int32)) = 0 then (B_X5_moveAsOriginal_105  l1 l2 l3 l4 l5 s0 V) else ((F_X5_atLeast s0 l6 V).bind (fun (x12, V10) => B_X5_moveAsOriginal_105  l1 l2 l3 l4 l5 x12 V10))
set_option maxRecDepth 20000 in
theorem tB_X5_moveAsOriginal_86 {g : sx_G} (hG : sx_Go g) {P : Option Value → sv_V → Prop} {Vr : sv_V} (hP : P none Vr)   {l1 : Int32} {l2 : Int32} {l3 : Nat} {l4 : Nat} {l5 : Int32} {l6 : Int64} {s0 : Int64} {V : sv_V} (h : B_X5_moveAsOriginal_86  l1 l2 l3 l4 l5 l6 s0 V = some Vr) : sv_N g qX5_moveAsOriginal 2 86 [(0, .ref 69), (1, .int l1), (2, .int l2), (3, .ref l3), (4, .ref l4), (5, .int l5), (6, .long l6)] [.long s0] V P := by
  unfold B_X5_moveAsOriginal_86 at h
  refine sx_lstore (pc := 86) (lo' := [(8, .long s0), (0, .ref 69), (1, .int l1), (2, .int l2), (3, .ref l3), (4, .ref l4), (5, .int l5), (6, .long l6)]) dX5_moveAsOriginal_86 (by decide) rfl ?_
  refine sx_iload_n (pc := 88) dX5_moveAsOriginal_88 sx_m2 ?_
  refine sx_bipush (pc := 89) (v := 8) dX5_moveAsOriginal_89 (by decide) ?_
  refine sx_iand (pc := 91) dX5_moveAsOriginal_91 ?_
  refine sx_if_eq (pc := 92) (tgt := 105) dX5_moveAsOriginal_92 (by decide) (fun c9 => ?_) (fun c9 => ?_)
  · have h := sx_pos c9 h
    refine sx_wk (sx_s1 sx_m1 (sx_s1 sx_m2 (sx_s1 sx_m3 (sx_s1 sx_m4 (sx_s1 sx_m5 (sx_s1 sx_m6 (sx_s1 sx_m0 sx_s0))))))) ?_
    exact tB_X5_moveAsOriginal_105 hG hP  h
  · have h := sx_neg c9 h
    refine sx_aload_n (pc := 95) dX5_moveAsOriginal_95 sx_m1 ?_
    refine sx_lload (pc := 96) dX5_moveAsOriginal_96 sx_m0 ?_
    refine sx_lload (pc := 98) dX5_moveAsOriginal_98 sx_m7 ?_
    obtain ⟨⟨x12, V10⟩, g11, h⟩ := sx_bnd h
    refine sv_cV (pc := 100) (y := qX5_atLeast) (o := (some (.long x12))) (as := [.long s0, .long l6]) (V1 := V10) hG dX5_moveAsOriginal_100 l_X5_544 y0X5_atLeast yvX5_atLeast rfl (Nat.le_of_ble_eq_true rfl) lay_69 kr_5 (by decide) (Nat.le_of_ble_eq_true rfl) rfl rfl rfl (t_X5_atLeast hG ⟨rfl, rfl⟩ g11) ?_
    refine sx_lstore (pc := 103) (lo' := [(8, .long x12), (0, .ref 69), (1, .int l1), (2, .int l2), (3, .ref l3), (4, .ref l4), (5, .int l5), (6, .long l6)]) dX5_moveAsOriginal_103 (by decide) rfl ?_
    refine sx_wk (sx_s1 sx_m1 (sx_s1 sx_m2 (sx_s1 sx_m3 (sx_s1 sx_m4 (sx_s1 sx_m5 (sx_s1 sx_m6 (sx_s1 sx_m0 sx_s0))))))) ?_
    exact tB_X5_moveAsOriginal_105 hG hP  h
def F_X5_moveAsOriginal (l1 : Int32) (V : sv_V) : Option sv_V := (F_X5_pop  V).bind (fun (x15, V13) => (F_X5_zone (1 : Int32) V13).bind (fun (x18, V16) => (F_X5_zone (0 : Int32) V16).bind (fun (x21, V19) => sx_let (V19.1 71 (0 : Int32).toNatClampNeg) (fun x22 => (F_X5_isThere x18 x15 V19).bind (fun (x25, V23) => if x25 = 0 then (some V23) else ((F_X5_isThere x21 x22 V23).bind (fun (x29, V27) => if x29 = 0 then (some V27) else ((F_X5_originalBetween x18 x15 x21 x22 V27).bind (fun (x33, V31) => (F_X5_orSingle x33 V31).bind (fun (x36, V34) => if (l1 &&& (4 : Int32)) = 0 then (B_X5_moveAsOriginal_86  l1 x15 x18 x21 x22 x36 x36 V34) else ((F_X9_rounded x36 V34).bind (fun (x40, V38) => B_X5_moveAsOriginal_86  l1 x15 x18 x21 x22 x36 x40 V38))))))))))))
set_option maxRecDepth 20000 in
theorem t_X5_moveAsOriginal {g : sx_G} (hG : sx_Go g) {P : Option Value → sv_V → Prop} {Vr : sv_V} (hP : P none Vr) {l1 : Int32} {V : sv_V} (h : F_X5_moveAsOriginal l1 V = some Vr) : sv_N g qX5_moveAsOriginal 2 0 [(0, .ref 69), (1, .int l1)] [] V P := by
  unfold F_X5_moveAsOriginal at h
  refine sx_aload_n (pc := 0) dX5_moveAsOriginal_0 sx_m0 ?_
  obtain ⟨⟨x15, V13⟩, g14, h⟩ := sx_bnd h
  refine sv_cV (pc := 1) (y := qX5_pop) (o := (some (.int x15))) (as := []) (V1 := V13) hG dX5_moveAsOriginal_1 l_X5_242 y0X5_pop yvX5_pop rfl (Nat.le_of_ble_eq_true rfl) lay_69 kr_5 (by decide) (Nat.le_of_ble_eq_true rfl) rfl rfl rfl (t_X5_pop hG ⟨rfl, rfl⟩ g14) ?_
  refine sx_istore_n (pc := 4) (lo' := [(2, .int x15), (0, .ref 69), (1, .int l1)]) dX5_moveAsOriginal_4 (by decide) rfl ?_
  refine sx_aload_n (pc := 5) dX5_moveAsOriginal_5 sx_m1 ?_
  refine sx_iconst (pc := 6) (v := 1) dX5_moveAsOriginal_6 (by decide) ?_
  obtain ⟨⟨x18, V16⟩, g17, h⟩ := sx_bnd h
  refine sv_cV (pc := 7) (y := qX5_zone) (o := (some (.ref x18))) (as := [.int (1 : Int32)]) (V1 := V16) hG dX5_moveAsOriginal_7 l_X5_255 y0X5_zone yvX5_zone rfl (Nat.le_of_ble_eq_true rfl) lay_69 kr_5 (by decide) (Nat.le_of_ble_eq_true rfl) rfl rfl rfl (t_X5_zone hG ⟨rfl, rfl⟩ g17) ?_
  refine sx_astore_n (pc := 10) (lo' := [(3, .ref x18), (2, .int x15), (0, .ref 69), (1, .int l1)]) dX5_moveAsOriginal_10 (by decide) rfl ?_
  refine sx_aload_n (pc := 11) dX5_moveAsOriginal_11 sx_m2 ?_
  refine sx_iconst (pc := 12) (v := 0) dX5_moveAsOriginal_12 (by decide) ?_
  obtain ⟨⟨x21, V19⟩, g20, h⟩ := sx_bnd h
  refine sv_cV (pc := 13) (y := qX5_zone) (o := (some (.ref x21))) (as := [.int (0 : Int32)]) (V1 := V19) hG dX5_moveAsOriginal_13 l_X5_255 y0X5_zone yvX5_zone rfl (Nat.le_of_ble_eq_true rfl) lay_69 kr_5 (by decide) (Nat.le_of_ble_eq_true rfl) rfl rfl rfl (t_X5_zone hG ⟨rfl, rfl⟩ g20) ?_
  refine sx_astore (pc := 16) (lo' := [(4, .ref x21), (3, .ref x18), (2, .int x15), (0, .ref 69), (1, .int l1)]) dX5_moveAsOriginal_16 (by decide) rfl ?_
  refine sx_aload_n (pc := 18) dX5_moveAsOriginal_18 sx_m3 ?_
  refine sv_getO (pc := 19) hG dX5_moveAsOriginal_19 f_5_12 lay_69 rfl cr_69_1 ?_
  refine sv_getA (pc := 22) hG dX5_moveAsOriginal_22 f_5_275 lay_70 rfl cr_70_6 ?_
  refine sx_iconst (pc := 25) (v := 0) dX5_moveAsOriginal_25 (by decide) ?_
  refine sv_iald (pc := 26) hG dX5_moveAsOriginal_26 lay_71 (by decide) ?_
  refine sv_tI (fun x22 hx22 => ?_)
  have h := sx_letE hx22 h
  refine sx_istore (pc := 27) (lo' := [(5, .int x22), (4, .ref x21), (3, .ref x18), (2, .int x15), (0, .ref 69), (1, .int l1)]) dX5_moveAsOriginal_27 (by decide) rfl ?_
  refine sx_aload_n (pc := 29) dX5_moveAsOriginal_29 sx_m4 ?_
  refine sx_aload_n (pc := 30) dX5_moveAsOriginal_30 sx_m2 ?_
  refine sx_iload_n (pc := 31) dX5_moveAsOriginal_31 sx_m3 ?_
  obtain ⟨⟨x25, V23⟩, g24, h⟩ := sx_bnd h
  refine sv_cV (pc := 32) (y := qX5_isThere) (o := (some (.int x25))) (as := [.ref x18, .int x15]) (V1 := V23) hG dX5_moveAsOriginal_32 l_X5_259 y0X5_isThere yvX5_isThere rfl (Nat.le_of_ble_eq_true rfl) lay_69 kr_5 (by decide) (Nat.le_of_ble_eq_true rfl) rfl rfl rfl (t_X5_isThere hG ⟨rfl, rfl⟩ g24) ?_
  refine sx_if_eq (pc := 35) (tgt := 49) dX5_moveAsOriginal_35 (by decide) (fun c26 => ?_) (fun c26 => ?_)
  · have h := sx_pos c26 h
    exact sv_vret (pc := 49) dX5_moveAsOriginal_49 rfl h hP
  · have h := sx_neg c26 h
    refine sx_aload_n (pc := 38) dX5_moveAsOriginal_38 sx_m4 ?_
    refine sx_aload (pc := 39) dX5_moveAsOriginal_39 sx_m1 ?_
    refine sx_iload (pc := 41) dX5_moveAsOriginal_41 sx_m0 ?_
    obtain ⟨⟨x29, V27⟩, g28, h⟩ := sx_bnd h
    refine sv_cV (pc := 43) (y := qX5_isThere) (o := (some (.int x29))) (as := [.ref x21, .int x22]) (V1 := V27) hG dX5_moveAsOriginal_43 l_X5_259 y0X5_isThere yvX5_isThere rfl (Nat.le_of_ble_eq_true rfl) lay_69 kr_5 (by decide) (Nat.le_of_ble_eq_true rfl) rfl rfl rfl (t_X5_isThere hG ⟨rfl, rfl⟩ g28) ?_
    refine sx_if_ne (pc := 46) (tgt := 50) dX5_moveAsOriginal_46 (by decide) (fun c30 => ?_) (fun c30 => ?_)
    · have h := sx_neg c30 h
      refine sx_aload_n (pc := 50) dX5_moveAsOriginal_50 sx_m4 ?_
      refine sx_aload_n (pc := 51) dX5_moveAsOriginal_51 sx_m4 ?_
      refine sx_aload_n (pc := 52) dX5_moveAsOriginal_52 sx_m2 ?_
      refine sx_iload_n (pc := 53) dX5_moveAsOriginal_53 sx_m3 ?_
      refine sx_aload (pc := 54) dX5_moveAsOriginal_54 sx_m1 ?_
      refine sx_iload (pc := 56) dX5_moveAsOriginal_56 sx_m0 ?_
      obtain ⟨⟨x33, V31⟩, g32, h⟩ := sx_bnd h
      refine sv_cV (pc := 58) (y := qX5_originalBetween) (o := (some (.long x33))) (as := [.ref x18, .int x15, .ref x21, .int x22]) (V1 := V31) hG dX5_moveAsOriginal_58 l_X5_471 y0X5_originalBetween yvX5_originalBetween rfl (Nat.le_of_ble_eq_true rfl) lay_69 kr_5 (by decide) (Nat.le_of_ble_eq_true rfl) rfl rfl rfl (t_X5_originalBetween hG ⟨rfl, rfl⟩ g32) ?_
      obtain ⟨⟨x36, V34⟩, g35, h⟩ := sx_bnd h
      refine sv_cV (pc := 61) (y := qX5_orSingle) (o := (some (.long x36))) (as := [.long x33]) (V1 := V34) hG dX5_moveAsOriginal_61 l_X5_541 y0X5_orSingle yvX5_orSingle rfl (Nat.le_of_ble_eq_true rfl) lay_69 kr_5 (by decide) (Nat.le_of_ble_eq_true rfl) rfl rfl rfl (t_X5_orSingle hG ⟨rfl, rfl⟩ g35) ?_
      refine sx_lstore (pc := 64) (lo' := [(6, .long x36), (5, .int x22), (4, .ref x21), (3, .ref x18), (2, .int x15), (0, .ref 69), (1, .int l1)]) dX5_moveAsOriginal_64 (by decide) rfl ?_
      refine sx_iload_n (pc := 66) dX5_moveAsOriginal_66 sx_m6 ?_
      refine sx_iconst (pc := 67) (v := 4) dX5_moveAsOriginal_67 (by decide) ?_
      refine sx_iand (pc := 68) dX5_moveAsOriginal_68 ?_
      refine sx_if_eq (pc := 69) (tgt := 84) dX5_moveAsOriginal_69 (by decide) (fun c37 => ?_) (fun c37 => ?_)
      · have h := sx_pos c37 h
        refine sx_lload (pc := 84) dX5_moveAsOriginal_84 sx_m0 ?_
        refine sx_wk (sx_s1 sx_m5 (sx_s1 sx_m6 (sx_s1 sx_m4 (sx_s1 sx_m3 (sx_s1 sx_m2 (sx_s1 sx_m1 (sx_s1 sx_m0 sx_s0))))))) ?_
        exact tB_X5_moveAsOriginal_86 hG hP  h
      · have h := sx_neg c37 h
        refine sx_aload_n (pc := 72) dX5_moveAsOriginal_72 sx_m5 ?_
        refine sv_getO (pc := 73) hG dX5_moveAsOriginal_73 f_5_12 lay_69 rfl cr_69_1 ?_
        refine sx_lload (pc := 76) dX5_moveAsOriginal_76 sx_m0 ?_
        obtain ⟨⟨x40, V38⟩, g39, h⟩ := sx_bnd h
        refine sv_cV (pc := 78) (y := qX9_rounded) (o := (some (.long x40))) (as := [.long x36]) (V1 := V38) hG dX5_moveAsOriginal_78 l_X5_414 y0X9_rounded yvX9_rounded rfl (Nat.le_of_ble_eq_true rfl) lay_70 kr_9 (by decide) (Nat.le_of_ble_eq_true rfl) rfl rfl rfl (t_X9_rounded hG ⟨rfl, rfl⟩ g39) ?_
        refine sx_goto (pc := 81) (tgt := 86) dX5_moveAsOriginal_81 (by decide) ?_
        refine sx_wk (sx_s1 sx_m5 (sx_s1 sx_m6 (sx_s1 sx_m4 (sx_s1 sx_m3 (sx_s1 sx_m2 (sx_s1 sx_m1 (sx_s1 sx_m0 sx_s0))))))) ?_
        exact tB_X5_moveAsOriginal_86 hG hP  h
    · have h := sx_pos c30 h
      exact sv_vret (pc := 49) dX5_moveAsOriginal_49 rfl h hP
def ncX5_moveAsCvt : Nat := 4573547356100089847349060610514667610669377952409409502453879698454138986796466885504923113144413722476333628804725186881152358384764630920872882184940011328174403883805412494928173585370566525676368080844458192951480581463068385309116117885948086585645289561271692153887781478521936825294868867395410408265943361257181704147754621376950257583423496993054859918244628703506416944797533910309449486424942373347782477479435595471248245144729202874607954806320409283962908843282341250771976251348737643984147909806216317693248758992870338144192587929038052670831947767414057745572128702035405746348184711769310637005144380689060008085573240072352506482650200432788584957527097066747774414005394828761211820937165762634461199018058261657149262518494832698019527488747050
theorem kcX5_moveAsCvt : CK cX5_moveAsCvt ncX5_moveAsCvt 318 := ⟨by decide +kernel, by decide +kernel⟩
theorem dX5_moveAsCvt_0 : decode cX5_moveAsCvt 0 = .ok (.aload_n 0, 1) := dl_o42 kcX5_moveAsCvt (by decide +kernel)
theorem dX5_moveAsCvt_1 : decode cX5_moveAsCvt 1 = .ok (.invokevirtual 242, 3) := dl_o182 kcX5_moveAsCvt (by decide +kernel)
theorem dX5_moveAsCvt_4 : decode cX5_moveAsCvt 4 = .ok (.istore_n 2, 1) := dl_o61 kcX5_moveAsCvt (by decide +kernel)
theorem dX5_moveAsCvt_5 : decode cX5_moveAsCvt 5 = .ok (.aload_n 0, 1) := dl_o42 kcX5_moveAsCvt (by decide +kernel)
theorem dX5_moveAsCvt_6 : decode cX5_moveAsCvt 6 = .ok (.invokevirtual 242, 3) := dl_o182 kcX5_moveAsCvt (by decide +kernel)
theorem dX5_moveAsCvt_9 : decode cX5_moveAsCvt 9 = .ok (.istore_n 3, 1) := dl_o62 kcX5_moveAsCvt (by decide +kernel)
theorem dX5_moveAsCvt_10 : decode cX5_moveAsCvt 10 = .ok (.aload_n 0, 1) := dl_o42 kcX5_moveAsCvt (by decide +kernel)
theorem dX5_moveAsCvt_11 : decode cX5_moveAsCvt 11 = .ok (.iconst 1, 1) := dl_o4 kcX5_moveAsCvt (by decide +kernel)
theorem dX5_moveAsCvt_12 : decode cX5_moveAsCvt 12 = .ok (.invokevirtual 255, 3) := dl_o182 kcX5_moveAsCvt (by decide +kernel)
theorem dX5_moveAsCvt_15 : decode cX5_moveAsCvt 15 = .ok (.astore 4, 2) := dl_o58 kcX5_moveAsCvt (by decide +kernel)
theorem dX5_moveAsCvt_17 : decode cX5_moveAsCvt 17 = .ok (.aload_n 0, 1) := dl_o42 kcX5_moveAsCvt (by decide +kernel)
theorem dX5_moveAsCvt_18 : decode cX5_moveAsCvt 18 = .ok (.iconst 0, 1) := dl_o3 kcX5_moveAsCvt (by decide +kernel)
theorem dX5_moveAsCvt_19 : decode cX5_moveAsCvt 19 = .ok (.invokevirtual 255, 3) := dl_o182 kcX5_moveAsCvt (by decide +kernel)
theorem dX5_moveAsCvt_22 : decode cX5_moveAsCvt 22 = .ok (.astore 5, 2) := dl_o58 kcX5_moveAsCvt (by decide +kernel)
theorem dX5_moveAsCvt_24 : decode cX5_moveAsCvt 24 = .ok (.aload_n 0, 1) := dl_o42 kcX5_moveAsCvt (by decide +kernel)
theorem dX5_moveAsCvt_25 : decode cX5_moveAsCvt 25 = .ok (.getfield 12, 3) := dl_o180 kcX5_moveAsCvt (by decide +kernel)
theorem dX5_moveAsCvt_28 : decode cX5_moveAsCvt 28 = .ok (.getfield 275, 3) := dl_o180 kcX5_moveAsCvt (by decide +kernel)
theorem dX5_moveAsCvt_31 : decode cX5_moveAsCvt 31 = .ok (.iconst 0, 1) := dl_o3 kcX5_moveAsCvt (by decide +kernel)
theorem dX5_moveAsCvt_32 : decode cX5_moveAsCvt 32 = .ok (.iaload, 1) := dl_o46 kcX5_moveAsCvt (by decide +kernel)
theorem dX5_moveAsCvt_33 : decode cX5_moveAsCvt 33 = .ok (.istore 6, 2) := dl_o54 kcX5_moveAsCvt (by decide +kernel)
theorem dX5_moveAsCvt_35 : decode cX5_moveAsCvt 35 = .ok (.aload_n 0, 1) := dl_o42 kcX5_moveAsCvt (by decide +kernel)
theorem dX5_moveAsCvt_36 : decode cX5_moveAsCvt 36 = .ok (.aload 4, 2) := dl_o25 kcX5_moveAsCvt (by decide +kernel)
theorem dX5_moveAsCvt_38 : decode cX5_moveAsCvt 38 = .ok (.iload_n 3, 1) := dl_o29 kcX5_moveAsCvt (by decide +kernel)
theorem dX5_moveAsCvt_39 : decode cX5_moveAsCvt 39 = .ok (.invokevirtual 259, 3) := dl_o182 kcX5_moveAsCvt (by decide +kernel)
theorem dX5_moveAsCvt_42 : decode cX5_moveAsCvt 42 = .ok (.ifCond .eq 14, 3) := dl_o153 kcX5_moveAsCvt 14 (by decide +kernel) (by decide +kernel)
theorem dX5_moveAsCvt_45 : decode cX5_moveAsCvt 45 = .ok (.aload_n 0, 1) := dl_o42 kcX5_moveAsCvt (by decide +kernel)
theorem dX5_moveAsCvt_46 : decode cX5_moveAsCvt 46 = .ok (.aload 5, 2) := dl_o25 kcX5_moveAsCvt (by decide +kernel)
theorem dX5_moveAsCvt_48 : decode cX5_moveAsCvt 48 = .ok (.iload 6, 2) := dl_o21 kcX5_moveAsCvt (by decide +kernel)
theorem dX5_moveAsCvt_50 : decode cX5_moveAsCvt 50 = .ok (.invokevirtual 259, 3) := dl_o182 kcX5_moveAsCvt (by decide +kernel)
theorem dX5_moveAsCvt_53 : decode cX5_moveAsCvt 53 = .ok (.ifCond .ne 4, 3) := dl_o154 kcX5_moveAsCvt 4 (by decide +kernel) (by decide +kernel)
theorem dX5_moveAsCvt_56 : decode cX5_moveAsCvt 56 = .ok (.return_, 1) := dl_o177 kcX5_moveAsCvt (by decide +kernel)
theorem dX5_moveAsCvt_57 : decode cX5_moveAsCvt 57 = .ok (.aload_n 0, 1) := dl_o42 kcX5_moveAsCvt (by decide +kernel)
theorem dX5_moveAsCvt_58 : decode cX5_moveAsCvt 58 = .ok (.getfield 49, 3) := dl_o180 kcX5_moveAsCvt (by decide +kernel)
theorem dX5_moveAsCvt_61 : decode cX5_moveAsCvt 61 = .ok (.iload_n 2, 1) := dl_o28 kcX5_moveAsCvt (by decide +kernel)
theorem dX5_moveAsCvt_62 : decode cX5_moveAsCvt 62 = .ok (.invokevirtual 405, 3) := dl_o182 kcX5_moveAsCvt (by decide +kernel)
theorem dX5_moveAsCvt_65 : decode cX5_moveAsCvt 65 = .ok (.ifCond .ne 10, 3) := dl_o154 kcX5_moveAsCvt 10 (by decide +kernel) (by decide +kernel)
theorem dX5_moveAsCvt_68 : decode cX5_moveAsCvt 68 = .ok (.aload_n 0, 1) := dl_o42 kcX5_moveAsCvt (by decide +kernel)
theorem dX5_moveAsCvt_69 : decode cX5_moveAsCvt 69 = .ok (.bipush 6, 2) := dl_o16 kcX5_moveAsCvt 6 (by decide +kernel) (by decide +kernel)
theorem dX5_moveAsCvt_71 : decode cX5_moveAsCvt 71 = .ok (.putfield 56, 3) := dl_o181 kcX5_moveAsCvt (by decide +kernel)
theorem dX5_moveAsCvt_74 : decode cX5_moveAsCvt 74 = .ok (.return_, 1) := dl_o177 kcX5_moveAsCvt (by decide +kernel)
theorem dX5_moveAsCvt_75 : decode cX5_moveAsCvt 75 = .ok (.aload_n 0, 1) := dl_o42 kcX5_moveAsCvt (by decide +kernel)
theorem dX5_moveAsCvt_76 : decode cX5_moveAsCvt 76 = .ok (.aload_n 0, 1) := dl_o42 kcX5_moveAsCvt (by decide +kernel)
theorem dX5_moveAsCvt_77 : decode cX5_moveAsCvt 77 = .ok (.getfield 49, 3) := dl_o180 kcX5_moveAsCvt (by decide +kernel)
theorem dX5_moveAsCvt_80 : decode cX5_moveAsCvt 80 = .ok (.getfield 411, 3) := dl_o180 kcX5_moveAsCvt (by decide +kernel)
theorem dX5_moveAsCvt_83 : decode cX5_moveAsCvt 83 = .ok (.iload_n 2, 1) := dl_o28 kcX5_moveAsCvt (by decide +kernel)
theorem dX5_moveAsCvt_84 : decode cX5_moveAsCvt 84 = .ok (.iaload, 1) := dl_o46 kcX5_moveAsCvt (by decide +kernel)
theorem dX5_moveAsCvt_85 : decode cX5_moveAsCvt 85 = .ok (.i2l, 1) := dl_o133 kcX5_moveAsCvt (by decide +kernel)
theorem dX5_moveAsCvt_86 : decode cX5_moveAsCvt 86 = .ok (.invokevirtual 541, 3) := dl_o182 kcX5_moveAsCvt (by decide +kernel)
theorem dX5_moveAsCvt_89 : decode cX5_moveAsCvt 89 = .ok (.lstore 7, 2) := dl_o55 kcX5_moveAsCvt (by decide +kernel)
theorem dX5_moveAsCvt_91 : decode cX5_moveAsCvt 91 = .ok (.aload_n 0, 1) := dl_o42 kcX5_moveAsCvt (by decide +kernel)
theorem dX5_moveAsCvt_92 : decode cX5_moveAsCvt 92 = .ok (.getfield 12, 3) := dl_o180 kcX5_moveAsCvt (by decide +kernel)
theorem dX5_moveAsCvt_95 : decode cX5_moveAsCvt 95 = .ok (.getfield 172, 3) := dl_o180 kcX5_moveAsCvt (by decide +kernel)
theorem dX5_moveAsCvt_98 : decode cX5_moveAsCvt 98 = .ok (.iconst 1, 1) := dl_o4 kcX5_moveAsCvt (by decide +kernel)
theorem dX5_moveAsCvt_99 : decode cX5_moveAsCvt 99 = .ok (.iaload, 1) := dl_o46 kcX5_moveAsCvt (by decide +kernel)
theorem dX5_moveAsCvt_100 : decode cX5_moveAsCvt 100 = .ok (.ifCond .ne 28, 3) := dl_o154 kcX5_moveAsCvt 28 (by decide +kernel) (by decide +kernel)
theorem dX5_moveAsCvt_103 : decode cX5_moveAsCvt 103 = .ok (.aload_n 0, 1) := dl_o42 kcX5_moveAsCvt (by decide +kernel)
theorem dX5_moveAsCvt_104 : decode cX5_moveAsCvt 104 = .ok (.aload 4, 2) := dl_o25 kcX5_moveAsCvt (by decide +kernel)
theorem dX5_moveAsCvt_106 : decode cX5_moveAsCvt 106 = .ok (.iload_n 3, 1) := dl_o29 kcX5_moveAsCvt (by decide +kernel)
theorem dX5_moveAsCvt_107 : decode cX5_moveAsCvt 107 = .ok (.aload 5, 2) := dl_o25 kcX5_moveAsCvt (by decide +kernel)
theorem dX5_moveAsCvt_109 : decode cX5_moveAsCvt 109 = .ok (.getfield 204, 3) := dl_o180 kcX5_moveAsCvt (by decide +kernel)
theorem dX5_moveAsCvt_112 : decode cX5_moveAsCvt 112 = .ok (.iload 6, 2) := dl_o21 kcX5_moveAsCvt (by decide +kernel)
theorem dX5_moveAsCvt_114 : decode cX5_moveAsCvt 114 = .ok (.iaload, 1) := dl_o46 kcX5_moveAsCvt (by decide +kernel)
theorem dX5_moveAsCvt_115 : decode cX5_moveAsCvt 115 = .ok (.aload 5, 2) := dl_o25 kcX5_moveAsCvt (by decide +kernel)
theorem dX5_moveAsCvt_117 : decode cX5_moveAsCvt 117 = .ok (.getfield 207, 3) := dl_o180 kcX5_moveAsCvt (by decide +kernel)
theorem dX5_moveAsCvt_120 : decode cX5_moveAsCvt 120 = .ok (.iload 6, 2) := dl_o21 kcX5_moveAsCvt (by decide +kernel)
theorem dX5_moveAsCvt_122 : decode cX5_moveAsCvt 122 = .ok (.iaload, 1) := dl_o46 kcX5_moveAsCvt (by decide +kernel)
theorem dX5_moveAsCvt_123 : decode cX5_moveAsCvt 123 = .ok (.lload 7, 2) := dl_o22 kcX5_moveAsCvt (by decide +kernel)
theorem dX5_moveAsCvt_125 : decode cX5_moveAsCvt 125 = .ok (.invokevirtual 530, 3) := dl_o182 kcX5_moveAsCvt (by decide +kernel)
theorem dX5_moveAsCvt_128 : decode cX5_moveAsCvt 128 = .ok (.aload_n 0, 1) := dl_o42 kcX5_moveAsCvt (by decide +kernel)
theorem dX5_moveAsCvt_129 : decode cX5_moveAsCvt 129 = .ok (.aload 4, 2) := dl_o25 kcX5_moveAsCvt (by decide +kernel)
theorem dX5_moveAsCvt_131 : decode cX5_moveAsCvt 131 = .ok (.iload_n 3, 1) := dl_o29 kcX5_moveAsCvt (by decide +kernel)
theorem dX5_moveAsCvt_132 : decode cX5_moveAsCvt 132 = .ok (.aload 5, 2) := dl_o25 kcX5_moveAsCvt (by decide +kernel)
theorem dX5_moveAsCvt_134 : decode cX5_moveAsCvt 134 = .ok (.iload 6, 2) := dl_o21 kcX5_moveAsCvt (by decide +kernel)
theorem dX5_moveAsCvt_136 : decode cX5_moveAsCvt 136 = .ok (.invokevirtual 471, 3) := dl_o182 kcX5_moveAsCvt (by decide +kernel)
theorem dX5_moveAsCvt_139 : decode cX5_moveAsCvt 139 = .ok (.lstore 9, 2) := dl_o55 kcX5_moveAsCvt (by decide +kernel)
theorem dX5_moveAsCvt_141 : decode cX5_moveAsCvt 141 = .ok (.aload_n 0, 1) := dl_o42 kcX5_moveAsCvt (by decide +kernel)
theorem dX5_moveAsCvt_142 : decode cX5_moveAsCvt 142 = .ok (.getfield 49, 3) := dl_o180 kcX5_moveAsCvt (by decide +kernel)
theorem dX5_moveAsCvt_145 : decode cX5_moveAsCvt 145 = .ok (.getfield 272, 3) := dl_o180 kcX5_moveAsCvt (by decide +kernel)
theorem dX5_moveAsCvt_148 : decode cX5_moveAsCvt 148 = .ok (.iconst 4, 1) := dl_o7 kcX5_moveAsCvt (by decide +kernel)
theorem dX5_moveAsCvt_149 : decode cX5_moveAsCvt 149 = .ok (.iaload, 1) := dl_o46 kcX5_moveAsCvt (by decide +kernel)
theorem dX5_moveAsCvt_150 : decode cX5_moveAsCvt 150 = .ok (.ifCond .eq 35, 3) := dl_o153 kcX5_moveAsCvt 35 (by decide +kernel) (by decide +kernel)
theorem dX5_moveAsCvt_153 : decode cX5_moveAsCvt 153 = .ok (.lload 9, 2) := dl_o22 kcX5_moveAsCvt (by decide +kernel)
theorem dX5_moveAsCvt_155 : decode cX5_moveAsCvt 155 = .ok (.lconst 0, 1) := dl_o9 kcX5_moveAsCvt (by decide +kernel)
theorem dX5_moveAsCvt_156 : decode cX5_moveAsCvt 156 = .ok (.lcmp, 1) := dl_o148 kcX5_moveAsCvt (by decide +kernel)
theorem dX5_moveAsCvt_157 : decode cX5_moveAsCvt 157 = .ok (.ifCond .ge 7, 3) := dl_o156 kcX5_moveAsCvt 7 (by decide +kernel) (by decide +kernel)
theorem dX5_moveAsCvt_160 : decode cX5_moveAsCvt 160 = .ok (.iconst 1, 1) := dl_o4 kcX5_moveAsCvt (by decide +kernel)
theorem dX5_moveAsCvt_161 : decode cX5_moveAsCvt 161 = .ok (.goto 4, 3) := dl_o167 kcX5_moveAsCvt 4 (by decide +kernel) (by decide +kernel)
theorem dX5_moveAsCvt_164 : decode cX5_moveAsCvt 164 = .ok (.iconst 0, 1) := dl_o3 kcX5_moveAsCvt (by decide +kernel)
theorem dX5_moveAsCvt_165 : decode cX5_moveAsCvt 165 = .ok (.lload 7, 2) := dl_o22 kcX5_moveAsCvt (by decide +kernel)
theorem dX5_moveAsCvt_167 : decode cX5_moveAsCvt 167 = .ok (.lconst 0, 1) := dl_o9 kcX5_moveAsCvt (by decide +kernel)
theorem dX5_moveAsCvt_168 : decode cX5_moveAsCvt 168 = .ok (.lcmp, 1) := dl_o148 kcX5_moveAsCvt (by decide +kernel)
theorem dX5_moveAsCvt_169 : decode cX5_moveAsCvt 169 = .ok (.ifCond .ge 7, 3) := dl_o156 kcX5_moveAsCvt 7 (by decide +kernel) (by decide +kernel)
theorem dX5_moveAsCvt_172 : decode cX5_moveAsCvt 172 = .ok (.iconst 1, 1) := dl_o4 kcX5_moveAsCvt (by decide +kernel)
theorem dX5_moveAsCvt_173 : decode cX5_moveAsCvt 173 = .ok (.goto 4, 3) := dl_o167 kcX5_moveAsCvt 4 (by decide +kernel) (by decide +kernel)
theorem dX5_moveAsCvt_176 : decode cX5_moveAsCvt 176 = .ok (.iconst 0, 1) := dl_o3 kcX5_moveAsCvt (by decide +kernel)
theorem dX5_moveAsCvt_177 : decode cX5_moveAsCvt 177 = .ok (.if_icmp .eq 8, 3) := dl_o159 kcX5_moveAsCvt 8 (by decide +kernel) (by decide +kernel)
theorem dX5_moveAsCvt_180 : decode cX5_moveAsCvt 180 = .ok (.lload 7, 2) := dl_o22 kcX5_moveAsCvt (by decide +kernel)
theorem dX5_moveAsCvt_182 : decode cX5_moveAsCvt 182 = .ok (.lneg, 1) := dl_o117 kcX5_moveAsCvt (by decide +kernel)
theorem dX5_moveAsCvt_183 : decode cX5_moveAsCvt 183 = .ok (.lstore 7, 2) := dl_o55 kcX5_moveAsCvt (by decide +kernel)
theorem dX5_moveAsCvt_185 : decode cX5_moveAsCvt 185 = .ok (.iload_n 1, 1) := dl_o27 kcX5_moveAsCvt (by decide +kernel)
theorem dX5_moveAsCvt_186 : decode cX5_moveAsCvt 186 = .ok (.iconst 4, 1) := dl_o7 kcX5_moveAsCvt (by decide +kernel)
theorem dX5_moveAsCvt_187 : decode cX5_moveAsCvt 187 = .ok (.iand, 1) := dl_o126 kcX5_moveAsCvt (by decide +kernel)
theorem dX5_moveAsCvt_188 : decode cX5_moveAsCvt 188 = .ok (.ifCond .eq 74, 3) := dl_o153 kcX5_moveAsCvt 74 (by decide +kernel) (by decide +kernel)
theorem dX5_moveAsCvt_191 : decode cX5_moveAsCvt 191 = .ok (.aload_n 0, 1) := dl_o42 kcX5_moveAsCvt (by decide +kernel)
theorem dX5_moveAsCvt_192 : decode cX5_moveAsCvt 192 = .ok (.getfield 12, 3) := dl_o180 kcX5_moveAsCvt (by decide +kernel)
theorem dX5_moveAsCvt_195 : decode cX5_moveAsCvt 195 = .ok (.getfield 172, 3) := dl_o180 kcX5_moveAsCvt (by decide +kernel)
theorem dX5_moveAsCvt_198 : decode cX5_moveAsCvt 198 = .ok (.iconst 0, 1) := dl_o3 kcX5_moveAsCvt (by decide +kernel)
theorem dX5_moveAsCvt_199 : decode cX5_moveAsCvt 199 = .ok (.iaload, 1) := dl_o46 kcX5_moveAsCvt (by decide +kernel)
theorem dX5_moveAsCvt_200 : decode cX5_moveAsCvt 200 = .ok (.aload_n 0, 1) := dl_o42 kcX5_moveAsCvt (by decide +kernel)
theorem dX5_moveAsCvt_201 : decode cX5_moveAsCvt 201 = .ok (.getfield 12, 3) := dl_o180 kcX5_moveAsCvt (by decide +kernel)
theorem dX5_moveAsCvt_204 : decode cX5_moveAsCvt 204 = .ok (.getfield 172, 3) := dl_o180 kcX5_moveAsCvt (by decide +kernel)
theorem dX5_moveAsCvt_207 : decode cX5_moveAsCvt 207 = .ok (.iconst 1, 1) := dl_o4 kcX5_moveAsCvt (by decide +kernel)
theorem dX5_moveAsCvt_208 : decode cX5_moveAsCvt 208 = .ok (.iaload, 1) := dl_o46 kcX5_moveAsCvt (by decide +kernel)
theorem dX5_moveAsCvt_209 : decode cX5_moveAsCvt 209 = .ok (.if_icmp .ne 29, 3) := dl_o160 kcX5_moveAsCvt 29 (by decide +kernel) (by decide +kernel)
theorem dX5_moveAsCvt_212 : decode cX5_moveAsCvt 212 = .ok (.lload 7, 2) := dl_o22 kcX5_moveAsCvt (by decide +kernel)
theorem dX5_moveAsCvt_214 : decode cX5_moveAsCvt 214 = .ok (.lload 9, 2) := dl_o22 kcX5_moveAsCvt (by decide +kernel)
theorem dX5_moveAsCvt_216 : decode cX5_moveAsCvt 216 = .ok (.lsub, 1) := dl_o101 kcX5_moveAsCvt (by decide +kernel)
theorem dX5_moveAsCvt_217 : decode cX5_moveAsCvt 217 = .ok (.invokestatic 538, 3) := dl_o184 kcX5_moveAsCvt (by decide +kernel)
theorem dX5_moveAsCvt_220 : decode cX5_moveAsCvt 220 = .ok (.aload_n 0, 1) := dl_o42 kcX5_moveAsCvt (by decide +kernel)
theorem dX5_moveAsCvt_221 : decode cX5_moveAsCvt 221 = .ok (.getfield 49, 3) := dl_o180 kcX5_moveAsCvt (by decide +kernel)
theorem dX5_moveAsCvt_224 : decode cX5_moveAsCvt 224 = .ok (.getfield 272, 3) := dl_o180 kcX5_moveAsCvt (by decide +kernel)
theorem dX5_moveAsCvt_227 : decode cX5_moveAsCvt 227 = .ok (.iconst 0, 1) := dl_o3 kcX5_moveAsCvt (by decide +kernel)
theorem dX5_moveAsCvt_228 : decode cX5_moveAsCvt 228 = .ok (.iaload, 1) := dl_o46 kcX5_moveAsCvt (by decide +kernel)
theorem dX5_moveAsCvt_229 : decode cX5_moveAsCvt 229 = .ok (.i2l, 1) := dl_o133 kcX5_moveAsCvt (by decide +kernel)
theorem dX5_moveAsCvt_230 : decode cX5_moveAsCvt 230 = .ok (.lcmp, 1) := dl_o148 kcX5_moveAsCvt (by decide +kernel)
theorem dX5_moveAsCvt_231 : decode cX5_moveAsCvt 231 = .ok (.ifCond .le 7, 3) := dl_o158 kcX5_moveAsCvt 7 (by decide +kernel) (by decide +kernel)
theorem dX5_moveAsCvt_234 : decode cX5_moveAsCvt 234 = .ok (.iconst 1, 1) := dl_o4 kcX5_moveAsCvt (by decide +kernel)
theorem dX5_moveAsCvt_235 : decode cX5_moveAsCvt 235 = .ok (.goto 4, 3) := dl_o167 kcX5_moveAsCvt 4 (by decide +kernel) (by decide +kernel)
theorem dX5_moveAsCvt_238 : decode cX5_moveAsCvt 238 = .ok (.iconst 0, 1) := dl_o3 kcX5_moveAsCvt (by decide +kernel)
theorem dX5_moveAsCvt_239 : decode cX5_moveAsCvt 239 = .ok (.istore 11, 2) := dl_o54 kcX5_moveAsCvt (by decide +kernel)
theorem dX5_moveAsCvt_241 : decode cX5_moveAsCvt 241 = .ok (.aload_n 0, 1) := dl_o42 kcX5_moveAsCvt (by decide +kernel)
theorem dX5_moveAsCvt_242 : decode cX5_moveAsCvt 242 = .ok (.getfield 12, 3) := dl_o180 kcX5_moveAsCvt (by decide +kernel)
theorem dX5_moveAsCvt_245 : decode cX5_moveAsCvt 245 = .ok (.iload 11, 2) := dl_o21 kcX5_moveAsCvt (by decide +kernel)
theorem dX5_moveAsCvt_247 : decode cX5_moveAsCvt 247 = .ok (.ifCond .eq 8, 3) := dl_o153 kcX5_moveAsCvt 8 (by decide +kernel) (by decide +kernel)
theorem dX5_moveAsCvt_250 : decode cX5_moveAsCvt 250 = .ok (.lload 9, 2) := dl_o22 kcX5_moveAsCvt (by decide +kernel)
theorem dX5_moveAsCvt_252 : decode cX5_moveAsCvt 252 = .ok (.goto 5, 3) := dl_o167 kcX5_moveAsCvt 5 (by decide +kernel) (by decide +kernel)
theorem dX5_moveAsCvt_255 : decode cX5_moveAsCvt 255 = .ok (.lload 7, 2) := dl_o22 kcX5_moveAsCvt (by decide +kernel)
theorem dX5_moveAsCvt_257 : decode cX5_moveAsCvt 257 = .ok (.invokevirtual 414, 3) := dl_o182 kcX5_moveAsCvt (by decide +kernel)
theorem dX5_moveAsCvt_260 : decode cX5_moveAsCvt 260 = .ok (.lstore 7, 2) := dl_o55 kcX5_moveAsCvt (by decide +kernel)
theorem dX5_moveAsCvt_262 : decode cX5_moveAsCvt 262 = .ok (.iload_n 1, 1) := dl_o27 kcX5_moveAsCvt (by decide +kernel)
theorem dX5_moveAsCvt_263 : decode cX5_moveAsCvt 263 = .ok (.bipush 8, 2) := dl_o16 kcX5_moveAsCvt 8 (by decide +kernel) (by decide +kernel)
theorem dX5_moveAsCvt_265 : decode cX5_moveAsCvt 265 = .ok (.iand, 1) := dl_o126 kcX5_moveAsCvt (by decide +kernel)
theorem dX5_moveAsCvt_266 : decode cX5_moveAsCvt 266 = .ok (.ifCond .eq 13, 3) := dl_o153 kcX5_moveAsCvt 13 (by decide +kernel) (by decide +kernel)
theorem dX5_moveAsCvt_269 : decode cX5_moveAsCvt 269 = .ok (.aload_n 0, 1) := dl_o42 kcX5_moveAsCvt (by decide +kernel)
theorem dX5_moveAsCvt_270 : decode cX5_moveAsCvt 270 = .ok (.lload 7, 2) := dl_o22 kcX5_moveAsCvt (by decide +kernel)
theorem dX5_moveAsCvt_272 : decode cX5_moveAsCvt 272 = .ok (.lload 9, 2) := dl_o22 kcX5_moveAsCvt (by decide +kernel)
theorem dX5_moveAsCvt_274 : decode cX5_moveAsCvt 274 = .ok (.invokevirtual 544, 3) := dl_o182 kcX5_moveAsCvt (by decide +kernel)
theorem dX5_moveAsCvt_277 : decode cX5_moveAsCvt 277 = .ok (.lstore 7, 2) := dl_o55 kcX5_moveAsCvt (by decide +kernel)
theorem dX5_moveAsCvt_279 : decode cX5_moveAsCvt 279 = .ok (.aload_n 0, 1) := dl_o42 kcX5_moveAsCvt (by decide +kernel)
theorem dX5_moveAsCvt_280 : decode cX5_moveAsCvt 280 = .ok (.aload 4, 2) := dl_o25 kcX5_moveAsCvt (by decide +kernel)
theorem dX5_moveAsCvt_282 : decode cX5_moveAsCvt 282 = .ok (.iload_n 3, 1) := dl_o29 kcX5_moveAsCvt (by decide +kernel)
theorem dX5_moveAsCvt_283 : decode cX5_moveAsCvt 283 = .ok (.lload 7, 2) := dl_o22 kcX5_moveAsCvt (by decide +kernel)
theorem dX5_moveAsCvt_285 : decode cX5_moveAsCvt 285 = .ok (.aload_n 0, 1) := dl_o42 kcX5_moveAsCvt (by decide +kernel)
theorem dX5_moveAsCvt_286 : decode cX5_moveAsCvt 286 = .ok (.aload 4, 2) := dl_o25 kcX5_moveAsCvt (by decide +kernel)
theorem dX5_moveAsCvt_288 : decode cX5_moveAsCvt 288 = .ok (.iload_n 3, 1) := dl_o29 kcX5_moveAsCvt (by decide +kernel)
theorem dX5_moveAsCvt_289 : decode cX5_moveAsCvt 289 = .ok (.aload 5, 2) := dl_o25 kcX5_moveAsCvt (by decide +kernel)
theorem dX5_moveAsCvt_291 : decode cX5_moveAsCvt 291 = .ok (.iload 6, 2) := dl_o21 kcX5_moveAsCvt (by decide +kernel)
theorem dX5_moveAsCvt_293 : decode cX5_moveAsCvt 293 = .ok (.invokevirtual 455, 3) := dl_o182 kcX5_moveAsCvt (by decide +kernel)
theorem dX5_moveAsCvt_296 : decode cX5_moveAsCvt 296 = .ok (.lsub, 1) := dl_o101 kcX5_moveAsCvt (by decide +kernel)
theorem dX5_moveAsCvt_297 : decode cX5_moveAsCvt 297 = .ok (.invokevirtual 461, 3) := dl_o182 kcX5_moveAsCvt (by decide +kernel)
theorem dX5_moveAsCvt_300 : decode cX5_moveAsCvt 300 = .ok (.aload_n 0, 1) := dl_o42 kcX5_moveAsCvt (by decide +kernel)
theorem dX5_moveAsCvt_301 : decode cX5_moveAsCvt 301 = .ok (.iload_n 3, 1) := dl_o29 kcX5_moveAsCvt (by decide +kernel)
theorem dX5_moveAsCvt_302 : decode cX5_moveAsCvt 302 = .ok (.iload_n 1, 1) := dl_o27 kcX5_moveAsCvt (by decide +kernel)
theorem dX5_moveAsCvt_303 : decode cX5_moveAsCvt 303 = .ok (.bipush 16, 2) := dl_o16 kcX5_moveAsCvt 16 (by decide +kernel) (by decide +kernel)
theorem dX5_moveAsCvt_305 : decode cX5_moveAsCvt 305 = .ok (.iand, 1) := dl_o126 kcX5_moveAsCvt (by decide +kernel)
theorem dX5_moveAsCvt_306 : decode cX5_moveAsCvt 306 = .ok (.ifCond .eq 7, 3) := dl_o153 kcX5_moveAsCvt 7 (by decide +kernel) (by decide +kernel)
theorem dX5_moveAsCvt_309 : decode cX5_moveAsCvt 309 = .ok (.iconst 1, 1) := dl_o4 kcX5_moveAsCvt (by decide +kernel)
theorem dX5_moveAsCvt_310 : decode cX5_moveAsCvt 310 = .ok (.goto 4, 3) := dl_o167 kcX5_moveAsCvt 4 (by decide +kernel) (by decide +kernel)
theorem dX5_moveAsCvt_313 : decode cX5_moveAsCvt 313 = .ok (.iconst 0, 1) := dl_o3 kcX5_moveAsCvt (by decide +kernel)
theorem dX5_moveAsCvt_314 : decode cX5_moveAsCvt 314 = .ok (.invokevirtual 534, 3) := dl_o182 kcX5_moveAsCvt (by decide +kernel)
theorem dX5_moveAsCvt_317 : decode cX5_moveAsCvt 317 = .ok (.return_, 1) := dl_o177 kcX5_moveAsCvt (by decide +kernel)
def B_X5_moveAsCvt_314  (s1 : Int32) (s2 : Int32) (V : sv_V) : Option sv_V := (F_X5_noteReferences s1 s2 V).bind (fun V1 => some V1)
set_option maxRecDepth 20000 in
theorem tB_X5_moveAsCvt_314 {g : sx_G} (hG : sx_Go g) {P : Option Value → sv_V → Prop} {Vr : sv_V} (hP : P none Vr)   {s1 : Int32} {s2 : Int32} {V : sv_V} (h : B_X5_moveAsCvt_314  s1 s2 V = some Vr) : sv_N g qX5_moveAsCvt 2 314 [] [.int s2, .int s1, .ref 69] V P := by
  unfold B_X5_moveAsCvt_314 at h
  obtain ⟨V1, g2, h⟩ := sx_bnd h
  refine sv_cV (pc := 314) (y := qX5_noteReferences) (o := none) (as := [.int s1, .int s2]) (V1 := V1) hG dX5_moveAsCvt_314 l_X5_534 y0X5_noteReferences yvX5_noteReferences rfl (Nat.le_of_ble_eq_true rfl) lay_69 kr_5 (by decide) (Nat.le_of_ble_eq_true rfl) rfl rfl rfl (t_X5_noteReferences hG ⟨rfl, rfl⟩ g2) ?_
  exact sv_vret (pc := 317) dX5_moveAsCvt_317 rfl h hP
def B_X5_moveAsCvt_279  (l1 : Int32) (l3 : Int32) (l4 : Nat) (l5 : Nat) (l6 : Int32) (l7 : Int64) (V : sv_V) : Option sv_V := (F_X5_longBetween l4 l3 l5 l6 V).bind (fun (x5, V3) => (F_X5_move l4 l3 (l7 - x5) V3).bind (fun V6 => if (l1 &&& (16 : Int32)) = 0 then (B_X5_moveAsCvt_314  l3 (0 : Int32) V6) else (B_X5_moveAsCvt_314  l3 (1 : Int32) V6)))
set_option maxRecDepth 20000 in
theorem tB_X5_moveAsCvt_279 {g : sx_G} (hG : sx_Go g) {P : Option Value → sv_V → Prop} {Vr : sv_V} (hP : P none Vr)   {l1 : Int32} {l3 : Int32} {l4 : Nat} {l5 : Nat} {l6 : Int32} {l7 : Int64} {V : sv_V} (h : B_X5_moveAsCvt_279  l1 l3 l4 l5 l6 l7 V = some Vr) : sv_N g qX5_moveAsCvt 2 279 [(0, .ref 69), (1, .int l1), (3, .int l3), (4, .ref l4), (5, .ref l5), (6, .int l6), (7, .long l7)] [] V P := by
  unfold B_X5_moveAsCvt_279 at h
  refine sx_aload_n (pc := 279) dX5_moveAsCvt_279 sx_m0 ?_
  refine sx_aload (pc := 280) dX5_moveAsCvt_280 sx_m3 ?_
  refine sx_iload_n (pc := 282) dX5_moveAsCvt_282 sx_m2 ?_
  refine sx_lload (pc := 283) dX5_moveAsCvt_283 sx_m6 ?_
  refine sx_aload_n (pc := 285) dX5_moveAsCvt_285 sx_m0 ?_
  refine sx_aload (pc := 286) dX5_moveAsCvt_286 sx_m3 ?_
  refine sx_iload_n (pc := 288) dX5_moveAsCvt_288 sx_m2 ?_
  refine sx_aload (pc := 289) dX5_moveAsCvt_289 sx_m4 ?_
  refine sx_iload (pc := 291) dX5_moveAsCvt_291 sx_m5 ?_
  obtain ⟨⟨x5, V3⟩, g4, h⟩ := sx_bnd h
  refine sv_cV (pc := 293) (y := qX5_longBetween) (o := (some (.long x5))) (as := [.ref l4, .int l3, .ref l5, .int l6]) (V1 := V3) hG dX5_moveAsCvt_293 l_X5_455 y0X5_longBetween yvX5_longBetween rfl (Nat.le_of_ble_eq_true rfl) lay_69 kr_5 (by decide) (Nat.le_of_ble_eq_true rfl) rfl rfl rfl (t_X5_longBetween hG ⟨rfl, rfl⟩ g4) ?_
  refine sx_lsub (pc := 296) dX5_moveAsCvt_296 ?_
  obtain ⟨V6, g7, h⟩ := sx_bnd h
  refine sv_cV (pc := 297) (y := qX5_move) (o := none) (as := [.ref l4, .int l3, .long (l7 - x5)]) (V1 := V6) hG dX5_moveAsCvt_297 l_X5_461 y0X5_move yvX5_move rfl (Nat.le_of_ble_eq_true rfl) lay_69 kr_5 (by decide) (Nat.le_of_ble_eq_true rfl) rfl rfl rfl (t_X5_move hG ⟨rfl, rfl⟩ g7) ?_
  refine sx_aload_n (pc := 300) dX5_moveAsCvt_300 sx_m0 ?_
  refine sx_iload_n (pc := 301) dX5_moveAsCvt_301 sx_m2 ?_
  refine sx_iload_n (pc := 302) dX5_moveAsCvt_302 sx_m1 ?_
  refine sx_bipush (pc := 303) (v := 16) dX5_moveAsCvt_303 (by decide) ?_
  refine sx_iand (pc := 305) dX5_moveAsCvt_305 ?_
  refine sx_if_eq (pc := 306) (tgt := 313) dX5_moveAsCvt_306 (by decide) (fun c8 => ?_) (fun c8 => ?_)
  · have h := sx_pos c8 h
    refine sx_iconst (pc := 313) (v := 0) dX5_moveAsCvt_313 (by decide) ?_
    refine sx_wk sx_s0 ?_
    exact tB_X5_moveAsCvt_314 hG hP  h
  · have h := sx_neg c8 h
    refine sx_iconst (pc := 309) (v := 1) dX5_moveAsCvt_309 (by decide) ?_
    refine sx_goto (pc := 310) (tgt := 314) dX5_moveAsCvt_310 (by decide) ?_
    refine sx_wk sx_s0 ?_
    exact tB_X5_moveAsCvt_314 hG hP  h
def B_X5_moveAsCvt_262  (l1 : Int32) (l3 : Int32) (l4 : Nat) (l5 : Nat) (l6 : Int32) (l7 : Int64) (l9 : Int64) (V : sv_V) : Option sv_V := if (l1 &&& (8 : Int32)) = 0 then (B_X5_moveAsCvt_279  l1 l3 l4 l5 l6 l7 V) else ((F_X5_atLeast l7 l9 V).bind (fun (x12, V10) => B_X5_moveAsCvt_279  l1 l3 l4 l5 l6 x12 V10))
set_option maxRecDepth 20000 in
theorem tB_X5_moveAsCvt_262 {g : sx_G} (hG : sx_Go g) {P : Option Value → sv_V → Prop} {Vr : sv_V} (hP : P none Vr)   {l1 : Int32} {l3 : Int32} {l4 : Nat} {l5 : Nat} {l6 : Int32} {l7 : Int64} {l9 : Int64} {V : sv_V} (h : B_X5_moveAsCvt_262  l1 l3 l4 l5 l6 l7 l9 V = some Vr) : sv_N g qX5_moveAsCvt 2 262 [(0, .ref 69), (1, .int l1), (3, .int l3), (4, .ref l4), (5, .ref l5), (6, .int l6), (7, .long l7), (9, .long l9)] [] V P := by
  unfold B_X5_moveAsCvt_262 at h
  refine sx_iload_n (pc := 262) dX5_moveAsCvt_262 sx_m1 ?_
  refine sx_bipush (pc := 263) (v := 8) dX5_moveAsCvt_263 (by decide) ?_
  refine sx_iand (pc := 265) dX5_moveAsCvt_265 ?_
  refine sx_if_eq (pc := 266) (tgt := 279) dX5_moveAsCvt_266 (by decide) (fun c9 => ?_) (fun c9 => ?_)
  · have h := sx_pos c9 h
    refine sx_wk (sx_s1 sx_m0 (sx_s1 sx_m1 (sx_s1 sx_m2 (sx_s1 sx_m3 (sx_s1 sx_m4 (sx_s1 sx_m5 (sx_s1 sx_m6 sx_s0))))))) ?_
    exact tB_X5_moveAsCvt_279 hG hP  h
  · have h := sx_neg c9 h
    refine sx_aload_n (pc := 269) dX5_moveAsCvt_269 sx_m0 ?_
    refine sx_lload (pc := 270) dX5_moveAsCvt_270 sx_m6 ?_
    refine sx_lload (pc := 272) dX5_moveAsCvt_272 sx_m7 ?_
    obtain ⟨⟨x12, V10⟩, g11, h⟩ := sx_bnd h
    refine sv_cV (pc := 274) (y := qX5_atLeast) (o := (some (.long x12))) (as := [.long l7, .long l9]) (V1 := V10) hG dX5_moveAsCvt_274 l_X5_544 y0X5_atLeast yvX5_atLeast rfl (Nat.le_of_ble_eq_true rfl) lay_69 kr_5 (by decide) (Nat.le_of_ble_eq_true rfl) rfl rfl rfl (t_X5_atLeast hG ⟨rfl, rfl⟩ g11) ?_
    refine sx_lstore (pc := 277) (lo' := [(7, .long x12), (0, .ref 69), (1, .int l1), (3, .int l3), (4, .ref l4), (5, .ref l5), (6, .int l6), (9, .long l9)]) dX5_moveAsCvt_277 (by decide) rfl ?_
    refine sx_wk (sx_s1 sx_m1 (sx_s1 sx_m2 (sx_s1 sx_m3 (sx_s1 sx_m4 (sx_s1 sx_m5 (sx_s1 sx_m6 (sx_s1 sx_m0 sx_s0))))))) ?_
    exact tB_X5_moveAsCvt_279 hG hP  h
def B_X5_moveAsCvt_257  (l1 : Int32) (l3 : Int32) (l4 : Nat) (l5 : Nat) (l6 : Int32) (l9 : Int64) (s1 : Int64) (V : sv_V) : Option sv_V := (F_X9_rounded s1 V).bind (fun (x15, V13) => B_X5_moveAsCvt_262  l1 l3 l4 l5 l6 x15 l9 V13)
set_option maxRecDepth 20000 in
theorem tB_X5_moveAsCvt_257 {g : sx_G} (hG : sx_Go g) {P : Option Value → sv_V → Prop} {Vr : sv_V} (hP : P none Vr)   {l1 : Int32} {l3 : Int32} {l4 : Nat} {l5 : Nat} {l6 : Int32} {l9 : Int64} {s1 : Int64} {V : sv_V} (h : B_X5_moveAsCvt_257  l1 l3 l4 l5 l6 l9 s1 V = some Vr) : sv_N g qX5_moveAsCvt 2 257 [(0, .ref 69), (1, .int l1), (3, .int l3), (4, .ref l4), (5, .ref l5), (6, .int l6), (9, .long l9)] [.long s1, .ref 70] V P := by
  unfold B_X5_moveAsCvt_257 at h
  obtain ⟨⟨x15, V13⟩, g14, h⟩ := sx_bnd h
  refine sv_cV (pc := 257) (y := qX9_rounded) (o := (some (.long x15))) (as := [.long s1]) (V1 := V13) hG dX5_moveAsCvt_257 l_X5_414 y0X9_rounded yvX9_rounded rfl (Nat.le_of_ble_eq_true rfl) lay_70 kr_9 (by decide) (Nat.le_of_ble_eq_true rfl) rfl rfl rfl (t_X9_rounded hG ⟨rfl, rfl⟩ g14) ?_
  refine sx_lstore (pc := 260) (lo' := [(7, .long x15), (0, .ref 69), (1, .int l1), (3, .int l3), (4, .ref l4), (5, .ref l5), (6, .int l6), (9, .long l9)]) dX5_moveAsCvt_260 (by decide) rfl ?_
  refine sx_wk (sx_s1 sx_m1 (sx_s1 sx_m2 (sx_s1 sx_m3 (sx_s1 sx_m4 (sx_s1 sx_m5 (sx_s1 sx_m6 (sx_s1 sx_m0 (sx_s1 sx_m7 sx_s0)))))))) ?_
  exact tB_X5_moveAsCvt_262 hG hP  h
def B_X5_moveAsCvt_239  (l1 : Int32) (l3 : Int32) (l4 : Nat) (l5 : Nat) (l6 : Int32) (l7 : Int64) (l9 : Int64) (s0 : Int32) (V : sv_V) : Option sv_V := if s0 = 0 then (B_X5_moveAsCvt_257  l1 l3 l4 l5 l6 l9 l7 V) else (B_X5_moveAsCvt_257  l1 l3 l4 l5 l6 l9 l9 V)
set_option maxRecDepth 20000 in
theorem tB_X5_moveAsCvt_239 {g : sx_G} (hG : sx_Go g) {P : Option Value → sv_V → Prop} {Vr : sv_V} (hP : P none Vr)   {l1 : Int32} {l3 : Int32} {l4 : Nat} {l5 : Nat} {l6 : Int32} {l7 : Int64} {l9 : Int64} {s0 : Int32} {V : sv_V} (h : B_X5_moveAsCvt_239  l1 l3 l4 l5 l6 l7 l9 s0 V = some Vr) : sv_N g qX5_moveAsCvt 2 239 [(0, .ref 69), (1, .int l1), (3, .int l3), (4, .ref l4), (5, .ref l5), (6, .int l6), (7, .long l7), (9, .long l9)] [.int s0] V P := by
  unfold B_X5_moveAsCvt_239 at h
  refine sx_istore (pc := 239) (lo' := [(11, .int s0), (0, .ref 69), (1, .int l1), (3, .int l3), (4, .ref l4), (5, .ref l5), (6, .int l6), (7, .long l7), (9, .long l9)]) dX5_moveAsCvt_239 (by decide) rfl ?_
  refine sx_aload_n (pc := 241) dX5_moveAsCvt_241 sx_m1 ?_
  refine sv_getO (pc := 242) hG dX5_moveAsCvt_242 f_5_12 lay_69 rfl cr_69_1 ?_
  refine sx_iload (pc := 245) dX5_moveAsCvt_245 sx_m0 ?_
  refine sx_if_eq (pc := 247) (tgt := 255) dX5_moveAsCvt_247 (by decide) (fun c16 => ?_) (fun c16 => ?_)
  · have h := sx_pos c16 h
    refine sx_lload (pc := 255) dX5_moveAsCvt_255 sx_m7 ?_
    refine sx_wk (sx_s1 sx_m1 (sx_s1 sx_m2 (sx_s1 sx_m3 (sx_s1 sx_m4 (sx_s1 sx_m5 (sx_s1 sx_m6 (sx_s1 sx_m8 sx_s0))))))) ?_
    exact tB_X5_moveAsCvt_257 hG hP  h
  · have h := sx_neg c16 h
    refine sx_lload (pc := 250) dX5_moveAsCvt_250 sx_m8 ?_
    refine sx_goto (pc := 252) (tgt := 257) dX5_moveAsCvt_252 (by decide) ?_
    refine sx_wk (sx_s1 sx_m1 (sx_s1 sx_m2 (sx_s1 sx_m3 (sx_s1 sx_m4 (sx_s1 sx_m5 (sx_s1 sx_m6 (sx_s1 sx_m8 sx_s0))))))) ?_
    exact tB_X5_moveAsCvt_257 hG hP  h
def B_X5_moveAsCvt_238  (l1 : Int32) (l3 : Int32) (l4 : Nat) (l5 : Nat) (l6 : Int32) (l7 : Int64) (l9 : Int64) (V : sv_V) : Option sv_V := B_X5_moveAsCvt_239  l1 l3 l4 l5 l6 l7 l9 (0 : Int32) V
set_option maxRecDepth 20000 in
theorem tB_X5_moveAsCvt_238 {g : sx_G} (hG : sx_Go g) {P : Option Value → sv_V → Prop} {Vr : sv_V} (hP : P none Vr)   {l1 : Int32} {l3 : Int32} {l4 : Nat} {l5 : Nat} {l6 : Int32} {l7 : Int64} {l9 : Int64} {V : sv_V} (h : B_X5_moveAsCvt_238  l1 l3 l4 l5 l6 l7 l9 V = some Vr) : sv_N g qX5_moveAsCvt 2 238 [(0, .ref 69), (1, .int l1), (3, .int l3), (4, .ref l4), (5, .ref l5), (6, .int l6), (7, .long l7), (9, .long l9)] [] V P := by
  unfold B_X5_moveAsCvt_238 at h
  refine sx_iconst (pc := 238) (v := 0) dX5_moveAsCvt_238 (by decide) ?_
  refine sx_wk (sx_s1 sx_m0 (sx_s1 sx_m1 (sx_s1 sx_m2 (sx_s1 sx_m3 (sx_s1 sx_m4 (sx_s1 sx_m5 (sx_s1 sx_m6 (sx_s1 sx_m7 sx_s0)))))))) ?_
  exact tB_X5_moveAsCvt_239 hG hP  h
def B_X5_moveAsCvt_185  (l1 : Int32) (l3 : Int32) (l4 : Nat) (l5 : Nat) (l6 : Int32) (l7 : Int64) (l9 : Int64) (V : sv_V) : Option sv_V := if (l1 &&& (4 : Int32)) = 0 then (B_X5_moveAsCvt_262  l1 l3 l4 l5 l6 l7 l9 V) else (if (V.1 72 (0 : Int32).toNatClampNeg) = (V.1 72 (1 : Int32).toNatClampNeg) then ((F_J9_abs_067f4 (l7 - l9) V).bind (fun (x21, V19) => (V19.2.2 69 6).bind (fun b22 => if lay b22 = .inl 7 then (cr b22 5).bind (fun b25 => (sv_len 0 b25).bind (fun n27 => if sx_in (0 : Int32) n27 = true then if (lg_cmp x21 ((V19.1 b25 (0 : Int32).toNatClampNeg).toInt64)) ≤ 0 then (B_X5_moveAsCvt_238  l1 l3 l4 l5 l6 l7 l9 V19) else (B_X5_moveAsCvt_239  l1 l3 l4 l5 l6 l7 l9 (1 : Int32) V19) else none)) else none))) else (B_X5_moveAsCvt_238  l1 l3 l4 l5 l6 l7 l9 V))
set_option maxRecDepth 20000 in
theorem tB_X5_moveAsCvt_185 {g : sx_G} (hG : sx_Go g) {P : Option Value → sv_V → Prop} {Vr : sv_V} (hP : P none Vr)   {l1 : Int32} {l3 : Int32} {l4 : Nat} {l5 : Nat} {l6 : Int32} {l7 : Int64} {l9 : Int64} {V : sv_V} (h : B_X5_moveAsCvt_185  l1 l3 l4 l5 l6 l7 l9 V = some Vr) : sv_N g qX5_moveAsCvt 2 185 [(0, .ref 69), (1, .int l1), (3, .int l3), (4, .ref l4), (5, .ref l5), (6, .int l6), (7, .long l7), (9, .long l9)] [] V P := by
  unfold B_X5_moveAsCvt_185 at h
  refine sx_iload_n (pc := 185) dX5_moveAsCvt_185 sx_m1 ?_
  refine sx_iconst (pc := 186) (v := 4) dX5_moveAsCvt_186 (by decide) ?_
  refine sx_iand (pc := 187) dX5_moveAsCvt_187 ?_
  refine sx_if_eq (pc := 188) (tgt := 262) dX5_moveAsCvt_188 (by decide) (fun c17 => ?_) (fun c17 => ?_)
  · have h := sx_pos c17 h
    refine sx_wk (sx_s1 sx_m0 (sx_s1 sx_m1 (sx_s1 sx_m2 (sx_s1 sx_m3 (sx_s1 sx_m4 (sx_s1 sx_m5 (sx_s1 sx_m6 (sx_s1 sx_m7 sx_s0)))))))) ?_
    exact tB_X5_moveAsCvt_262 hG hP  h
  · have h := sx_neg c17 h
    refine sx_aload_n (pc := 191) dX5_moveAsCvt_191 sx_m0 ?_
    refine sv_getO (pc := 192) hG dX5_moveAsCvt_192 f_5_12 lay_69 rfl cr_69_1 ?_
    refine sv_getA (pc := 195) hG dX5_moveAsCvt_195 f_5_172 lay_70 rfl cr_70_7 ?_
    refine sx_iconst (pc := 198) (v := 0) dX5_moveAsCvt_198 (by decide) ?_
    refine sv_iald (pc := 199) hG dX5_moveAsCvt_199 lay_72 (by decide) ?_
    refine sx_aload_n (pc := 200) dX5_moveAsCvt_200 sx_m0 ?_
    refine sv_getO (pc := 201) hG dX5_moveAsCvt_201 f_5_12 lay_69 rfl cr_69_1 ?_
    refine sv_getA (pc := 204) hG dX5_moveAsCvt_204 f_5_172 lay_70 rfl cr_70_7 ?_
    refine sx_iconst (pc := 207) (v := 1) dX5_moveAsCvt_207 (by decide) ?_
    refine sv_iald (pc := 208) hG dX5_moveAsCvt_208 lay_72 (by decide) ?_
    refine sx_icmp_ne (pc := 209) (tgt := 238) dX5_moveAsCvt_209 (by decide) (fun c18 => ?_) (fun c18 => ?_)
    · have h := sx_neg c18 h
      refine sx_wk (sx_s1 sx_m0 (sx_s1 sx_m1 (sx_s1 sx_m2 (sx_s1 sx_m3 (sx_s1 sx_m4 (sx_s1 sx_m5 (sx_s1 sx_m6 (sx_s1 sx_m7 sx_s0)))))))) ?_
      exact tB_X5_moveAsCvt_238 hG hP  h
    · have h := sx_pos c18 h
      refine sx_lload (pc := 212) dX5_moveAsCvt_212 sx_m6 ?_
      refine sx_lload (pc := 214) dX5_moveAsCvt_214 sx_m7 ?_
      refine sx_lsub (pc := 216) dX5_moveAsCvt_216 ?_
      obtain ⟨⟨x21, V19⟩, g20, h⟩ := sx_bnd h
      refine sv_cS (pc := 217) (y := qJ9_abs_067f4) (o := (some (.long x21))) (as := [.long (l7 - l9)]) (V1 := V19) dX5_moveAsCvt_217 l_X5_538 y0J9_abs_067f4 ysJ9_abs_067f4 rfl (Nat.le_of_ble_eq_true rfl) (by decide) (Nat.le_of_ble_eq_true rfl) rfl rfl rfl (t_J9_abs_067f4 hG ⟨rfl, rfl⟩ g20) ?_
      refine sx_aload_n (pc := 220) dX5_moveAsCvt_220 sx_m0 ?_
      obtain ⟨b22, g23, h⟩ := sx_bnd h
      refine sv_getV (pc := 221) hG dX5_moveAsCvt_221 f_5_49 lay_69 rfl rfl g23 ?_
      obtain ⟨g24, h⟩ := sx_grd h
      obtain ⟨b25, g26, h⟩ := sx_bnd h
      refine sv_getA (pc := 224) hG dX5_moveAsCvt_224 f_5_272 g24 rfl g26 ?_
      refine sx_iconst (pc := 227) (v := 0) dX5_moveAsCvt_227 (by decide) ?_
      obtain ⟨n27, g28, h⟩ := sx_bnd h
      obtain ⟨g29, h⟩ := sx_grd h
      refine sv_iald (pc := 228) hG dX5_moveAsCvt_228 (sv_len_e g28) g29 ?_
      refine sx_i2l (pc := 229) dX5_moveAsCvt_229 ?_
      refine sx_lcmp (pc := 230) dX5_moveAsCvt_230 ?_
      refine sx_if_le (pc := 231) (tgt := 238) dX5_moveAsCvt_231 (by decide) (fun c30 => ?_) (fun c30 => ?_)
      · have h := sx_pos c30 h
        refine sx_wk (sx_s1 sx_m0 (sx_s1 sx_m1 (sx_s1 sx_m2 (sx_s1 sx_m3 (sx_s1 sx_m4 (sx_s1 sx_m5 (sx_s1 sx_m6 (sx_s1 sx_m7 sx_s0)))))))) ?_
        exact tB_X5_moveAsCvt_238 hG hP  h
      · have h := sx_neg c30 h
        refine sx_iconst (pc := 234) (v := 1) dX5_moveAsCvt_234 (by decide) ?_
        refine sx_goto (pc := 235) (tgt := 239) dX5_moveAsCvt_235 (by decide) ?_
        refine sx_wk (sx_s1 sx_m0 (sx_s1 sx_m1 (sx_s1 sx_m2 (sx_s1 sx_m3 (sx_s1 sx_m4 (sx_s1 sx_m5 (sx_s1 sx_m6 (sx_s1 sx_m7 sx_s0)))))))) ?_
        exact tB_X5_moveAsCvt_239 hG hP  h
def B_X5_moveAsCvt_177  (l1 : Int32) (l3 : Int32) (l4 : Nat) (l5 : Nat) (l6 : Int32) (l7 : Int64) (l9 : Int64) (s0 : Int32) (s1 : Int32) (V : sv_V) : Option sv_V := if s0 = s1 then (B_X5_moveAsCvt_185  l1 l3 l4 l5 l6 l7 l9 V) else (sx_let (-l7) (fun x32 => B_X5_moveAsCvt_185  l1 l3 l4 l5 l6 x32 l9 V))
set_option maxRecDepth 20000 in
theorem tB_X5_moveAsCvt_177 {g : sx_G} (hG : sx_Go g) {P : Option Value → sv_V → Prop} {Vr : sv_V} (hP : P none Vr)   {l1 : Int32} {l3 : Int32} {l4 : Nat} {l5 : Nat} {l6 : Int32} {l7 : Int64} {l9 : Int64} {s0 : Int32} {s1 : Int32} {V : sv_V} (h : B_X5_moveAsCvt_177  l1 l3 l4 l5 l6 l7 l9 s0 s1 V = some Vr) : sv_N g qX5_moveAsCvt 2 177 [(0, .ref 69), (1, .int l1), (3, .int l3), (4, .ref l4), (5, .ref l5), (6, .int l6), (7, .long l7), (9, .long l9)] [.int s1, .int s0] V P := by
  unfold B_X5_moveAsCvt_177 at h
  refine sx_icmp_eq (pc := 177) (tgt := 185) dX5_moveAsCvt_177 (by decide) (fun c31 => ?_) (fun c31 => ?_)
  · have h := sx_pos c31 h
    refine sx_wk (sx_s1 sx_m0 (sx_s1 sx_m1 (sx_s1 sx_m2 (sx_s1 sx_m3 (sx_s1 sx_m4 (sx_s1 sx_m5 (sx_s1 sx_m6 (sx_s1 sx_m7 sx_s0)))))))) ?_
    exact tB_X5_moveAsCvt_185 hG hP  h
  · have h := sx_neg c31 h
    refine sx_lload (pc := 180) dX5_moveAsCvt_180 sx_m6 ?_
    refine sx_lneg (pc := 182) dX5_moveAsCvt_182 ?_
    refine sv_tJ (fun x32 hx32 => ?_)
    have h := sx_letE hx32 h
    refine sx_lstore (pc := 183) (lo' := [(7, .long x32), (0, .ref 69), (1, .int l1), (3, .int l3), (4, .ref l4), (5, .ref l5), (6, .int l6), (9, .long l9)]) dX5_moveAsCvt_183 (by decide) rfl ?_
    refine sx_wk (sx_s1 sx_m1 (sx_s1 sx_m2 (sx_s1 sx_m3 (sx_s1 sx_m4 (sx_s1 sx_m5 (sx_s1 sx_m6 (sx_s1 sx_m0 (sx_s1 sx_m7 sx_s0)))))))) ?_
    exact tB_X5_moveAsCvt_185 hG hP  h
def B_X5_moveAsCvt_165  (l1 : Int32) (l3 : Int32) (l4 : Nat) (l5 : Nat) (l6 : Int32) (l7 : Int64) (l9 : Int64) (s0 : Int32) (V : sv_V) : Option sv_V := if 0 ≤ (lg_cmp l7 (0 : Int64)) then (B_X5_moveAsCvt_177  l1 l3 l4 l5 l6 l7 l9 s0 (0 : Int32) V) else (B_X5_moveAsCvt_177  l1 l3 l4 l5 l6 l7 l9 s0 (1 : Int32) V)
set_option maxRecDepth 20000 in
theorem tB_X5_moveAsCvt_165 {g : sx_G} (hG : sx_Go g) {P : Option Value → sv_V → Prop} {Vr : sv_V} (hP : P none Vr)   {l1 : Int32} {l3 : Int32} {l4 : Nat} {l5 : Nat} {l6 : Int32} {l7 : Int64} {l9 : Int64} {s0 : Int32} {V : sv_V} (h : B_X5_moveAsCvt_165  l1 l3 l4 l5 l6 l7 l9 s0 V = some Vr) : sv_N g qX5_moveAsCvt 2 165 [(0, .ref 69), (1, .int l1), (3, .int l3), (4, .ref l4), (5, .ref l5), (6, .int l6), (7, .long l7), (9, .long l9)] [.int s0] V P := by
  unfold B_X5_moveAsCvt_165 at h
  refine sx_lload (pc := 165) dX5_moveAsCvt_165 sx_m6 ?_
  refine sx_lconst (pc := 167) (v := 0) dX5_moveAsCvt_167 rfl ?_
  refine sx_lcmp (pc := 168) dX5_moveAsCvt_168 ?_
  refine sx_if_ge (pc := 169) (tgt := 176) dX5_moveAsCvt_169 (by decide) (fun c33 => ?_) (fun c33 => ?_)
  · have h := sx_pos c33 h
    refine sx_iconst (pc := 176) (v := 0) dX5_moveAsCvt_176 (by decide) ?_
    refine sx_wk (sx_s1 sx_m0 (sx_s1 sx_m1 (sx_s1 sx_m2 (sx_s1 sx_m3 (sx_s1 sx_m4 (sx_s1 sx_m5 (sx_s1 sx_m6 (sx_s1 sx_m7 sx_s0)))))))) ?_
    exact tB_X5_moveAsCvt_177 hG hP  h
  · have h := sx_neg c33 h
    refine sx_iconst (pc := 172) (v := 1) dX5_moveAsCvt_172 (by decide) ?_
    refine sx_goto (pc := 173) (tgt := 177) dX5_moveAsCvt_173 (by decide) ?_
    refine sx_wk (sx_s1 sx_m0 (sx_s1 sx_m1 (sx_s1 sx_m2 (sx_s1 sx_m3 (sx_s1 sx_m4 (sx_s1 sx_m5 (sx_s1 sx_m6 (sx_s1 sx_m7 sx_s0)))))))) ?_
    exact tB_X5_moveAsCvt_177 hG hP  h
def B_X5_moveAsCvt_128  (l1 : Int32) (l3 : Int32) (l4 : Nat) (l5 : Nat) (l6 : Int32) (l7 : Int64) (V : sv_V) : Option sv_V := (F_X5_originalBetween l4 l3 l5 l6 V).bind (fun (x36, V34) => (V34.2.2 69 6).bind (fun b37 => if lay b37 = .inl 7 then (cr b37 5).bind (fun b40 => (sv_len 0 b40).bind (fun n42 => if sx_in (4 : Int32) n42 = true then if (V34.1 b40 (4 : Int32).toNatClampNeg) = 0 then (B_X5_moveAsCvt_185  l1 l3 l4 l5 l6 l7 x36 V34) else (if 0 ≤ (lg_cmp x36 (0 : Int64)) then (B_X5_moveAsCvt_165  l1 l3 l4 l5 l6 l7 x36 (0 : Int32) V34) else (B_X5_moveAsCvt_165  l1 l3 l4 l5 l6 l7 x36 (1 : Int32) V34)) else none)) else none))
set_option maxRecDepth 20000 in
theorem tB_X5_moveAsCvt_128 {g : sx_G} (hG : sx_Go g) {P : Option Value → sv_V → Prop} {Vr : sv_V} (hP : P none Vr)   {l1 : Int32} {l3 : Int32} {l4 : Nat} {l5 : Nat} {l6 : Int32} {l7 : Int64} {V : sv_V} (h : B_X5_moveAsCvt_128  l1 l3 l4 l5 l6 l7 V = some Vr) : sv_N g qX5_moveAsCvt 2 128 [(0, .ref 69), (1, .int l1), (3, .int l3), (4, .ref l4), (5, .ref l5), (6, .int l6), (7, .long l7)] [] V P := by
  unfold B_X5_moveAsCvt_128 at h
  refine sx_aload_n (pc := 128) dX5_moveAsCvt_128 sx_m0 ?_
  refine sx_aload (pc := 129) dX5_moveAsCvt_129 sx_m3 ?_
  refine sx_iload_n (pc := 131) dX5_moveAsCvt_131 sx_m2 ?_
  refine sx_aload (pc := 132) dX5_moveAsCvt_132 sx_m4 ?_
  refine sx_iload (pc := 134) dX5_moveAsCvt_134 sx_m5 ?_
  obtain ⟨⟨x36, V34⟩, g35, h⟩ := sx_bnd h
  refine sv_cV (pc := 136) (y := qX5_originalBetween) (o := (some (.long x36))) (as := [.ref l4, .int l3, .ref l5, .int l6]) (V1 := V34) hG dX5_moveAsCvt_136 l_X5_471 y0X5_originalBetween yvX5_originalBetween rfl (Nat.le_of_ble_eq_true rfl) lay_69 kr_5 (by decide) (Nat.le_of_ble_eq_true rfl) rfl rfl rfl (t_X5_originalBetween hG ⟨rfl, rfl⟩ g35) ?_
  refine sx_lstore (pc := 139) (lo' := [(9, .long x36), (0, .ref 69), (1, .int l1), (3, .int l3), (4, .ref l4), (5, .ref l5), (6, .int l6), (7, .long l7)]) dX5_moveAsCvt_139 (by decide) rfl ?_
  refine sx_aload_n (pc := 141) dX5_moveAsCvt_141 sx_m1 ?_
  obtain ⟨b37, g38, h⟩ := sx_bnd h
  refine sv_getV (pc := 142) hG dX5_moveAsCvt_142 f_5_49 lay_69 rfl rfl g38 ?_
  obtain ⟨g39, h⟩ := sx_grd h
  obtain ⟨b40, g41, h⟩ := sx_bnd h
  refine sv_getA (pc := 145) hG dX5_moveAsCvt_145 f_5_272 g39 rfl g41 ?_
  refine sx_iconst (pc := 148) (v := 4) dX5_moveAsCvt_148 (by decide) ?_
  obtain ⟨n42, g43, h⟩ := sx_bnd h
  obtain ⟨g44, h⟩ := sx_grd h
  refine sv_iald (pc := 149) hG dX5_moveAsCvt_149 (sv_len_e g43) g44 ?_
  refine sx_if_eq (pc := 150) (tgt := 185) dX5_moveAsCvt_150 (by decide) (fun c45 => ?_) (fun c45 => ?_)
  · have h := sx_pos c45 h
    refine sx_wk (sx_s1 sx_m1 (sx_s1 sx_m2 (sx_s1 sx_m3 (sx_s1 sx_m4 (sx_s1 sx_m5 (sx_s1 sx_m6 (sx_s1 sx_m7 (sx_s1 sx_m0 sx_s0)))))))) ?_
    exact tB_X5_moveAsCvt_185 hG hP  h
  · have h := sx_neg c45 h
    refine sx_lload (pc := 153) dX5_moveAsCvt_153 sx_m0 ?_
    refine sx_lconst (pc := 155) (v := 0) dX5_moveAsCvt_155 rfl ?_
    refine sx_lcmp (pc := 156) dX5_moveAsCvt_156 ?_
    refine sx_if_ge (pc := 157) (tgt := 164) dX5_moveAsCvt_157 (by decide) (fun c46 => ?_) (fun c46 => ?_)
    · have h := sx_pos c46 h
      refine sx_iconst (pc := 164) (v := 0) dX5_moveAsCvt_164 (by decide) ?_
      refine sx_wk (sx_s1 sx_m1 (sx_s1 sx_m2 (sx_s1 sx_m3 (sx_s1 sx_m4 (sx_s1 sx_m5 (sx_s1 sx_m6 (sx_s1 sx_m7 (sx_s1 sx_m0 sx_s0)))))))) ?_
      exact tB_X5_moveAsCvt_165 hG hP  h
    · have h := sx_neg c46 h
      refine sx_iconst (pc := 160) (v := 1) dX5_moveAsCvt_160 (by decide) ?_
      refine sx_goto (pc := 161) (tgt := 165) dX5_moveAsCvt_161 (by decide) ?_
      refine sx_wk (sx_s1 sx_m1 (sx_s1 sx_m2 (sx_s1 sx_m3 (sx_s1 sx_m4 (sx_s1 sx_m5 (sx_s1 sx_m6 (sx_s1 sx_m7 (sx_s1 sx_m0 sx_s0)))))))) ?_
      exact tB_X5_moveAsCvt_165 hG hP  h
def F_X5_moveAsCvt (l1 : Int32) (V : sv_V) : Option sv_V := (F_X5_pop  V).bind (fun (x49, V47) => (F_X5_pop  V47).bind (fun (x52, V50) => (F_X5_zone (1 : Int32) V50).bind (fun (x55, V53) => (F_X5_zone (0 : Int32) V53).bind (fun (x58, V56) => sx_let (V56.1 71 (0 : Int32).toNatClampNeg) (fun x59 => (F_X5_isThere x55 x52 V56).bind (fun (x62, V60) => if x62 = 0 then (some V60) else ((F_X5_isThere x58 x59 V60).bind (fun (x66, V64) => if x66 = 0 then (some V64) else ((V64.2.2 69 6).bind (fun b68 => (F_X7_hasCvt b68 x49 V64).bind (fun (x72, V70) => if lay b68 = .inl 7 then if x72 = 0 then (sx_let (sv_I V70 69 14 (6 : Int32)) (fun V100 => some V100)) else ((V70.2.2 69 6).bind (fun b75 => if lay b75 = .inl 7 then (cr b75 0).bind (fun b78 => (sv_len 0 b78).bind (fun n80 => if sx_in x49 n80 = true then (F_X5_orSingle ((V70.1 b78 x49.toNatClampNeg).toInt64) V70).bind (fun (x85, V83) => if (V83.1 72 (1 : Int32).toNatClampNeg) = 0 then (if lay x58 = .inl 8 then (cr x58 2).bind (fun b88 => (sv_len 0 b88).bind (fun n90 => if sx_in x59 n90 = true then (cr x58 3).bind (fun b93 => (sv_len 0 b93).bind (fun n95 => if sx_in x59 n95 = true then (F_X5_plant x55 x52 (V83.1 b88 x59.toNatClampNeg) (V83.1 b93 x59.toNatClampNeg) x85 V83).bind (fun V98 => B_X5_moveAsCvt_128  l1 x52 x55 x58 x59 x85 V98) else none)) else none)) else none) else (B_X5_moveAsCvt_128  l1 x52 x55 x58 x59 x85 V83)) else none)) else none)) else none)))))))))))
set_option maxRecDepth 20000 in
theorem t_X5_moveAsCvt {g : sx_G} (hG : sx_Go g) {P : Option Value → sv_V → Prop} {Vr : sv_V} (hP : P none Vr) {l1 : Int32} {V : sv_V} (h : F_X5_moveAsCvt l1 V = some Vr) : sv_N g qX5_moveAsCvt 2 0 [(0, .ref 69), (1, .int l1)] [] V P := by
  unfold F_X5_moveAsCvt at h
  refine sx_aload_n (pc := 0) dX5_moveAsCvt_0 sx_m0 ?_
  obtain ⟨⟨x49, V47⟩, g48, h⟩ := sx_bnd h
  refine sv_cV (pc := 1) (y := qX5_pop) (o := (some (.int x49))) (as := []) (V1 := V47) hG dX5_moveAsCvt_1 l_X5_242 y0X5_pop yvX5_pop rfl (Nat.le_of_ble_eq_true rfl) lay_69 kr_5 (by decide) (Nat.le_of_ble_eq_true rfl) rfl rfl rfl (t_X5_pop hG ⟨rfl, rfl⟩ g48) ?_
  refine sx_istore_n (pc := 4) (lo' := [(2, .int x49), (0, .ref 69), (1, .int l1)]) dX5_moveAsCvt_4 (by decide) rfl ?_
  refine sx_aload_n (pc := 5) dX5_moveAsCvt_5 sx_m1 ?_
  obtain ⟨⟨x52, V50⟩, g51, h⟩ := sx_bnd h
  refine sv_cV (pc := 6) (y := qX5_pop) (o := (some (.int x52))) (as := []) (V1 := V50) hG dX5_moveAsCvt_6 l_X5_242 y0X5_pop yvX5_pop rfl (Nat.le_of_ble_eq_true rfl) lay_69 kr_5 (by decide) (Nat.le_of_ble_eq_true rfl) rfl rfl rfl (t_X5_pop hG ⟨rfl, rfl⟩ g51) ?_
  refine sx_istore_n (pc := 9) (lo' := [(3, .int x52), (2, .int x49), (0, .ref 69), (1, .int l1)]) dX5_moveAsCvt_9 (by decide) rfl ?_
  refine sx_aload_n (pc := 10) dX5_moveAsCvt_10 sx_m2 ?_
  refine sx_iconst (pc := 11) (v := 1) dX5_moveAsCvt_11 (by decide) ?_
  obtain ⟨⟨x55, V53⟩, g54, h⟩ := sx_bnd h
  refine sv_cV (pc := 12) (y := qX5_zone) (o := (some (.ref x55))) (as := [.int (1 : Int32)]) (V1 := V53) hG dX5_moveAsCvt_12 l_X5_255 y0X5_zone yvX5_zone rfl (Nat.le_of_ble_eq_true rfl) lay_69 kr_5 (by decide) (Nat.le_of_ble_eq_true rfl) rfl rfl rfl (t_X5_zone hG ⟨rfl, rfl⟩ g54) ?_
  refine sx_astore (pc := 15) (lo' := [(4, .ref x55), (3, .int x52), (2, .int x49), (0, .ref 69), (1, .int l1)]) dX5_moveAsCvt_15 (by decide) rfl ?_
  refine sx_aload_n (pc := 17) dX5_moveAsCvt_17 sx_m3 ?_
  refine sx_iconst (pc := 18) (v := 0) dX5_moveAsCvt_18 (by decide) ?_
  obtain ⟨⟨x58, V56⟩, g57, h⟩ := sx_bnd h
  refine sv_cV (pc := 19) (y := qX5_zone) (o := (some (.ref x58))) (as := [.int (0 : Int32)]) (V1 := V56) hG dX5_moveAsCvt_19 l_X5_255 y0X5_zone yvX5_zone rfl (Nat.le_of_ble_eq_true rfl) lay_69 kr_5 (by decide) (Nat.le_of_ble_eq_true rfl) rfl rfl rfl (t_X5_zone hG ⟨rfl, rfl⟩ g57) ?_
  refine sx_astore (pc := 22) (lo' := [(5, .ref x58), (4, .ref x55), (3, .int x52), (2, .int x49), (0, .ref 69), (1, .int l1)]) dX5_moveAsCvt_22 (by decide) rfl ?_
  refine sx_aload_n (pc := 24) dX5_moveAsCvt_24 sx_m4 ?_
  refine sv_getO (pc := 25) hG dX5_moveAsCvt_25 f_5_12 lay_69 rfl cr_69_1 ?_
  refine sv_getA (pc := 28) hG dX5_moveAsCvt_28 f_5_275 lay_70 rfl cr_70_6 ?_
  refine sx_iconst (pc := 31) (v := 0) dX5_moveAsCvt_31 (by decide) ?_
  refine sv_iald (pc := 32) hG dX5_moveAsCvt_32 lay_71 (by decide) ?_
  refine sv_tI (fun x59 hx59 => ?_)
  have h := sx_letE hx59 h
  refine sx_istore (pc := 33) (lo' := [(6, .int x59), (5, .ref x58), (4, .ref x55), (3, .int x52), (2, .int x49), (0, .ref 69), (1, .int l1)]) dX5_moveAsCvt_33 (by decide) rfl ?_
  refine sx_aload_n (pc := 35) dX5_moveAsCvt_35 sx_m5 ?_
  refine sx_aload (pc := 36) dX5_moveAsCvt_36 sx_m2 ?_
  refine sx_iload_n (pc := 38) dX5_moveAsCvt_38 sx_m3 ?_
  obtain ⟨⟨x62, V60⟩, g61, h⟩ := sx_bnd h
  refine sv_cV (pc := 39) (y := qX5_isThere) (o := (some (.int x62))) (as := [.ref x55, .int x52]) (V1 := V60) hG dX5_moveAsCvt_39 l_X5_259 y0X5_isThere yvX5_isThere rfl (Nat.le_of_ble_eq_true rfl) lay_69 kr_5 (by decide) (Nat.le_of_ble_eq_true rfl) rfl rfl rfl (t_X5_isThere hG ⟨rfl, rfl⟩ g61) ?_
  refine sx_if_eq (pc := 42) (tgt := 56) dX5_moveAsCvt_42 (by decide) (fun c63 => ?_) (fun c63 => ?_)
  · have h := sx_pos c63 h
    exact sv_vret (pc := 56) dX5_moveAsCvt_56 rfl h hP
  · have h := sx_neg c63 h
    refine sx_aload_n (pc := 45) dX5_moveAsCvt_45 sx_m5 ?_
    refine sx_aload (pc := 46) dX5_moveAsCvt_46 sx_m1 ?_
    refine sx_iload (pc := 48) dX5_moveAsCvt_48 sx_m0 ?_
    obtain ⟨⟨x66, V64⟩, g65, h⟩ := sx_bnd h
    refine sv_cV (pc := 50) (y := qX5_isThere) (o := (some (.int x66))) (as := [.ref x58, .int x59]) (V1 := V64) hG dX5_moveAsCvt_50 l_X5_259 y0X5_isThere yvX5_isThere rfl (Nat.le_of_ble_eq_true rfl) lay_69 kr_5 (by decide) (Nat.le_of_ble_eq_true rfl) rfl rfl rfl (t_X5_isThere hG ⟨rfl, rfl⟩ g65) ?_
    refine sx_if_ne (pc := 53) (tgt := 57) dX5_moveAsCvt_53 (by decide) (fun c67 => ?_) (fun c67 => ?_)
    · have h := sx_neg c67 h
      refine sx_aload_n (pc := 57) dX5_moveAsCvt_57 sx_m5 ?_
      obtain ⟨b68, g69, h⟩ := sx_bnd h
      refine sv_getV (pc := 58) hG dX5_moveAsCvt_58 f_5_49 lay_69 rfl rfl g69 ?_
      refine sx_iload_n (pc := 61) dX5_moveAsCvt_61 sx_m4 ?_
      obtain ⟨⟨x72, V70⟩, g71, h⟩ := sx_bnd h
      obtain ⟨g73, h⟩ := sx_grd h
      refine sv_cV (pc := 62) (y := qX7_hasCvt) (o := (some (.int x72))) (as := [.int x49]) (V1 := V70) hG dX5_moveAsCvt_62 l_X5_405 y0X7_hasCvt yvX7_hasCvt rfl (Nat.le_of_ble_eq_true rfl) g73 kr_7 (by decide) (Nat.le_of_ble_eq_true rfl) rfl rfl rfl (t_X7_hasCvt hG ⟨rfl, rfl⟩ g71) ?_
      refine sx_if_ne (pc := 65) (tgt := 75) dX5_moveAsCvt_65 (by decide) (fun c74 => ?_) (fun c74 => ?_)
      · have h := sx_neg c74 h
        refine sx_aload_n (pc := 75) dX5_moveAsCvt_75 sx_m5 ?_
        refine sx_aload_n (pc := 76) dX5_moveAsCvt_76 sx_m5 ?_
        obtain ⟨b75, g76, h⟩ := sx_bnd h
        refine sv_getV (pc := 77) hG dX5_moveAsCvt_77 f_5_49 lay_69 rfl rfl g76 ?_
        obtain ⟨g77, h⟩ := sx_grd h
        obtain ⟨b78, g79, h⟩ := sx_bnd h
        refine sv_getA (pc := 80) hG dX5_moveAsCvt_80 f_5_411 g77 rfl g79 ?_
        refine sx_iload_n (pc := 83) dX5_moveAsCvt_83 sx_m4 ?_
        obtain ⟨n80, g81, h⟩ := sx_bnd h
        obtain ⟨g82, h⟩ := sx_grd h
        refine sv_iald (pc := 84) hG dX5_moveAsCvt_84 (sv_len_e g81) g82 ?_
        refine sx_i2l (pc := 85) dX5_moveAsCvt_85 ?_
        obtain ⟨⟨x85, V83⟩, g84, h⟩ := sx_bnd h
        refine sv_cV (pc := 86) (y := qX5_orSingle) (o := (some (.long x85))) (as := [.long ((V70.1 b78 x49.toNatClampNeg).toInt64)]) (V1 := V83) hG dX5_moveAsCvt_86 l_X5_541 y0X5_orSingle yvX5_orSingle rfl (Nat.le_of_ble_eq_true rfl) lay_69 kr_5 (by decide) (Nat.le_of_ble_eq_true rfl) rfl rfl rfl (t_X5_orSingle hG ⟨rfl, rfl⟩ g84) ?_
        refine sx_lstore (pc := 89) (lo' := [(7, .long x85), (6, .int x59), (5, .ref x58), (4, .ref x55), (3, .int x52), (2, .int x49), (0, .ref 69), (1, .int l1)]) dX5_moveAsCvt_89 (by decide) rfl ?_
        refine sx_aload_n (pc := 91) dX5_moveAsCvt_91 sx_m6 ?_
        refine sv_getO (pc := 92) hG dX5_moveAsCvt_92 f_5_12 lay_69 rfl cr_69_1 ?_
        refine sv_getA (pc := 95) hG dX5_moveAsCvt_95 f_5_172 lay_70 rfl cr_70_7 ?_
        refine sx_iconst (pc := 98) (v := 1) dX5_moveAsCvt_98 (by decide) ?_
        refine sv_iald (pc := 99) hG dX5_moveAsCvt_99 lay_72 (by decide) ?_
        refine sx_if_ne (pc := 100) (tgt := 128) dX5_moveAsCvt_100 (by decide) (fun c86 => ?_) (fun c86 => ?_)
        · have h := sx_neg c86 h
          refine sx_wk (sx_s1 sx_m6 (sx_s1 sx_m7 (sx_s1 sx_m4 (sx_s1 sx_m3 (sx_s1 sx_m2 (sx_s1 sx_m1 (sx_s1 sx_m0 sx_s0))))))) ?_
          exact tB_X5_moveAsCvt_128 hG hP  h
        · have h := sx_pos c86 h
          refine sx_aload_n (pc := 103) dX5_moveAsCvt_103 sx_m6 ?_
          refine sx_aload (pc := 104) dX5_moveAsCvt_104 sx_m3 ?_
          refine sx_iload_n (pc := 106) dX5_moveAsCvt_106 sx_m4 ?_
          refine sx_aload (pc := 107) dX5_moveAsCvt_107 sx_m2 ?_
          obtain ⟨g87, h⟩ := sx_grd h
          obtain ⟨b88, g89, h⟩ := sx_bnd h
          refine sv_getA (pc := 109) hG dX5_moveAsCvt_109 f_5_204 g87 rfl g89 ?_
          refine sx_iload (pc := 112) dX5_moveAsCvt_112 sx_m1 ?_
          obtain ⟨n90, g91, h⟩ := sx_bnd h
          obtain ⟨g92, h⟩ := sx_grd h
          refine sv_iald (pc := 114) hG dX5_moveAsCvt_114 (sv_len_e g91) g92 ?_
          refine sx_aload (pc := 115) dX5_moveAsCvt_115 sx_m2 ?_
          obtain ⟨b93, g94, h⟩ := sx_bnd h
          refine sv_getA (pc := 117) hG dX5_moveAsCvt_117 f_5_207 g87 rfl g94 ?_
          refine sx_iload (pc := 120) dX5_moveAsCvt_120 sx_m1 ?_
          obtain ⟨n95, g96, h⟩ := sx_bnd h
          obtain ⟨g97, h⟩ := sx_grd h
          refine sv_iald (pc := 122) hG dX5_moveAsCvt_122 (sv_len_e g96) g97 ?_
          refine sx_lload (pc := 123) dX5_moveAsCvt_123 sx_m0 ?_
          obtain ⟨V98, g99, h⟩ := sx_bnd h
          refine sv_cV (pc := 125) (y := qX5_plant) (o := none) (as := [.ref x55, .int x52, .int (V83.1 b88 x59.toNatClampNeg), .int (V83.1 b93 x59.toNatClampNeg), .long x85]) (V1 := V98) hG dX5_moveAsCvt_125 l_X5_530 y0X5_plant yvX5_plant rfl (Nat.le_of_ble_eq_true rfl) lay_69 kr_5 (by decide) (Nat.le_of_ble_eq_true rfl) rfl rfl rfl (t_X5_plant hG ⟨rfl, rfl⟩ g99) ?_
          refine sx_wk (sx_s1 sx_m6 (sx_s1 sx_m7 (sx_s1 sx_m4 (sx_s1 sx_m3 (sx_s1 sx_m2 (sx_s1 sx_m1 (sx_s1 sx_m0 sx_s0))))))) ?_
          exact tB_X5_moveAsCvt_128 hG hP  h
      · have h := sx_pos c74 h
        refine sx_aload_n (pc := 68) dX5_moveAsCvt_68 sx_m5 ?_
        refine sx_bipush (pc := 69) (v := 6) dX5_moveAsCvt_69 (by decide) ?_
        obtain ⟨V100, hV100⟩ : ∃ z : sv_V, z = sv_I V70 69 14 (6 : Int32) := ⟨_, rfl⟩
        have h := sx_letE hV100 h
        refine sv_putI (pc := 71) hG dX5_moveAsCvt_71 f_5_56 lay_69 rfl hV100 ?_
        exact sv_vret (pc := 74) dX5_moveAsCvt_74 rfl h hP
    · have h := sx_pos c67 h
      exact sv_vret (pc := 56) dX5_moveAsCvt_56 rfl h hP
def ncX5_deltaCodes : Nat := 33909647066155306171633071066939836092205041262491745023231604461488107935868811429865412677487821119581614945905749724761104245642371096420854684194287795197046368360686685687245205008507236578947820674337454793367937382111226800996194538326329101964363362146306875489726495146742594772172285865312461731380948214670421671215326828745719527176643780741572805289671073322067413986188532107871215805708040037775595092886138814218410861549257320070414476896624905494104095026675203645103293904426
theorem kcX5_deltaCodes : CK cX5_deltaCodes ncX5_deltaCodes 205 := ⟨by decide +kernel, by decide +kernel⟩
theorem dX5_deltaCodes_0 : decode cX5_deltaCodes 0 = .ok (.aload_n 0, 1) := dl_o42 kcX5_deltaCodes (by decide +kernel)
theorem dX5_deltaCodes_1 : decode cX5_deltaCodes 1 = .ok (.invokevirtual 242, 3) := dl_o182 kcX5_deltaCodes (by decide +kernel)
theorem dX5_deltaCodes_4 : decode cX5_deltaCodes 4 = .ok (.istore_n 2, 1) := dl_o61 kcX5_deltaCodes (by decide +kernel)
theorem dX5_deltaCodes_5 : decode cX5_deltaCodes 5 = .ok (.iload_n 2, 1) := dl_o28 kcX5_deltaCodes (by decide +kernel)
theorem dX5_deltaCodes_6 : decode cX5_deltaCodes 6 = .ok (.ifCond .ge 10, 3) := dl_o156 kcX5_deltaCodes 10 (by decide +kernel) (by decide +kernel)
theorem dX5_deltaCodes_9 : decode cX5_deltaCodes 9 = .ok (.aload_n 0, 1) := dl_o42 kcX5_deltaCodes (by decide +kernel)
theorem dX5_deltaCodes_10 : decode cX5_deltaCodes 10 = .ok (.bipush 11, 2) := dl_o16 kcX5_deltaCodes 11 (by decide +kernel) (by decide +kernel)
theorem dX5_deltaCodes_12 : decode cX5_deltaCodes 12 = .ok (.putfield 56, 3) := dl_o181 kcX5_deltaCodes (by decide +kernel)
theorem dX5_deltaCodes_15 : decode cX5_deltaCodes 15 = .ok (.return_, 1) := dl_o177 kcX5_deltaCodes (by decide +kernel)
theorem dX5_deltaCodes_16 : decode cX5_deltaCodes 16 = .ok (.ldc2_w 459, 3) := dl_o20 kcX5_deltaCodes (by decide +kernel)
theorem dX5_deltaCodes_19 : decode cX5_deltaCodes 19 = .ok (.iload_n 2, 1) := dl_o28 kcX5_deltaCodes (by decide +kernel)
theorem dX5_deltaCodes_20 : decode cX5_deltaCodes 20 = .ok (.i2l, 1) := dl_o133 kcX5_deltaCodes (by decide +kernel)
theorem dX5_deltaCodes_21 : decode cX5_deltaCodes 21 = .ok (.lmul, 1) := dl_o105 kcX5_deltaCodes (by decide +kernel)
theorem dX5_deltaCodes_22 : decode cX5_deltaCodes 22 = .ok (.aload_n 0, 1) := dl_o42 kcX5_deltaCodes (by decide +kernel)
theorem dX5_deltaCodes_23 : decode cX5_deltaCodes 23 = .ok (.getfield 96, 3) := dl_o180 kcX5_deltaCodes (by decide +kernel)
theorem dX5_deltaCodes_26 : decode cX5_deltaCodes 26 = .ok (.i2l, 1) := dl_o133 kcX5_deltaCodes (by decide +kernel)
theorem dX5_deltaCodes_27 : decode cX5_deltaCodes 27 = .ok (.lcmp, 1) := dl_o148 kcX5_deltaCodes (by decide +kernel)
theorem dX5_deltaCodes_28 : decode cX5_deltaCodes 28 = .ok (.ifCond .le 9, 3) := dl_o158 kcX5_deltaCodes 9 (by decide +kernel) (by decide +kernel)
theorem dX5_deltaCodes_31 : decode cX5_deltaCodes 31 = .ok (.aload_n 0, 1) := dl_o42 kcX5_deltaCodes (by decide +kernel)
theorem dX5_deltaCodes_32 : decode cX5_deltaCodes 32 = .ok (.iconst 1, 1) := dl_o4 kcX5_deltaCodes (by decide +kernel)
theorem dX5_deltaCodes_33 : decode cX5_deltaCodes 33 = .ok (.putfield 56, 3) := dl_o181 kcX5_deltaCodes (by decide +kernel)
theorem dX5_deltaCodes_36 : decode cX5_deltaCodes 36 = .ok (.return_, 1) := dl_o177 kcX5_deltaCodes (by decide +kernel)
theorem dX5_deltaCodes_37 : decode cX5_deltaCodes 37 = .ok (.aload_n 0, 1) := dl_o42 kcX5_deltaCodes (by decide +kernel)
theorem dX5_deltaCodes_38 : decode cX5_deltaCodes 38 = .ok (.getfield 49, 3) := dl_o180 kcX5_deltaCodes (by decide +kernel)
theorem dX5_deltaCodes_41 : decode cX5_deltaCodes 41 = .ok (.getfield 272, 3) := dl_o180 kcX5_deltaCodes (by decide +kernel)
theorem dX5_deltaCodes_44 : decode cX5_deltaCodes 44 = .ok (.iconst 5, 1) := dl_o8 kcX5_deltaCodes (by decide +kernel)
theorem dX5_deltaCodes_45 : decode cX5_deltaCodes 45 = .ok (.iaload, 1) := dl_o46 kcX5_deltaCodes (by decide +kernel)
theorem dX5_deltaCodes_46 : decode cX5_deltaCodes 46 = .ok (.i2l, 1) := dl_o133 kcX5_deltaCodes (by decide +kernel)
theorem dX5_deltaCodes_47 : decode cX5_deltaCodes 47 = .ok (.lstore_n 3, 1) := dl_o66 kcX5_deltaCodes (by decide +kernel)
theorem dX5_deltaCodes_48 : decode cX5_deltaCodes 48 = .ok (.iload_n 1, 1) := dl_o27 kcX5_deltaCodes (by decide +kernel)
theorem dX5_deltaCodes_49 : decode cX5_deltaCodes 49 = .ok (.bipush 113, 2) := dl_o16 kcX5_deltaCodes 113 (by decide +kernel) (by decide +kernel)
theorem dX5_deltaCodes_51 : decode cX5_deltaCodes 51 = .ok (.if_icmp .eq 9, 3) := dl_o159 kcX5_deltaCodes 9 (by decide +kernel) (by decide +kernel)
theorem dX5_deltaCodes_54 : decode cX5_deltaCodes 54 = .ok (.iload_n 1, 1) := dl_o27 kcX5_deltaCodes (by decide +kernel)
theorem dX5_deltaCodes_55 : decode cX5_deltaCodes 55 = .ok (.bipush 116, 2) := dl_o16 kcX5_deltaCodes 116 (by decide +kernel) (by decide +kernel)
theorem dX5_deltaCodes_57 : decode cX5_deltaCodes 57 = .ok (.if_icmp .ne 12, 3) := dl_o160 kcX5_deltaCodes 12 (by decide +kernel) (by decide +kernel)
theorem dX5_deltaCodes_60 : decode cX5_deltaCodes 60 = .ok (.lload_n 3, 1) := dl_o33 kcX5_deltaCodes (by decide +kernel)
theorem dX5_deltaCodes_61 : decode cX5_deltaCodes 61 = .ok (.ldc2_w 547, 3) := dl_o20 kcX5_deltaCodes (by decide +kernel)
theorem dX5_deltaCodes_64 : decode cX5_deltaCodes 64 = .ok (.ladd, 1) := dl_o97 kcX5_deltaCodes (by decide +kernel)
theorem dX5_deltaCodes_65 : decode cX5_deltaCodes 65 = .ok (.lstore_n 3, 1) := dl_o66 kcX5_deltaCodes (by decide +kernel)
theorem dX5_deltaCodes_66 : decode cX5_deltaCodes 66 = .ok (.goto 21, 3) := dl_o167 kcX5_deltaCodes 21 (by decide +kernel) (by decide +kernel)
theorem dX5_deltaCodes_69 : decode cX5_deltaCodes 69 = .ok (.iload_n 1, 1) := dl_o27 kcX5_deltaCodes (by decide +kernel)
theorem dX5_deltaCodes_70 : decode cX5_deltaCodes 70 = .ok (.bipush 114, 2) := dl_o16 kcX5_deltaCodes 114 (by decide +kernel) (by decide +kernel)
theorem dX5_deltaCodes_72 : decode cX5_deltaCodes 72 = .ok (.if_icmp .eq 9, 3) := dl_o159 kcX5_deltaCodes 9 (by decide +kernel) (by decide +kernel)
theorem dX5_deltaCodes_75 : decode cX5_deltaCodes 75 = .ok (.iload_n 1, 1) := dl_o27 kcX5_deltaCodes (by decide +kernel)
theorem dX5_deltaCodes_76 : decode cX5_deltaCodes 76 = .ok (.bipush 117, 2) := dl_o16 kcX5_deltaCodes 117 (by decide +kernel) (by decide +kernel)
theorem dX5_deltaCodes_78 : decode cX5_deltaCodes 78 = .ok (.if_icmp .ne 9, 3) := dl_o160 kcX5_deltaCodes 9 (by decide +kernel) (by decide +kernel)
theorem dX5_deltaCodes_81 : decode cX5_deltaCodes 81 = .ok (.lload_n 3, 1) := dl_o33 kcX5_deltaCodes (by decide +kernel)
theorem dX5_deltaCodes_82 : decode cX5_deltaCodes 82 = .ok (.ldc2_w 549, 3) := dl_o20 kcX5_deltaCodes (by decide +kernel)
theorem dX5_deltaCodes_85 : decode cX5_deltaCodes 85 = .ok (.ladd, 1) := dl_o97 kcX5_deltaCodes (by decide +kernel)
theorem dX5_deltaCodes_86 : decode cX5_deltaCodes 86 = .ok (.lstore_n 3, 1) := dl_o66 kcX5_deltaCodes (by decide +kernel)
theorem dX5_deltaCodes_87 : decode cX5_deltaCodes 87 = .ok (.iconst 0, 1) := dl_o3 kcX5_deltaCodes (by decide +kernel)
theorem dX5_deltaCodes_88 : decode cX5_deltaCodes 88 = .ok (.istore 5, 2) := dl_o54 kcX5_deltaCodes (by decide +kernel)
theorem dX5_deltaCodes_90 : decode cX5_deltaCodes 90 = .ok (.iload 5, 2) := dl_o21 kcX5_deltaCodes (by decide +kernel)
theorem dX5_deltaCodes_92 : decode cX5_deltaCodes 92 = .ok (.iload_n 2, 1) := dl_o28 kcX5_deltaCodes (by decide +kernel)
theorem dX5_deltaCodes_93 : decode cX5_deltaCodes 93 = .ok (.if_icmp .ge 111, 3) := dl_o162 kcX5_deltaCodes 111 (by decide +kernel) (by decide +kernel)
theorem dX5_deltaCodes_96 : decode cX5_deltaCodes 96 = .ok (.aload_n 0, 1) := dl_o42 kcX5_deltaCodes (by decide +kernel)
theorem dX5_deltaCodes_97 : decode cX5_deltaCodes 97 = .ok (.getfield 56, 3) := dl_o180 kcX5_deltaCodes (by decide +kernel)
theorem dX5_deltaCodes_100 : decode cX5_deltaCodes 100 = .ok (.ifCond .ne 104, 3) := dl_o154 kcX5_deltaCodes 104 (by decide +kernel) (by decide +kernel)
theorem dX5_deltaCodes_103 : decode cX5_deltaCodes 103 = .ok (.aload_n 0, 1) := dl_o42 kcX5_deltaCodes (by decide +kernel)
theorem dX5_deltaCodes_104 : decode cX5_deltaCodes 104 = .ok (.invokevirtual 242, 3) := dl_o182 kcX5_deltaCodes (by decide +kernel)
theorem dX5_deltaCodes_107 : decode cX5_deltaCodes 107 = .ok (.istore 6, 2) := dl_o54 kcX5_deltaCodes (by decide +kernel)
theorem dX5_deltaCodes_109 : decode cX5_deltaCodes 109 = .ok (.aload_n 0, 1) := dl_o42 kcX5_deltaCodes (by decide +kernel)
theorem dX5_deltaCodes_110 : decode cX5_deltaCodes 110 = .ok (.invokevirtual 242, 3) := dl_o182 kcX5_deltaCodes (by decide +kernel)
theorem dX5_deltaCodes_113 : decode cX5_deltaCodes 113 = .ok (.istore 7, 2) := dl_o54 kcX5_deltaCodes (by decide +kernel)
theorem dX5_deltaCodes_115 : decode cX5_deltaCodes 115 = .ok (.aload_n 0, 1) := dl_o42 kcX5_deltaCodes (by decide +kernel)
theorem dX5_deltaCodes_116 : decode cX5_deltaCodes 116 = .ok (.getfield 59, 3) := dl_o180 kcX5_deltaCodes (by decide +kernel)
theorem dX5_deltaCodes_119 : decode cX5_deltaCodes 119 = .ok (.i2l, 1) := dl_o133 kcX5_deltaCodes (by decide +kernel)
theorem dX5_deltaCodes_120 : decode cX5_deltaCodes 120 = .ok (.lload_n 3, 1) := dl_o33 kcX5_deltaCodes (by decide +kernel)
theorem dX5_deltaCodes_121 : decode cX5_deltaCodes 121 = .ok (.iload 7, 2) := dl_o21 kcX5_deltaCodes (by decide +kernel)
theorem dX5_deltaCodes_123 : decode cX5_deltaCodes 123 = .ok (.iconst 4, 1) := dl_o7 kcX5_deltaCodes (by decide +kernel)
theorem dX5_deltaCodes_124 : decode cX5_deltaCodes 124 = .ok (.ishr, 1) := dl_o122 kcX5_deltaCodes (by decide +kernel)
theorem dX5_deltaCodes_125 : decode cX5_deltaCodes 125 = .ok (.bipush 15, 2) := dl_o16 kcX5_deltaCodes 15 (by decide +kernel) (by decide +kernel)
theorem dX5_deltaCodes_127 : decode cX5_deltaCodes 127 = .ok (.iand, 1) := dl_o126 kcX5_deltaCodes (by decide +kernel)
theorem dX5_deltaCodes_128 : decode cX5_deltaCodes 128 = .ok (.i2l, 1) := dl_o133 kcX5_deltaCodes (by decide +kernel)
theorem dX5_deltaCodes_129 : decode cX5_deltaCodes 129 = .ok (.ladd, 1) := dl_o97 kcX5_deltaCodes (by decide +kernel)
theorem dX5_deltaCodes_130 : decode cX5_deltaCodes 130 = .ok (.lcmp, 1) := dl_o148 kcX5_deltaCodes (by decide +kernel)
theorem dX5_deltaCodes_131 : decode cX5_deltaCodes 131 = .ok (.ifCond .ne 67, 3) := dl_o154 kcX5_deltaCodes 67 (by decide +kernel) (by decide +kernel)
theorem dX5_deltaCodes_134 : decode cX5_deltaCodes 134 = .ok (.iload 7, 2) := dl_o21 kcX5_deltaCodes (by decide +kernel)
theorem dX5_deltaCodes_136 : decode cX5_deltaCodes 136 = .ok (.bipush 15, 2) := dl_o16 kcX5_deltaCodes 15 (by decide +kernel) (by decide +kernel)
theorem dX5_deltaCodes_138 : decode cX5_deltaCodes 138 = .ok (.iand, 1) := dl_o126 kcX5_deltaCodes (by decide +kernel)
theorem dX5_deltaCodes_139 : decode cX5_deltaCodes 139 = .ok (.bipush 8, 2) := dl_o16 kcX5_deltaCodes 8 (by decide +kernel) (by decide +kernel)
theorem dX5_deltaCodes_141 : decode cX5_deltaCodes 141 = .ok (.if_icmp .ge 14, 3) := dl_o162 kcX5_deltaCodes 14 (by decide +kernel) (by decide +kernel)
theorem dX5_deltaCodes_144 : decode cX5_deltaCodes 144 = .ok (.iload 7, 2) := dl_o21 kcX5_deltaCodes (by decide +kernel)
theorem dX5_deltaCodes_146 : decode cX5_deltaCodes 146 = .ok (.bipush 15, 2) := dl_o16 kcX5_deltaCodes 15 (by decide +kernel) (by decide +kernel)
theorem dX5_deltaCodes_148 : decode cX5_deltaCodes 148 = .ok (.iand, 1) := dl_o126 kcX5_deltaCodes (by decide +kernel)
theorem dX5_deltaCodes_149 : decode cX5_deltaCodes 149 = .ok (.bipush 8, 2) := dl_o16 kcX5_deltaCodes 8 (by decide +kernel) (by decide +kernel)
theorem dX5_deltaCodes_151 : decode cX5_deltaCodes 151 = .ok (.isub, 1) := dl_o100 kcX5_deltaCodes (by decide +kernel)
theorem dX5_deltaCodes_152 : decode cX5_deltaCodes 152 = .ok (.goto 11, 3) := dl_o167 kcX5_deltaCodes 11 (by decide +kernel) (by decide +kernel)
theorem dX5_deltaCodes_155 : decode cX5_deltaCodes 155 = .ok (.iload 7, 2) := dl_o21 kcX5_deltaCodes (by decide +kernel)
theorem dX5_deltaCodes_157 : decode cX5_deltaCodes 157 = .ok (.bipush 15, 2) := dl_o16 kcX5_deltaCodes 15 (by decide +kernel) (by decide +kernel)
theorem dX5_deltaCodes_159 : decode cX5_deltaCodes 159 = .ok (.iand, 1) := dl_o126 kcX5_deltaCodes (by decide +kernel)
theorem dX5_deltaCodes_160 : decode cX5_deltaCodes 160 = .ok (.bipush 7, 2) := dl_o16 kcX5_deltaCodes 7 (by decide +kernel) (by decide +kernel)
theorem dX5_deltaCodes_162 : decode cX5_deltaCodes 162 = .ok (.isub, 1) := dl_o100 kcX5_deltaCodes (by decide +kernel)
theorem dX5_deltaCodes_163 : decode cX5_deltaCodes 163 = .ok (.istore 8, 2) := dl_o54 kcX5_deltaCodes (by decide +kernel)
theorem dX5_deltaCodes_165 : decode cX5_deltaCodes 165 = .ok (.aload_n 0, 1) := dl_o42 kcX5_deltaCodes (by decide +kernel)
theorem dX5_deltaCodes_166 : decode cX5_deltaCodes 166 = .ok (.iload_n 1, 1) := dl_o27 kcX5_deltaCodes (by decide +kernel)
theorem dX5_deltaCodes_167 : decode cX5_deltaCodes 167 = .ok (.bipush 115, 2) := dl_o16 kcX5_deltaCodes 115 (by decide +kernel) (by decide +kernel)
theorem dX5_deltaCodes_169 : decode cX5_deltaCodes 169 = .ok (.if_icmp .ge 7, 3) := dl_o162 kcX5_deltaCodes 7 (by decide +kernel) (by decide +kernel)
theorem dX5_deltaCodes_172 : decode cX5_deltaCodes 172 = .ok (.iconst 1, 1) := dl_o4 kcX5_deltaCodes (by decide +kernel)
theorem dX5_deltaCodes_173 : decode cX5_deltaCodes 173 = .ok (.goto 4, 3) := dl_o167 kcX5_deltaCodes 4 (by decide +kernel) (by decide +kernel)
theorem dX5_deltaCodes_176 : decode cX5_deltaCodes 176 = .ok (.iconst 0, 1) := dl_o3 kcX5_deltaCodes (by decide +kernel)
theorem dX5_deltaCodes_177 : decode cX5_deltaCodes 177 = .ok (.iload 6, 2) := dl_o21 kcX5_deltaCodes (by decide +kernel)
theorem dX5_deltaCodes_179 : decode cX5_deltaCodes 179 = .ok (.iload 8, 2) := dl_o21 kcX5_deltaCodes (by decide +kernel)
theorem dX5_deltaCodes_181 : decode cX5_deltaCodes 181 = .ok (.bipush 64, 2) := dl_o16 kcX5_deltaCodes 64 (by decide +kernel) (by decide +kernel)
theorem dX5_deltaCodes_183 : decode cX5_deltaCodes 183 = .ok (.aload_n 0, 1) := dl_o42 kcX5_deltaCodes (by decide +kernel)
theorem dX5_deltaCodes_184 : decode cX5_deltaCodes 184 = .ok (.getfield 49, 3) := dl_o180 kcX5_deltaCodes (by decide +kernel)
theorem dX5_deltaCodes_187 : decode cX5_deltaCodes 187 = .ok (.getfield 272, 3) := dl_o180 kcX5_deltaCodes (by decide +kernel)
theorem dX5_deltaCodes_190 : decode cX5_deltaCodes 190 = .ok (.bipush 6, 2) := dl_o16 kcX5_deltaCodes 6 (by decide +kernel) (by decide +kernel)
theorem dX5_deltaCodes_192 : decode cX5_deltaCodes 192 = .ok (.iaload, 1) := dl_o46 kcX5_deltaCodes (by decide +kernel)
theorem dX5_deltaCodes_193 : decode cX5_deltaCodes 193 = .ok (.ishr, 1) := dl_o122 kcX5_deltaCodes (by decide +kernel)
theorem dX5_deltaCodes_194 : decode cX5_deltaCodes 194 = .ok (.imul, 1) := dl_o104 kcX5_deltaCodes (by decide +kernel)
theorem dX5_deltaCodes_195 : decode cX5_deltaCodes 195 = .ok (.invokevirtual 551, 3) := dl_o182 kcX5_deltaCodes (by decide +kernel)
theorem dX5_deltaCodes_198 : decode cX5_deltaCodes 198 = .ok (.iinc 5 1, 3) := by decide +kernel
theorem dX5_deltaCodes_201 : decode cX5_deltaCodes 201 = .ok (.goto (-111), 3) := dl_o167 kcX5_deltaCodes 65425 (by decide +kernel) (by decide +kernel)
theorem dX5_deltaCodes_204 : decode cX5_deltaCodes 204 = .ok (.return_, 1) := dl_o177 kcX5_deltaCodes (by decide +kernel)
def B_X5_deltaCodes_198 (N : Nat) (k90 : Int32 → Int32 → Int64 → Int32 → sv_V → Option sv_V) (l1 : Int32) (l2 : Int32) (l3 : Int64) (l5 : Int32) (V : sv_V) : Option sv_V := sx_let (l5 + 1) (fun x1 => k90 l1 l2 l3 x1 V)
set_option maxRecDepth 20000 in
theorem tB_X5_deltaCodes_198 {g : sx_G} (hG : sx_Go g) {P : Option Value → sv_V → Prop} {Vr : sv_V} (hP : P none Vr) {N : Nat} {k90 : Int32 → Int32 → Int64 → Int32 → sv_V → Option sv_V} (hk90 : ∀ (l1 : Int32) (l2 : Int32) (l3 : Int64) (l5 : Int32) (V : sv_V), k90 l1 l2 l3 l5 V = some Vr → sv_N g qX5_deltaCodes 3 90 [(0, .ref 69), (1, .int l1), (2, .int l2), (3, .long l3), (5, .int l5)] [] V P) {l1 : Int32} {l2 : Int32} {l3 : Int64} {l5 : Int32} {V : sv_V} (h : B_X5_deltaCodes_198 N k90 l1 l2 l3 l5 V = some Vr) : sv_N g qX5_deltaCodes 3 198 [(0, .ref 69), (1, .int l1), (2, .int l2), (3, .long l3), (5, .int l5)] [] V P := by
  unfold B_X5_deltaCodes_198 at h
  obtain ⟨x1, hx1⟩ : ∃ z : Int32, z = l5 + 1 := ⟨_, rfl⟩
  have h := sx_letE hx1 h
  refine sx_iinc (pc := 198) (v := x1) (lo' := [(5, .int x1), (0, .ref 69), (1, .int l1), (2, .int l2), (3, .long l3)]) dX5_deltaCodes_198 sx_m4 (by rw [hx1]; rfl) (by decide) rfl ?_
  refine sx_goto (pc := 201) (tgt := 90) dX5_deltaCodes_201 (by decide) ?_
  refine sx_wk (sx_s1 sx_m1 (sx_s1 sx_m2 (sx_s1 sx_m3 (sx_s1 sx_m4 (sx_s1 sx_m0 sx_s0))))) ?_
  exact hk90 _ _ _ _ _ h
def B_X5_deltaCodes_177 (N : Nat) (k90 : Int32 → Int32 → Int64 → Int32 → sv_V → Option sv_V) (l1 : Int32) (l2 : Int32) (l3 : Int64) (l5 : Int32) (l6 : Int32) (l8 : Int32) (s1 : Int32) (V : sv_V) : Option sv_V := (V.2.2 69 6).bind (fun b2 => if lay b2 = .inl 7 then (cr b2 5).bind (fun b5 => (sv_len 0 b5).bind (fun n7 => if sx_in (6 : Int32) n7 = true then (F_X5_applyDelta s1 l6 (l8 * ((64 : Int32) >>> (V.1 b5 (6 : Int32).toNatClampNeg &&& 31))) V).bind (fun V10 => B_X5_deltaCodes_198 N k90 l1 l2 l3 l5 V10) else none)) else none)
set_option maxRecDepth 20000 in
theorem tB_X5_deltaCodes_177 {g : sx_G} (hG : sx_Go g) {P : Option Value → sv_V → Prop} {Vr : sv_V} (hP : P none Vr) {N : Nat} {k90 : Int32 → Int32 → Int64 → Int32 → sv_V → Option sv_V} (hk90 : ∀ (l1 : Int32) (l2 : Int32) (l3 : Int64) (l5 : Int32) (V : sv_V), k90 l1 l2 l3 l5 V = some Vr → sv_N g qX5_deltaCodes 3 90 [(0, .ref 69), (1, .int l1), (2, .int l2), (3, .long l3), (5, .int l5)] [] V P) {l1 : Int32} {l2 : Int32} {l3 : Int64} {l5 : Int32} {l6 : Int32} {l8 : Int32} {s1 : Int32} {V : sv_V} (h : B_X5_deltaCodes_177 N k90 l1 l2 l3 l5 l6 l8 s1 V = some Vr) : sv_N g qX5_deltaCodes 3 177 [(0, .ref 69), (1, .int l1), (2, .int l2), (3, .long l3), (5, .int l5), (6, .int l6), (8, .int l8)] [.int s1, .ref 69] V P := by
  unfold B_X5_deltaCodes_177 at h
  refine sx_iload (pc := 177) dX5_deltaCodes_177 sx_m5 ?_
  refine sx_iload (pc := 179) dX5_deltaCodes_179 sx_m6 ?_
  refine sx_bipush (pc := 181) (v := 64) dX5_deltaCodes_181 (by decide) ?_
  refine sx_aload_n (pc := 183) dX5_deltaCodes_183 sx_m0 ?_
  obtain ⟨b2, g3, h⟩ := sx_bnd h
  refine sv_getV (pc := 184) hG dX5_deltaCodes_184 f_5_49 lay_69 rfl rfl g3 ?_
  obtain ⟨g4, h⟩ := sx_grd h
  obtain ⟨b5, g6, h⟩ := sx_bnd h
  refine sv_getA (pc := 187) hG dX5_deltaCodes_187 f_5_272 g4 rfl g6 ?_
  refine sx_bipush (pc := 190) (v := 6) dX5_deltaCodes_190 (by decide) ?_
  obtain ⟨n7, g8, h⟩ := sx_bnd h
  obtain ⟨g9, h⟩ := sx_grd h
  refine sv_iald (pc := 192) hG dX5_deltaCodes_192 (sv_len_e g8) g9 ?_
  refine sx_ishr (pc := 193) dX5_deltaCodes_193 ?_
  refine sx_imul (pc := 194) dX5_deltaCodes_194 ?_
  obtain ⟨V10, g11, h⟩ := sx_bnd h
  refine sv_cV (pc := 195) (y := qX5_applyDelta) (o := none) (as := [.int s1, .int l6, .int (l8 * ((64 : Int32) >>> (V.1 b5 (6 : Int32).toNatClampNeg &&& 31)))]) (V1 := V10) hG dX5_deltaCodes_195 l_X5_551 y0X5_applyDelta yvX5_applyDelta rfl (Nat.le_of_ble_eq_true rfl) lay_69 kr_5 (by decide) (Nat.le_of_ble_eq_true rfl) rfl rfl rfl (t_X5_applyDelta hG ⟨rfl, rfl⟩ g11) ?_
  refine sx_wk (sx_s1 sx_m0 (sx_s1 sx_m1 (sx_s1 sx_m2 (sx_s1 sx_m3 (sx_s1 sx_m4 sx_s0))))) ?_
  exact tB_X5_deltaCodes_198 hG hP hk90 h
def B_X5_deltaCodes_163 (N : Nat) (k90 : Int32 → Int32 → Int64 → Int32 → sv_V → Option sv_V) (l1 : Int32) (l2 : Int32) (l3 : Int64) (l5 : Int32) (l6 : Int32) (s0 : Int32) (V : sv_V) : Option sv_V := if (115 : Int32) ≤ l1 then (B_X5_deltaCodes_177 N k90 l1 l2 l3 l5 l6 s0 (0 : Int32) V) else (B_X5_deltaCodes_177 N k90 l1 l2 l3 l5 l6 s0 (1 : Int32) V)
set_option maxRecDepth 20000 in
theorem tB_X5_deltaCodes_163 {g : sx_G} (hG : sx_Go g) {P : Option Value → sv_V → Prop} {Vr : sv_V} (hP : P none Vr) {N : Nat} {k90 : Int32 → Int32 → Int64 → Int32 → sv_V → Option sv_V} (hk90 : ∀ (l1 : Int32) (l2 : Int32) (l3 : Int64) (l5 : Int32) (V : sv_V), k90 l1 l2 l3 l5 V = some Vr → sv_N g qX5_deltaCodes 3 90 [(0, .ref 69), (1, .int l1), (2, .int l2), (3, .long l3), (5, .int l5)] [] V P) {l1 : Int32} {l2 : Int32} {l3 : Int64} {l5 : Int32} {l6 : Int32} {s0 : Int32} {V : sv_V} (h : B_X5_deltaCodes_163 N k90 l1 l2 l3 l5 l6 s0 V = some Vr) : sv_N g qX5_deltaCodes 3 163 [(0, .ref 69), (1, .int l1), (2, .int l2), (3, .long l3), (5, .int l5), (6, .int l6)] [.int s0] V P := by
  unfold B_X5_deltaCodes_163 at h
  refine sx_istore (pc := 163) (lo' := [(8, .int s0), (0, .ref 69), (1, .int l1), (2, .int l2), (3, .long l3), (5, .int l5), (6, .int l6)]) dX5_deltaCodes_163 (by decide) rfl ?_
  refine sx_aload_n (pc := 165) dX5_deltaCodes_165 sx_m1 ?_
  refine sx_iload_n (pc := 166) dX5_deltaCodes_166 sx_m2 ?_
  refine sx_bipush (pc := 167) (v := 115) dX5_deltaCodes_167 (by decide) ?_
  refine sx_icmp_ge (pc := 169) (tgt := 176) dX5_deltaCodes_169 (by decide) (fun c12 => ?_) (fun c12 => ?_)
  · have h := sx_pos c12 h
    refine sx_iconst (pc := 176) (v := 0) dX5_deltaCodes_176 (by decide) ?_
    refine sx_wk (sx_s1 sx_m1 (sx_s1 sx_m2 (sx_s1 sx_m3 (sx_s1 sx_m4 (sx_s1 sx_m5 (sx_s1 sx_m6 (sx_s1 sx_m0 sx_s0))))))) ?_
    exact tB_X5_deltaCodes_177 hG hP hk90 h
  · have h := sx_neg c12 h
    refine sx_iconst (pc := 172) (v := 1) dX5_deltaCodes_172 (by decide) ?_
    refine sx_goto (pc := 173) (tgt := 177) dX5_deltaCodes_173 (by decide) ?_
    refine sx_wk (sx_s1 sx_m1 (sx_s1 sx_m2 (sx_s1 sx_m3 (sx_s1 sx_m4 (sx_s1 sx_m5 (sx_s1 sx_m6 (sx_s1 sx_m0 sx_s0))))))) ?_
    exact tB_X5_deltaCodes_177 hG hP hk90 h
def B_X5_deltaCodes_90 (N : Nat) (k90 : Int32 → Int32 → Int64 → Int32 → sv_V → Option sv_V) (l1 : Int32) (l2 : Int32) (l3 : Int64) (l5 : Int32) (V : sv_V) : Option sv_V := if l2 ≤ l5 then (some V) else (if (V.1 69 14) = 0 then ((F_X5_pop  V).bind (fun (x17, V15) => (F_X5_pop  V15).bind (fun (x20, V18) => if (lg_cmp ((V18.1 69 12).toInt64) (l3 + (((x20 >>> ((4 : Int32) &&& 31)) &&& (15 : Int32)).toInt64))) = 0 then (if (8 : Int32) ≤ (x20 &&& (15 : Int32)) then (B_X5_deltaCodes_163 N k90 l1 l2 l3 l5 x17 ((x20 &&& (15 : Int32)) - (7 : Int32)) V18) else (B_X5_deltaCodes_163 N k90 l1 l2 l3 l5 x17 ((x20 &&& (15 : Int32)) - (8 : Int32)) V18)) else (B_X5_deltaCodes_198 N k90 l1 l2 l3 l5 V18)))) else (some V))
set_option maxRecDepth 20000 in
theorem tB_X5_deltaCodes_90 {g : sx_G} (hG : sx_Go g) {P : Option Value → sv_V → Prop} {Vr : sv_V} (hP : P none Vr) {N : Nat} {k90 : Int32 → Int32 → Int64 → Int32 → sv_V → Option sv_V} (hk90 : ∀ (l1 : Int32) (l2 : Int32) (l3 : Int64) (l5 : Int32) (V : sv_V), k90 l1 l2 l3 l5 V = some Vr → sv_N g qX5_deltaCodes 3 90 [(0, .ref 69), (1, .int l1), (2, .int l2), (3, .long l3), (5, .int l5)] [] V P) {l1 : Int32} {l2 : Int32} {l3 : Int64} {l5 : Int32} {V : sv_V} (h : B_X5_deltaCodes_90 N k90 l1 l2 l3 l5 V = some Vr) : sv_N g qX5_deltaCodes 3 90 [(0, .ref 69), (1, .int l1), (2, .int l2), (3, .long l3), (5, .int l5)] [] V P := by
  unfold B_X5_deltaCodes_90 at h
  refine sx_iload (pc := 90) dX5_deltaCodes_90 sx_m4 ?_
  refine sx_iload_n (pc := 92) dX5_deltaCodes_92 sx_m2 ?_
  refine sx_icmp_ge (pc := 93) (tgt := 204) dX5_deltaCodes_93 (by decide) (fun c13 => ?_) (fun c13 => ?_)
  · have h := sx_pos c13 h
    exact sv_vret (pc := 204) dX5_deltaCodes_204 rfl h hP
  · have h := sx_neg c13 h
    refine sx_aload_n (pc := 96) dX5_deltaCodes_96 sx_m0 ?_
    refine sv_getI (pc := 97) hG dX5_deltaCodes_97 f_5_56 lay_69 rfl ?_
    refine sx_if_ne (pc := 100) (tgt := 204) dX5_deltaCodes_100 (by decide) (fun c14 => ?_) (fun c14 => ?_)
    · have h := sx_neg c14 h
      exact sv_vret (pc := 204) dX5_deltaCodes_204 rfl h hP
    · have h := sx_pos c14 h
      refine sx_aload_n (pc := 103) dX5_deltaCodes_103 sx_m0 ?_
      obtain ⟨⟨x17, V15⟩, g16, h⟩ := sx_bnd h
      refine sv_cV (pc := 104) (y := qX5_pop) (o := (some (.int x17))) (as := []) (V1 := V15) hG dX5_deltaCodes_104 l_X5_242 y0X5_pop yvX5_pop rfl (Nat.le_of_ble_eq_true rfl) lay_69 kr_5 (by decide) (Nat.le_of_ble_eq_true rfl) rfl rfl rfl (t_X5_pop hG ⟨rfl, rfl⟩ g16) ?_
      refine sx_istore (pc := 107) (lo' := [(6, .int x17), (0, .ref 69), (1, .int l1), (2, .int l2), (3, .long l3), (5, .int l5)]) dX5_deltaCodes_107 (by decide) rfl ?_
      refine sx_aload_n (pc := 109) dX5_deltaCodes_109 sx_m1 ?_
      obtain ⟨⟨x20, V18⟩, g19, h⟩ := sx_bnd h
      refine sv_cV (pc := 110) (y := qX5_pop) (o := (some (.int x20))) (as := []) (V1 := V18) hG dX5_deltaCodes_110 l_X5_242 y0X5_pop yvX5_pop rfl (Nat.le_of_ble_eq_true rfl) lay_69 kr_5 (by decide) (Nat.le_of_ble_eq_true rfl) rfl rfl rfl (t_X5_pop hG ⟨rfl, rfl⟩ g19) ?_
      refine sx_istore (pc := 113) (lo' := [(7, .int x20), (6, .int x17), (0, .ref 69), (1, .int l1), (2, .int l2), (3, .long l3), (5, .int l5)]) dX5_deltaCodes_113 (by decide) rfl ?_
      refine sx_aload_n (pc := 115) dX5_deltaCodes_115 sx_m2 ?_
      refine sv_getI (pc := 116) hG dX5_deltaCodes_116 f_5_59 lay_69 rfl ?_
      refine sx_i2l (pc := 119) dX5_deltaCodes_119 ?_
      refine sx_lload_n (pc := 120) dX5_deltaCodes_120 sx_m5 ?_
      refine sx_iload (pc := 121) dX5_deltaCodes_121 sx_m0 ?_
      refine sx_iconst (pc := 123) (v := 4) dX5_deltaCodes_123 (by decide) ?_
      refine sx_ishr (pc := 124) dX5_deltaCodes_124 ?_
      refine sx_bipush (pc := 125) (v := 15) dX5_deltaCodes_125 (by decide) ?_
      refine sx_iand (pc := 127) dX5_deltaCodes_127 ?_
      refine sx_i2l (pc := 128) dX5_deltaCodes_128 ?_
      refine sx_ladd (pc := 129) dX5_deltaCodes_129 ?_
      refine sx_lcmp (pc := 130) dX5_deltaCodes_130 ?_
      refine sx_if_ne (pc := 131) (tgt := 198) dX5_deltaCodes_131 (by decide) (fun c21 => ?_) (fun c21 => ?_)
      · have h := sx_neg c21 h
        refine sx_wk (sx_s1 sx_m2 (sx_s1 sx_m3 (sx_s1 sx_m4 (sx_s1 sx_m5 (sx_s1 sx_m6 sx_s0))))) ?_
        exact tB_X5_deltaCodes_198 hG hP hk90 h
      · have h := sx_pos c21 h
        refine sx_iload (pc := 134) dX5_deltaCodes_134 sx_m0 ?_
        refine sx_bipush (pc := 136) (v := 15) dX5_deltaCodes_136 (by decide) ?_
        refine sx_iand (pc := 138) dX5_deltaCodes_138 ?_
        refine sx_bipush (pc := 139) (v := 8) dX5_deltaCodes_139 (by decide) ?_
        refine sx_icmp_ge (pc := 141) (tgt := 155) dX5_deltaCodes_141 (by decide) (fun c22 => ?_) (fun c22 => ?_)
        · have h := sx_pos c22 h
          refine sx_iload (pc := 155) dX5_deltaCodes_155 sx_m0 ?_
          refine sx_bipush (pc := 157) (v := 15) dX5_deltaCodes_157 (by decide) ?_
          refine sx_iand (pc := 159) dX5_deltaCodes_159 ?_
          refine sx_bipush (pc := 160) (v := 7) dX5_deltaCodes_160 (by decide) ?_
          refine sx_isub (pc := 162) dX5_deltaCodes_162 ?_
          refine sx_wk (sx_s1 sx_m2 (sx_s1 sx_m3 (sx_s1 sx_m4 (sx_s1 sx_m5 (sx_s1 sx_m6 (sx_s1 sx_m1 sx_s0)))))) ?_
          exact tB_X5_deltaCodes_163 hG hP hk90 h
        · have h := sx_neg c22 h
          refine sx_iload (pc := 144) dX5_deltaCodes_144 sx_m0 ?_
          refine sx_bipush (pc := 146) (v := 15) dX5_deltaCodes_146 (by decide) ?_
          refine sx_iand (pc := 148) dX5_deltaCodes_148 ?_
          refine sx_bipush (pc := 149) (v := 8) dX5_deltaCodes_149 (by decide) ?_
          refine sx_isub (pc := 151) dX5_deltaCodes_151 ?_
          refine sx_goto (pc := 152) (tgt := 163) dX5_deltaCodes_152 (by decide) ?_
          refine sx_wk (sx_s1 sx_m2 (sx_s1 sx_m3 (sx_s1 sx_m4 (sx_s1 sx_m5 (sx_s1 sx_m6 (sx_s1 sx_m1 sx_s0)))))) ?_
          exact tB_X5_deltaCodes_163 hG hP hk90 h
theorem tL_X5_deltaCodes_90 {g : sx_G} (hG : sx_Go g) {P : Option Value → sv_V → Prop} {Vr : sv_V} (hP : P none Vr) {N : Nat}   : ∀ (n : Nat) (l1 : Int32) (l2 : Int32) (l3 : Int64) (l5 : Int32) (V : sv_V), sx_lp5 (B_X5_deltaCodes_90 N ) n l1 l2 l3 l5 V = some Vr → sv_N g qX5_deltaCodes 3 90 [(0, .ref 69), (1, .int l1), (2, .int l2), (3, .long l3), (5, .int l5)] [] V P :=
  sx_lp5_ind (fun k0 ih _ _ _ _ V h => tB_X5_deltaCodes_90 hG hP ih h)
def B_X5_deltaCodes_87 (N : Nat)  (l1 : Int32) (l2 : Int32) (l3 : Int64) (V : sv_V) : Option sv_V := sx_lp5 (B_X5_deltaCodes_90 N ) N l1 l2 l3 (0 : Int32) V
set_option maxRecDepth 20000 in
theorem tB_X5_deltaCodes_87 {g : sx_G} (hG : sx_Go g) {P : Option Value → sv_V → Prop} {Vr : sv_V} (hP : P none Vr) {N : Nat}   {l1 : Int32} {l2 : Int32} {l3 : Int64} {V : sv_V} (h : B_X5_deltaCodes_87 N  l1 l2 l3 V = some Vr) : sv_N g qX5_deltaCodes 3 87 [(0, .ref 69), (1, .int l1), (2, .int l2), (3, .long l3)] [] V P := by
  unfold B_X5_deltaCodes_87 at h
  refine sx_iconst (pc := 87) (v := 0) dX5_deltaCodes_87 (by decide) ?_
  refine sx_istore (pc := 88) (lo' := [(5, .int (0 : Int32)), (0, .ref 69), (1, .int l1), (2, .int l2), (3, .long l3)]) dX5_deltaCodes_88 (by decide) rfl ?_
  refine sx_wk (sx_s1 sx_m1 (sx_s1 sx_m2 (sx_s1 sx_m3 (sx_s1 sx_m4 (sx_s1 sx_m0 sx_s0))))) ?_
  exact tL_X5_deltaCodes_90 hG hP  N _ _ _ _ _ h
def B_X5_deltaCodes_60 (N : Nat)  (l1 : Int32) (l2 : Int32) (l3 : Int64) (V : sv_V) : Option sv_V := sx_let (l3 + (16 : Int64)) (fun x23 => B_X5_deltaCodes_87 N  l1 l2 x23 V)
set_option maxRecDepth 20000 in
theorem tB_X5_deltaCodes_60 {g : sx_G} (hG : sx_Go g) {P : Option Value → sv_V → Prop} {Vr : sv_V} (hP : P none Vr) {N : Nat}   {l1 : Int32} {l2 : Int32} {l3 : Int64} {V : sv_V} (h : B_X5_deltaCodes_60 N  l1 l2 l3 V = some Vr) : sv_N g qX5_deltaCodes 3 60 [(0, .ref 69), (1, .int l1), (2, .int l2), (3, .long l3)] [] V P := by
  unfold B_X5_deltaCodes_60 at h
  refine sx_lload_n (pc := 60) dX5_deltaCodes_60 sx_m3 ?_
  refine sx_ldc2 (pc := 61) dX5_deltaCodes_61 k_X5_547 ?_
  refine sx_ladd (pc := 64) dX5_deltaCodes_64 ?_
  refine sv_tJ (fun x23 hx23 => ?_)
  have h := sx_letE hx23 h
  refine sx_lstore_n (pc := 65) (lo' := [(3, .long x23), (0, .ref 69), (1, .int l1), (2, .int l2)]) dX5_deltaCodes_65 (by decide) rfl ?_
  refine sx_goto (pc := 66) (tgt := 87) dX5_deltaCodes_66 (by decide) ?_
  refine sx_wk (sx_s1 sx_m1 (sx_s1 sx_m2 (sx_s1 sx_m3 (sx_s1 sx_m0 sx_s0)))) ?_
  exact tB_X5_deltaCodes_87 hG hP  h
def B_X5_deltaCodes_81 (N : Nat)  (l1 : Int32) (l2 : Int32) (l3 : Int64) (V : sv_V) : Option sv_V := sx_let (l3 + (32 : Int64)) (fun x24 => B_X5_deltaCodes_87 N  l1 l2 x24 V)
set_option maxRecDepth 20000 in
theorem tB_X5_deltaCodes_81 {g : sx_G} (hG : sx_Go g) {P : Option Value → sv_V → Prop} {Vr : sv_V} (hP : P none Vr) {N : Nat}   {l1 : Int32} {l2 : Int32} {l3 : Int64} {V : sv_V} (h : B_X5_deltaCodes_81 N  l1 l2 l3 V = some Vr) : sv_N g qX5_deltaCodes 3 81 [(0, .ref 69), (1, .int l1), (2, .int l2), (3, .long l3)] [] V P := by
  unfold B_X5_deltaCodes_81 at h
  refine sx_lload_n (pc := 81) dX5_deltaCodes_81 sx_m3 ?_
  refine sx_ldc2 (pc := 82) dX5_deltaCodes_82 k_X5_549 ?_
  refine sx_ladd (pc := 85) dX5_deltaCodes_85 ?_
  refine sv_tJ (fun x24 hx24 => ?_)
  have h := sx_letE hx24 h
  refine sx_lstore_n (pc := 86) (lo' := [(3, .long x24), (0, .ref 69), (1, .int l1), (2, .int l2)]) dX5_deltaCodes_86 (by decide) rfl ?_
  refine sx_wk (sx_s1 sx_m1 (sx_s1 sx_m2 (sx_s1 sx_m3 (sx_s1 sx_m0 sx_s0)))) ?_
  exact tB_X5_deltaCodes_87 hG hP  h
def F_X5_deltaCodes (N : Nat) (l1 : Int32) (V : sv_V) : Option sv_V := (F_X5_pop  V).bind (fun (x27, V25) => if 0 ≤ x27 then (if (lg_cmp ((2 : Int64) * x27.toInt64) ((V25.1 69 5).toInt64)) ≤ 0 then ((V25.2.2 69 6).bind (fun b30 => if lay b30 = .inl 7 then (cr b30 5).bind (fun b33 => (sv_len 0 b33).bind (fun n35 => if sx_in (5 : Int32) n35 = true then sx_let ((V25.1 b33 (5 : Int32).toNatClampNeg).toInt64) (fun x38 => if l1 = (113 : Int32) then (B_X5_deltaCodes_60 N  l1 x27 x38 V25) else (if l1 = (116 : Int32) then (B_X5_deltaCodes_60 N  l1 x27 x38 V25) else (if l1 = (114 : Int32) then (B_X5_deltaCodes_81 N  l1 x27 x38 V25) else (if l1 = (117 : Int32) then (B_X5_deltaCodes_81 N  l1 x27 x38 V25) else (B_X5_deltaCodes_87 N  l1 x27 x38 V25))))) else none)) else none)) else (sx_let (sv_I V25 69 14 (1 : Int32)) (fun V43 => some V43))) else (sx_let (sv_I V25 69 14 (11 : Int32)) (fun V44 => some V44)))
set_option maxRecDepth 20000 in
theorem t_X5_deltaCodes {g : sx_G} (hG : sx_Go g) {P : Option Value → sv_V → Prop} {Vr : sv_V} (hP : P none Vr) {N : Nat} {l1 : Int32} {V : sv_V} (h : F_X5_deltaCodes N l1 V = some Vr) : sv_N g qX5_deltaCodes 3 0 [(0, .ref 69), (1, .int l1)] [] V P := by
  unfold F_X5_deltaCodes at h
  refine sx_aload_n (pc := 0) dX5_deltaCodes_0 sx_m0 ?_
  obtain ⟨⟨x27, V25⟩, g26, h⟩ := sx_bnd h
  refine sv_cV (pc := 1) (y := qX5_pop) (o := (some (.int x27))) (as := []) (V1 := V25) hG dX5_deltaCodes_1 l_X5_242 y0X5_pop yvX5_pop rfl (Nat.le_of_ble_eq_true rfl) lay_69 kr_5 (by decide) (Nat.le_of_ble_eq_true rfl) rfl rfl rfl (t_X5_pop hG ⟨rfl, rfl⟩ g26) ?_
  refine sx_istore_n (pc := 4) (lo' := [(2, .int x27), (0, .ref 69), (1, .int l1)]) dX5_deltaCodes_4 (by decide) rfl ?_
  refine sx_iload_n (pc := 5) dX5_deltaCodes_5 sx_m0 ?_
  refine sx_if_ge (pc := 6) (tgt := 16) dX5_deltaCodes_6 (by decide) (fun c28 => ?_) (fun c28 => ?_)
  · have h := sx_pos c28 h
    refine sx_ldc2 (pc := 16) dX5_deltaCodes_16 k_X5_459 ?_
    refine sx_iload_n (pc := 19) dX5_deltaCodes_19 sx_m0 ?_
    refine sx_i2l (pc := 20) dX5_deltaCodes_20 ?_
    refine sx_lmul (pc := 21) dX5_deltaCodes_21 ?_
    refine sx_aload_n (pc := 22) dX5_deltaCodes_22 sx_m1 ?_
    refine sv_getI (pc := 23) hG dX5_deltaCodes_23 f_5_96 lay_69 rfl ?_
    refine sx_i2l (pc := 26) dX5_deltaCodes_26 ?_
    refine sx_lcmp (pc := 27) dX5_deltaCodes_27 ?_
    refine sx_if_le (pc := 28) (tgt := 37) dX5_deltaCodes_28 (by decide) (fun c29 => ?_) (fun c29 => ?_)
    · have h := sx_pos c29 h
      refine sx_aload_n (pc := 37) dX5_deltaCodes_37 sx_m1 ?_
      obtain ⟨b30, g31, h⟩ := sx_bnd h
      refine sv_getV (pc := 38) hG dX5_deltaCodes_38 f_5_49 lay_69 rfl rfl g31 ?_
      obtain ⟨g32, h⟩ := sx_grd h
      obtain ⟨b33, g34, h⟩ := sx_bnd h
      refine sv_getA (pc := 41) hG dX5_deltaCodes_41 f_5_272 g32 rfl g34 ?_
      refine sx_iconst (pc := 44) (v := 5) dX5_deltaCodes_44 (by decide) ?_
      obtain ⟨n35, g36, h⟩ := sx_bnd h
      obtain ⟨g37, h⟩ := sx_grd h
      refine sv_iald (pc := 45) hG dX5_deltaCodes_45 (sv_len_e g36) g37 ?_
      refine sx_i2l (pc := 46) dX5_deltaCodes_46 ?_
      refine sv_tJ (fun x38 hx38 => ?_)
      have h := sx_letE hx38 h
      refine sx_lstore_n (pc := 47) (lo' := [(3, .long x38), (2, .int x27), (0, .ref 69), (1, .int l1)]) dX5_deltaCodes_47 (by decide) rfl ?_
      refine sx_iload_n (pc := 48) dX5_deltaCodes_48 sx_m3 ?_
      refine sx_bipush (pc := 49) (v := 113) dX5_deltaCodes_49 (by decide) ?_
      refine sx_icmp_eq (pc := 51) (tgt := 60) dX5_deltaCodes_51 (by decide) (fun c39 => ?_) (fun c39 => ?_)
      · have h := sx_pos c39 h
        refine sx_wk (sx_s1 sx_m2 (sx_s1 sx_m3 (sx_s1 sx_m1 (sx_s1 sx_m0 sx_s0)))) ?_
        exact tB_X5_deltaCodes_60 hG hP  h
      · have h := sx_neg c39 h
        refine sx_iload_n (pc := 54) dX5_deltaCodes_54 sx_m3 ?_
        refine sx_bipush (pc := 55) (v := 116) dX5_deltaCodes_55 (by decide) ?_
        refine sx_icmp_ne (pc := 57) (tgt := 69) dX5_deltaCodes_57 (by decide) (fun c40 => ?_) (fun c40 => ?_)
        · have h := sx_neg c40 h
          refine sx_iload_n (pc := 69) dX5_deltaCodes_69 sx_m3 ?_
          refine sx_bipush (pc := 70) (v := 114) dX5_deltaCodes_70 (by decide) ?_
          refine sx_icmp_eq (pc := 72) (tgt := 81) dX5_deltaCodes_72 (by decide) (fun c41 => ?_) (fun c41 => ?_)
          · have h := sx_pos c41 h
            refine sx_wk (sx_s1 sx_m2 (sx_s1 sx_m3 (sx_s1 sx_m1 (sx_s1 sx_m0 sx_s0)))) ?_
            exact tB_X5_deltaCodes_81 hG hP  h
          · have h := sx_neg c41 h
            refine sx_iload_n (pc := 75) dX5_deltaCodes_75 sx_m3 ?_
            refine sx_bipush (pc := 76) (v := 117) dX5_deltaCodes_76 (by decide) ?_
            refine sx_icmp_ne (pc := 78) (tgt := 87) dX5_deltaCodes_78 (by decide) (fun c42 => ?_) (fun c42 => ?_)
            · have h := sx_neg c42 h
              refine sx_wk (sx_s1 sx_m2 (sx_s1 sx_m3 (sx_s1 sx_m1 (sx_s1 sx_m0 sx_s0)))) ?_
              exact tB_X5_deltaCodes_87 hG hP  h
            · have h := sx_pos c42 h
              refine sx_wk (sx_s1 sx_m2 (sx_s1 sx_m3 (sx_s1 sx_m1 (sx_s1 sx_m0 sx_s0)))) ?_
              exact tB_X5_deltaCodes_81 hG hP  h
        · have h := sx_pos c40 h
          refine sx_wk (sx_s1 sx_m2 (sx_s1 sx_m3 (sx_s1 sx_m1 (sx_s1 sx_m0 sx_s0)))) ?_
          exact tB_X5_deltaCodes_60 hG hP  h
    · have h := sx_neg c29 h
      refine sx_aload_n (pc := 31) dX5_deltaCodes_31 sx_m1 ?_
      refine sx_iconst (pc := 32) (v := 1) dX5_deltaCodes_32 (by decide) ?_
      obtain ⟨V43, hV43⟩ : ∃ z : sv_V, z = sv_I V25 69 14 (1 : Int32) := ⟨_, rfl⟩
      have h := sx_letE hV43 h
      refine sv_putI (pc := 33) hG dX5_deltaCodes_33 f_5_56 lay_69 rfl hV43 ?_
      exact sv_vret (pc := 36) dX5_deltaCodes_36 rfl h hP
  · have h := sx_neg c28 h
    refine sx_aload_n (pc := 9) dX5_deltaCodes_9 sx_m1 ?_
    refine sx_bipush (pc := 10) (v := 11) dX5_deltaCodes_10 (by decide) ?_
    obtain ⟨V44, hV44⟩ : ∃ z : sv_V, z = sv_I V25 69 14 (11 : Int32) := ⟨_, rfl⟩
    have h := sx_letE hV44 h
    refine sv_putI (pc := 12) hG dX5_deltaCodes_12 f_5_56 lay_69 rfl hV44 ?_
    exact sv_vret (pc := 15) dX5_deltaCodes_15 rfl h hP
def ncX6_offset : Nat := 78038322120923672624663023104160497690238801109445909776196628112754794869802
theorem kcX6_offset : CK cX6_offset ncX6_offset 32 := ⟨by decide +kernel, by decide +kernel⟩
theorem dX6_offset_0 : decode cX6_offset 0 = .ok (.aload_n 0, 1) := dl_o42 kcX6_offset (by decide +kernel)
theorem dX6_offset_1 : decode cX6_offset 1 = .ok (.getfield 47, 3) := dl_o180 kcX6_offset (by decide +kernel)
theorem dX6_offset_4 : decode cX6_offset 4 = .ok (.iload_n 1, 1) := dl_o27 kcX6_offset (by decide +kernel)
theorem dX6_offset_5 : decode cX6_offset 5 = .ok (.i2l, 1) := dl_o133 kcX6_offset (by decide +kernel)
theorem dX6_offset_6 : decode cX6_offset 6 = .ok (.invokevirtual 174, 3) := dl_o182 kcX6_offset (by decide +kernel)
theorem dX6_offset_9 : decode cX6_offset 9 = .ok (.lstore_n 2, 1) := dl_o65 kcX6_offset (by decide +kernel)
theorem dX6_offset_10 : decode cX6_offset 10 = .ok (.aload_n 0, 1) := dl_o42 kcX6_offset (by decide +kernel)
theorem dX6_offset_11 : decode cX6_offset 11 = .ok (.getfield 38, 3) := dl_o180 kcX6_offset (by decide +kernel)
theorem dX6_offset_14 : decode cX6_offset 14 = .ok (.getfield 209, 3) := dl_o180 kcX6_offset (by decide +kernel)
theorem dX6_offset_17 : decode cX6_offset 17 = .ok (.iconst 4, 1) := dl_o7 kcX6_offset (by decide +kernel)
theorem dX6_offset_18 : decode cX6_offset 18 = .ok (.iand, 1) := dl_o126 kcX6_offset (by decide +kernel)
theorem dX6_offset_19 : decode cX6_offset 19 = .ok (.ifCond .eq 10, 3) := dl_o153 kcX6_offset 10 (by decide +kernel) (by decide +kernel)
theorem dX6_offset_22 : decode cX6_offset 22 = .ok (.lload_n 2, 1) := dl_o32 kcX6_offset (by decide +kernel)
theorem dX6_offset_23 : decode cX6_offset 23 = .ok (.invokestatic 255, 3) := dl_o184 kcX6_offset (by decide +kernel)
theorem dX6_offset_26 : decode cX6_offset 26 = .ok (.goto 4, 3) := dl_o167 kcX6_offset 4 (by decide +kernel) (by decide +kernel)
theorem dX6_offset_29 : decode cX6_offset 29 = .ok (.lload_n 2, 1) := dl_o32 kcX6_offset (by decide +kernel)
theorem dX6_offset_30 : decode cX6_offset 30 = .ok (.l2i, 1) := dl_o136 kcX6_offset (by decide +kernel)
theorem dX6_offset_31 : decode cX6_offset 31 = .ok (.ireturn, 1) := dl_o172 kcX6_offset (by decide +kernel)
def F_X6_offset (l1 : Int32) (V : sv_V) : Option (Int32 × sv_V) := (F_X5_scaled l1.toInt64 V).bind (fun (x3, V1) => if ((V1.1 16 7) &&& (4 : Int32)) = 0 then (some (x3.toInt32, V1)) else ((F_X11_toWholePixel x3 V1).bind (fun (x7, V5) => some (x7.toInt32, V5))))
set_option maxRecDepth 20000 in
theorem t_X6_offset {g : sx_G} (hG : sx_Go g) {P : Option Value → sv_V → Prop} {r : Int32} {Vr : sv_V} (hP : P (some (.int r)) Vr) {l1 : Int32} {V : sv_V} (h : F_X6_offset l1 V = some (r, Vr)) : sv_N g qX6_offset 2 0 [(0, .ref 30), (1, .int l1)] [] V P := by
  unfold F_X6_offset at h
  refine sx_aload_n (pc := 0) dX6_offset_0 sx_m0 ?_
  refine sv_getO (pc := 1) hG dX6_offset_1 f_6_47 lay_30 rfl cr_30_2 ?_
  refine sx_iload_n (pc := 4) dX6_offset_4 sx_m1 ?_
  refine sx_i2l (pc := 5) dX6_offset_5 ?_
  obtain ⟨⟨x3, V1⟩, g2, h⟩ := sx_bnd h
  refine sv_cV (pc := 6) (y := qX5_scaled) (o := (some (.long x3))) (as := [.long l1.toInt64]) (V1 := V1) hG dX6_offset_6 l_X6_174 y0X5_scaled yvX5_scaled rfl (Nat.le_of_ble_eq_true rfl) lay_69 kr_5 (by decide) (Nat.le_of_ble_eq_true rfl) rfl rfl rfl (t_X5_scaled hG ⟨rfl, rfl⟩ g2) ?_
  refine sx_lstore_n (pc := 9) (lo' := [(2, .long x3), (0, .ref 30), (1, .int l1)]) dX6_offset_9 (by decide) rfl ?_
  refine sx_aload_n (pc := 10) dX6_offset_10 sx_m1 ?_
  refine sv_getO (pc := 11) hG dX6_offset_11 f_6_38 lay_30 rfl cr_30_1 ?_
  refine sv_getI (pc := 14) hG dX6_offset_14 f_6_209 lay_16 rfl ?_
  refine sx_iconst (pc := 17) (v := 4) dX6_offset_17 (by decide) ?_
  refine sx_iand (pc := 18) dX6_offset_18 ?_
  refine sx_if_eq (pc := 19) (tgt := 29) dX6_offset_19 (by decide) (fun c4 => ?_) (fun c4 => ?_)
  · have h := sx_pos c4 h
    refine sx_lload_n (pc := 29) dX6_offset_29 sx_m0 ?_
    refine sx_l2i (pc := 30) dX6_offset_30 ?_
    exact sv_iret (pc := 31) dX6_offset_31 rfl h hP
  · have h := sx_neg c4 h
    refine sx_lload_n (pc := 22) dX6_offset_22 sx_m0 ?_
    obtain ⟨⟨x7, V5⟩, g6, h⟩ := sx_bnd h
    refine sv_cN (pc := 23) (y := qX11_toWholePixel) (o := (some (.long x7))) (as := [.long x3]) (V1 := V5) dX6_offset_23 n_X6_255 y0X11_toWholePixel ysX11_toWholePixel rfl (Nat.le_of_ble_eq_true rfl) (by decide) (Nat.le_of_ble_eq_true rfl) rfl rfl rfl (t_X11_toWholePixel hG ⟨rfl, rfl⟩ g6) ?_
    refine sx_goto (pc := 26) (tgt := 30) dX6_offset_26 (by decide) ?_
    refine sx_l2i (pc := 30) dX6_offset_30 ?_
    exact sv_iret (pc := 31) dX6_offset_31 rfl h hP
def ncX7_renew : Nat := 1899918817106532128586524427384260404752801145377925767927860235322988782753115594325359206592267215139389661724730244716025250804839192919590786988194702240072165071461527139370718211969039869386363624084409941190267724372307039837713260194742875670298680822198694452429088247016421760199727640279788330
theorem kcX7_renew : CK cX7_renew ncX7_renew 126 := ⟨by decide +kernel, by decide +kernel⟩
theorem dX7_renew_0 : decode cX7_renew 0 = .ok (.aload_n 0, 1) := dl_o42 kcX7_renew (by decide +kernel)
theorem dX7_renew_1 : decode cX7_renew 1 = .ok (.aload_n 1, 1) := dl_o43 kcX7_renew (by decide +kernel)
theorem dX7_renew_2 : decode cX7_renew 2 = .ok (.getfield 33, 3) := dl_o180 kcX7_renew (by decide +kernel)
theorem dX7_renew_5 : decode cX7_renew 5 = .ok (.bipush 8, 2) := dl_o16 kcX7_renew 8 (by decide +kernel) (by decide +kernel)
theorem dX7_renew_7 : decode cX7_renew 7 = .ok (.iaload, 1) := dl_o46 kcX7_renew (by decide +kernel)
theorem dX7_renew_8 : decode cX7_renew 8 = .ok (.iconst 2, 1) := dl_o5 kcX7_renew (by decide +kernel)
theorem dX7_renew_9 : decode cX7_renew 9 = .ok (.idiv, 1) := dl_o108 kcX7_renew (by decide +kernel)
theorem dX7_renew_10 : decode cX7_renew 10 = .ok (.sipush 256, 3) := dl_o17 kcX7_renew 256 (by decide +kernel) (by decide +kernel)
theorem dX7_renew_13 : decode cX7_renew 13 = .ok (.invokestatic 38, 3) := dl_o184 kcX7_renew (by decide +kernel)
theorem dX7_renew_16 : decode cX7_renew 16 = .ok (.putfield 44, 3) := dl_o181 kcX7_renew (by decide +kernel)
theorem dX7_renew_19 : decode cX7_renew 19 = .ok (.iconst 0, 1) := dl_o3 kcX7_renew (by decide +kernel)
theorem dX7_renew_20 : decode cX7_renew 20 = .ok (.istore_n 3, 1) := dl_o62 kcX7_renew (by decide +kernel)
theorem dX7_renew_21 : decode cX7_renew 21 = .ok (.iload_n 3, 1) := dl_o29 kcX7_renew (by decide +kernel)
theorem dX7_renew_22 : decode cX7_renew 22 = .ok (.aload_n 0, 1) := dl_o42 kcX7_renew (by decide +kernel)
theorem dX7_renew_23 : decode cX7_renew 23 = .ok (.getfield 44, 3) := dl_o180 kcX7_renew (by decide +kernel)
theorem dX7_renew_26 : decode cX7_renew 26 = .ok (.if_icmp .ge 51, 3) := dl_o162 kcX7_renew 51 (by decide +kernel) (by decide +kernel)
theorem dX7_renew_29 : decode cX7_renew 29 = .ok (.aload_n 1, 1) := dl_o43 kcX7_renew (by decide +kernel)
theorem dX7_renew_30 : decode cX7_renew 30 = .ok (.aload_n 1, 1) := dl_o43 kcX7_renew (by decide +kernel)
theorem dX7_renew_31 : decode cX7_renew 31 = .ok (.getfield 48, 3) := dl_o180 kcX7_renew (by decide +kernel)
theorem dX7_renew_34 : decode cX7_renew 34 = .ok (.bipush 8, 2) := dl_o16 kcX7_renew 8 (by decide +kernel) (by decide +kernel)
theorem dX7_renew_36 : decode cX7_renew 36 = .ok (.iaload, 1) := dl_o46 kcX7_renew (by decide +kernel)
theorem dX7_renew_37 : decode cX7_renew 37 = .ok (.iconst 2, 1) := dl_o5 kcX7_renew (by decide +kernel)
theorem dX7_renew_38 : decode cX7_renew 38 = .ok (.iload_n 3, 1) := dl_o29 kcX7_renew (by decide +kernel)
theorem dX7_renew_39 : decode cX7_renew 39 = .ok (.imul, 1) := dl_o104 kcX7_renew (by decide +kernel)
theorem dX7_renew_40 : decode cX7_renew 40 = .ok (.iadd, 1) := dl_o96 kcX7_renew (by decide +kernel)
theorem dX7_renew_41 : decode cX7_renew 41 = .ok (.invokevirtual 51, 3) := dl_o182 kcX7_renew (by decide +kernel)
theorem dX7_renew_44 : decode cX7_renew 44 = .ok (.i2l, 1) := dl_o133 kcX7_renew (by decide +kernel)
theorem dX7_renew_45 : decode cX7_renew 45 = .ok (.lstore 4, 2) := dl_o55 kcX7_renew (by decide +kernel)
theorem dX7_renew_47 : decode cX7_renew 47 = .ok (.aload_n 0, 1) := dl_o42 kcX7_renew (by decide +kernel)
theorem dX7_renew_48 : decode cX7_renew 48 = .ok (.getfield 9, 3) := dl_o180 kcX7_renew (by decide +kernel)
theorem dX7_renew_51 : decode cX7_renew 51 = .ok (.iload_n 3, 1) := dl_o29 kcX7_renew (by decide +kernel)
theorem dX7_renew_52 : decode cX7_renew 52 = .ok (.lload 4, 2) := dl_o22 kcX7_renew (by decide +kernel)
theorem dX7_renew_54 : decode cX7_renew 54 = .ok (.iload_n 2, 1) := dl_o28 kcX7_renew (by decide +kernel)
theorem dX7_renew_55 : decode cX7_renew 55 = .ok (.i2l, 1) := dl_o133 kcX7_renew (by decide +kernel)
theorem dX7_renew_56 : decode cX7_renew 56 = .ok (.lmul, 1) := dl_o105 kcX7_renew (by decide +kernel)
theorem dX7_renew_57 : decode cX7_renew 57 = .ok (.ldc2_w 55, 3) := dl_o20 kcX7_renew (by decide +kernel)
theorem dX7_renew_60 : decode cX7_renew 60 = .ok (.lmul, 1) := dl_o105 kcX7_renew (by decide +kernel)
theorem dX7_renew_61 : decode cX7_renew 61 = .ok (.aload_n 1, 1) := dl_o43 kcX7_renew (by decide +kernel)
theorem dX7_renew_62 : decode cX7_renew 62 = .ok (.getfield 57, 3) := dl_o180 kcX7_renew (by decide +kernel)
theorem dX7_renew_65 : decode cX7_renew 65 = .ok (.i2l, 1) := dl_o133 kcX7_renew (by decide +kernel)
theorem dX7_renew_66 : decode cX7_renew 66 = .ok (.invokestatic 60, 3) := dl_o184 kcX7_renew (by decide +kernel)
theorem dX7_renew_69 : decode cX7_renew 69 = .ok (.l2i, 1) := dl_o136 kcX7_renew (by decide +kernel)
theorem dX7_renew_70 : decode cX7_renew 70 = .ok (.iastore, 1) := dl_o79 kcX7_renew (by decide +kernel)
theorem dX7_renew_71 : decode cX7_renew 71 = .ok (.iinc 3 1, 3) := by decide +kernel
theorem dX7_renew_74 : decode cX7_renew 74 = .ok (.goto (-53), 3) := dl_o167 kcX7_renew 65483 (by decide +kernel) (by decide +kernel)
theorem dX7_renew_77 : decode cX7_renew 77 = .ok (.aload_n 0, 1) := dl_o42 kcX7_renew (by decide +kernel)
theorem dX7_renew_78 : decode cX7_renew 78 = .ok (.aload_n 1, 1) := dl_o43 kcX7_renew (by decide +kernel)
theorem dX7_renew_79 : decode cX7_renew 79 = .ok (.getfield 64, 3) := dl_o180 kcX7_renew (by decide +kernel)
theorem dX7_renew_82 : decode cX7_renew 82 = .ok (.iconst 2, 1) := dl_o5 kcX7_renew (by decide +kernel)
theorem dX7_renew_83 : decode cX7_renew 83 = .ok (.iaload, 1) := dl_o46 kcX7_renew (by decide +kernel)
theorem dX7_renew_84 : decode cX7_renew 84 = .ok (.putfield 67, 3) := dl_o181 kcX7_renew (by decide +kernel)
theorem dX7_renew_87 : decode cX7_renew 87 = .ok (.aload_n 0, 1) := dl_o42 kcX7_renew (by decide +kernel)
theorem dX7_renew_88 : decode cX7_renew 88 = .ok (.getfield 15, 3) := dl_o180 kcX7_renew (by decide +kernel)
theorem dX7_renew_91 : decode cX7_renew 91 = .ok (.iconst 0, 1) := dl_o3 kcX7_renew (by decide +kernel)
theorem dX7_renew_92 : decode cX7_renew 92 = .ok (.invokestatic 70, 3) := dl_o184 kcX7_renew (by decide +kernel)
theorem dX7_renew_95 : decode cX7_renew 95 = .ok (.aload_n 0, 1) := dl_o42 kcX7_renew (by decide +kernel)
theorem dX7_renew_96 : decode cX7_renew 96 = .ok (.getfield 23, 3) := dl_o180 kcX7_renew (by decide +kernel)
theorem dX7_renew_99 : decode cX7_renew 99 = .ok (.aload_n 1, 1) := dl_o43 kcX7_renew (by decide +kernel)
theorem dX7_renew_100 : decode cX7_renew 100 = .ok (.getfield 64, 3) := dl_o180 kcX7_renew (by decide +kernel)
theorem dX7_renew_103 : decode cX7_renew 103 = .ok (.iconst 1, 1) := dl_o4 kcX7_renew (by decide +kernel)
theorem dX7_renew_104 : decode cX7_renew 104 = .ok (.iaload, 1) := dl_o46 kcX7_renew (by decide +kernel)
theorem dX7_renew_105 : decode cX7_renew 105 = .ok (.invokevirtual 76, 3) := dl_o182 kcX7_renew (by decide +kernel)
theorem dX7_renew_108 : decode cX7_renew 108 = .ok (.getstatic 27, 3) := dl_o178 kcX7_renew (by decide +kernel)
theorem dX7_renew_111 : decode cX7_renew 111 = .ok (.iconst 0, 1) := dl_o3 kcX7_renew (by decide +kernel)
theorem dX7_renew_112 : decode cX7_renew 112 = .ok (.aload_n 0, 1) := dl_o42 kcX7_renew (by decide +kernel)
theorem dX7_renew_113 : decode cX7_renew 113 = .ok (.getfield 30, 3) := dl_o180 kcX7_renew (by decide +kernel)
theorem dX7_renew_116 : decode cX7_renew 116 = .ok (.iconst 0, 1) := dl_o3 kcX7_renew (by decide +kernel)
theorem dX7_renew_117 : decode cX7_renew 117 = .ok (.aload_n 0, 1) := dl_o42 kcX7_renew (by decide +kernel)
theorem dX7_renew_118 : decode cX7_renew 118 = .ok (.getfield 30, 3) := dl_o180 kcX7_renew (by decide +kernel)
theorem dX7_renew_121 : decode cX7_renew 121 = .ok (.arraylength, 1) := dl_o190 kcX7_renew (by decide +kernel)
theorem dX7_renew_122 : decode cX7_renew 122 = .ok (.invokestatic 80, 3) := dl_o184 kcX7_renew (by decide +kernel)
theorem dX7_renew_125 : decode cX7_renew 125 = .ok (.return_, 1) := dl_o177 kcX7_renew (by decide +kernel)
def B_X7_renew_21 (N : Nat) (k21 : Nat → Int32 → Int32 → sv_V → Option sv_V) (l0 : Nat) (l2 : Int32) (l3 : Int32) (V : sv_V) : Option sv_V := if lay l0 = .inl 7 then if (V.1 l0 1) ≤ l3 then (sx_let (sv_I V l0 3 (V.1 6 (2 : Int32).toNatClampNeg)) (fun V3 => (cr l0 2).bind (fun b4 => (F_J7_fill_53178 N b4 (0 : Int32) V3).bind (fun V6 => (cr l0 4).bind (fun b8 => (F_X8_clearTo N b8 (V6.1 6 (1 : Int32).toNatClampNeg) V6).bind (fun V10 => if lay b8 = .inl 8 then (cr l0 5).bind (fun b13 => (sv_len 0 b13).bind (fun n15 => if sv_cpo (0 : Int32) (Int32.ofNat n15) 9 = true then if sv_cpo (0 : Int32) (Int32.ofNat n15) n15 = true then sx_let (sv_C V10 1003 (0 : Int32).toNatClampNeg b13 (0 : Int32).toNatClampNeg (Int32.ofNat n15).toNatClampNeg) (fun V19 => some V19) else none else none)) else none)))))) else ((F_X2_s2 ((V.1 4 (8 : Int32).toNatClampNeg) + ((2 : Int32) * l3)) V).bind (fun (x22, V20) => sx_let (x22.toInt64) (fun x23 => (cr l0 0).bind (fun b24 => (F_X11_nearest ((x23 * l2.toInt64) * (64 : Int64)) ((V20.1 2 6).toInt64) V20).bind (fun (x28, V26) => (sv_len 0 b24).bind (fun n29 => if sx_in l3 n29 = true then sx_let (sv_I V26 b24 l3.toNatClampNeg x28.toInt32) (fun V32 => sx_let (l3 + 1) (fun x33 => k21 l0 l2 x33 V32)) else none)))))) else none
set_option maxRecDepth 20000 in
theorem tB_X7_renew_21 {g : sx_G} (hG : sx_Go g) {P : Option Value → sv_V → Prop} {Vr : sv_V} (hP : P none Vr) {N : Nat} {k21 : Nat → Int32 → Int32 → sv_V → Option sv_V} (hk21 : ∀ (l0 : Nat) (l2 : Int32) (l3 : Int32) (V : sv_V), k21 l0 l2 l3 V = some Vr → sv_N g qX7_renew 2 21 [(0, .ref l0), (1, .ref 2), (2, .int l2), (3, .int l3)] [] V P) {l0 : Nat} {l2 : Int32} {l3 : Int32} {V : sv_V} (h : B_X7_renew_21 N k21 l0 l2 l3 V = some Vr) : sv_N g qX7_renew 2 21 [(0, .ref l0), (1, .ref 2), (2, .int l2), (3, .int l3)] [] V P := by
  unfold B_X7_renew_21 at h
  refine sx_iload_n (pc := 21) dX7_renew_21 sx_m3 ?_
  refine sx_aload_n (pc := 22) dX7_renew_22 sx_m0 ?_
  obtain ⟨g1, h⟩ := sx_grd h
  refine sv_getI (pc := 23) hG dX7_renew_23 f_7_44 g1 rfl ?_
  refine sx_icmp_ge (pc := 26) (tgt := 77) dX7_renew_26 (by decide) (fun c2 => ?_) (fun c2 => ?_)
  · have h := sx_pos c2 h
    refine sx_aload_n (pc := 77) dX7_renew_77 sx_m0 ?_
    refine sx_aload_n (pc := 78) dX7_renew_78 sx_m1 ?_
    refine sv_getA (pc := 79) hG dX7_renew_79 f_7_64 lay_2 rfl cr_2_10 ?_
    refine sx_iconst (pc := 82) (v := 2) dX7_renew_82 (by decide) ?_
    refine sv_iald (pc := 83) hG dX7_renew_83 lay_6 (by decide) ?_
    obtain ⟨V3, hV3⟩ : ∃ z : sv_V, z = sv_I V l0 3 (V.1 6 (2 : Int32).toNatClampNeg) := ⟨_, rfl⟩
    have h := sx_letE hV3 h
    refine sv_putI (pc := 84) hG dX7_renew_84 f_7_67 g1 rfl hV3 ?_
    refine sx_aload_n (pc := 87) dX7_renew_87 sx_m0 ?_
    obtain ⟨b4, g5, h⟩ := sx_bnd h
    refine sv_getA (pc := 88) hG dX7_renew_88 f_7_15 g1 rfl g5 ?_
    refine sx_iconst (pc := 91) (v := 0) dX7_renew_91 (by decide) ?_
    obtain ⟨V6, g7, h⟩ := sx_bnd h
    refine sv_cS (pc := 92) (y := qJ7_fill_53178) (o := none) (as := [.ref b4, .int (0 : Int32)]) (V1 := V6) dX7_renew_92 l_X7_70 y0J7_fill_53178 ysJ7_fill_53178 rfl (Nat.le_of_ble_eq_true rfl) (by decide) (Nat.le_of_ble_eq_true rfl) rfl rfl rfl (t_J7_fill_53178 hG ⟨rfl, rfl⟩ g7) ?_
    refine sx_aload_n (pc := 95) dX7_renew_95 sx_m0 ?_
    obtain ⟨b8, g9, h⟩ := sx_bnd h
    refine sv_getO (pc := 96) hG dX7_renew_96 f_7_23 g1 rfl g9 ?_
    refine sx_aload_n (pc := 99) dX7_renew_99 sx_m1 ?_
    refine sv_getA (pc := 100) hG dX7_renew_100 f_7_64 lay_2 rfl cr_2_10 ?_
    refine sx_iconst (pc := 103) (v := 1) dX7_renew_103 (by decide) ?_
    refine sv_iald (pc := 104) hG dX7_renew_104 lay_6 (by decide) ?_
    obtain ⟨V10, g11, h⟩ := sx_bnd h
    obtain ⟨g12, h⟩ := sx_grd h
    refine sv_cV (pc := 105) (y := qX8_clearTo) (o := none) (as := [.int (V6.1 6 (1 : Int32).toNatClampNeg)]) (V1 := V10) hG dX7_renew_105 l_X7_76 y0X8_clearTo yvX8_clearTo rfl (Nat.le_of_ble_eq_true rfl) g12 kr_8 (by decide) (Nat.le_of_ble_eq_true rfl) rfl rfl rfl (t_X8_clearTo hG ⟨rfl, rfl⟩ g11) ?_
    refine sv_getS (pc := 108) (j := 2) dX7_renew_108 rfl n_X7_27 ?_
    refine sx_iconst (pc := 111) (v := 0) dX7_renew_111 (by decide) ?_
    refine sx_aload_n (pc := 112) dX7_renew_112 sx_m0 ?_
    obtain ⟨b13, g14, h⟩ := sx_bnd h
    refine sv_getA (pc := 113) hG dX7_renew_113 f_7_30 g1 rfl g14 ?_
    refine sx_iconst (pc := 116) (v := 0) dX7_renew_116 (by decide) ?_
    refine sx_aload_n (pc := 117) dX7_renew_117 sx_m0 ?_
    refine sv_getA (pc := 118) hG dX7_renew_118 f_7_30 g1 rfl g14 ?_
    obtain ⟨n15, g16, h⟩ := sx_bnd h
    refine sv_alen (pc := 121) hG dX7_renew_121 (by decide) (sv_len_e g16) ?_
    obtain ⟨g17, h⟩ := sx_grd h
    obtain ⟨g18, h⟩ := sx_grd h
    obtain ⟨V19, hV19⟩ : ∃ z : sv_V, z = sv_C V10 1003 (0 : Int32).toNatClampNeg b13 (0 : Int32).toNatClampNeg (Int32.ofNat n15).toNatClampNeg := ⟨_, rfl⟩
    have h := sx_letE hV19 h
    refine sv_copyX (pc := 122) hG dX7_renew_122 l_X7_80 lay_1003 (sv_len_e g16) g17 g18 (by decide) (Nat.le_of_ble_eq_true rfl) hV19 ?_
    exact sv_vret (pc := 125) dX7_renew_125 rfl h hP
  · have h := sx_neg c2 h
    refine sx_aload_n (pc := 29) dX7_renew_29 sx_m1 ?_
    refine sx_aload_n (pc := 30) dX7_renew_30 sx_m1 ?_
    refine sv_getA (pc := 31) hG dX7_renew_31 f_7_48 lay_2 rfl cr_2_3 ?_
    refine sx_bipush (pc := 34) (v := 8) dX7_renew_34 (by decide) ?_
    refine sv_iald (pc := 36) hG dX7_renew_36 lay_4 (by decide) ?_
    refine sx_iconst (pc := 37) (v := 2) dX7_renew_37 (by decide) ?_
    refine sx_iload_n (pc := 38) dX7_renew_38 sx_m3 ?_
    refine sx_imul (pc := 39) dX7_renew_39 ?_
    refine sx_iadd (pc := 40) dX7_renew_40 ?_
    obtain ⟨⟨x22, V20⟩, g21, h⟩ := sx_bnd h
    refine sv_cV (pc := 41) (y := qX2_s2) (o := (some (.int x22))) (as := [.int ((V.1 4 (8 : Int32).toNatClampNeg) + ((2 : Int32) * l3))]) (V1 := V20) hG dX7_renew_41 l_X7_51 y0X2_s2 yvX2_s2 rfl (Nat.le_of_ble_eq_true rfl) lay_2 kr_2 (by decide) (Nat.le_of_ble_eq_true rfl) rfl rfl rfl (t_X2_s2 hG ⟨rfl, rfl⟩ g21) ?_
    refine sx_i2l (pc := 44) dX7_renew_44 ?_
    refine sv_tJ (fun x23 hx23 => ?_)
    have h := sx_letE hx23 h
    refine sx_lstore (pc := 45) (lo' := [(4, .long x23), (0, .ref l0), (1, .ref 2), (2, .int l2), (3, .int l3)]) dX7_renew_45 (by decide) rfl ?_
    refine sx_aload_n (pc := 47) dX7_renew_47 sx_m1 ?_
    obtain ⟨b24, g25, h⟩ := sx_bnd h
    refine sv_getA (pc := 48) hG dX7_renew_48 f_7_9 g1 rfl g25 ?_
    refine sx_iload_n (pc := 51) dX7_renew_51 sx_m4 ?_
    refine sx_lload (pc := 52) dX7_renew_52 sx_m0 ?_
    refine sx_iload_n (pc := 54) dX7_renew_54 sx_m3 ?_
    refine sx_i2l (pc := 55) dX7_renew_55 ?_
    refine sx_lmul (pc := 56) dX7_renew_56 ?_
    refine sx_ldc2 (pc := 57) dX7_renew_57 k_X7_55 ?_
    refine sx_lmul (pc := 60) dX7_renew_60 ?_
    refine sx_aload_n (pc := 61) dX7_renew_61 sx_m2 ?_
    refine sv_getI (pc := 62) hG dX7_renew_62 f_7_57 lay_2 rfl ?_
    refine sx_i2l (pc := 65) dX7_renew_65 ?_
    obtain ⟨⟨x28, V26⟩, g27, h⟩ := sx_bnd h
    refine sv_cN (pc := 66) (y := qX11_nearest) (o := (some (.long x28))) (as := [.long ((x23 * l2.toInt64) * (64 : Int64)), .long ((V20.1 2 6).toInt64)]) (V1 := V26) dX7_renew_66 n_X7_60 y0X11_nearest ysX11_nearest rfl (Nat.le_of_ble_eq_true rfl) (by decide) (Nat.le_of_ble_eq_true rfl) rfl rfl rfl (t_X11_nearest hG ⟨rfl, rfl⟩ g27) ?_
    refine sx_l2i (pc := 69) dX7_renew_69 ?_
    obtain ⟨n29, g30, h⟩ := sx_bnd h
    obtain ⟨g31, h⟩ := sx_grd h
    obtain ⟨V32, hV32⟩ : ∃ z : sv_V, z = sv_I V26 b24 l3.toNatClampNeg x28.toInt32 := ⟨_, rfl⟩
    have h := sx_letE hV32 h
    refine sv_iast (pc := 70) hG dX7_renew_70 (sv_len_e g30) g31 hV32 ?_
    obtain ⟨x33, hx33⟩ : ∃ z : Int32, z = l3 + 1 := ⟨_, rfl⟩
    have h := sx_letE hx33 h
    refine sx_iinc (pc := 71) (v := x33) (lo' := [(3, .int x33), (4, .long x23), (0, .ref l0), (1, .ref 2), (2, .int l2)]) dX7_renew_71 sx_m4 (by rw [hx33]; rfl) (by decide) rfl ?_
    refine sx_goto (pc := 74) (tgt := 21) dX7_renew_74 (by decide) ?_
    refine sx_wk (sx_s1 sx_m2 (sx_s1 sx_m3 (sx_s1 sx_m4 (sx_s1 sx_m0 sx_s0)))) ?_
    exact hk21 _ _ _ _ h
theorem tL_X7_renew_21 {g : sx_G} (hG : sx_Go g) {P : Option Value → sv_V → Prop} {Vr : sv_V} (hP : P none Vr) {N : Nat}   : ∀ (n : Nat) (l0 : Nat) (l2 : Int32) (l3 : Int32) (V : sv_V), sx_lp4 (B_X7_renew_21 N ) n l0 l2 l3 V = some Vr → sv_N g qX7_renew 2 21 [(0, .ref l0), (1, .ref 2), (2, .int l2), (3, .int l3)] [] V P :=
  sx_lp4_ind (fun k0 ih _ _ _ V h => tB_X7_renew_21 hG hP ih h)
def F_X7_renew (N : Nat) (l0 : Nat) (l2 : Int32) (V : sv_V) : Option sv_V := (F_J9_min_7cf53 ((V.1 5 (8 : Int32).toNatClampNeg) / (2 : Int32)) (256 : Int32) V).bind (fun (x36, V34) => if lay l0 = .inl 7 then sx_let (sv_I V34 l0 1 x36) (fun V38 => sx_lp4 (B_X7_renew_21 N ) N l0 l2 (0 : Int32) V38) else none)
set_option maxRecDepth 20000 in
theorem t_X7_renew {g : sx_G} (hG : sx_Go g) {P : Option Value → sv_V → Prop} {Vr : sv_V} (hP : P none Vr) {N : Nat} {l0 : Nat} {l2 : Int32} {V : sv_V} (h : F_X7_renew N l0 l2 V = some Vr) : sv_N g qX7_renew 2 0 [(0, .ref l0), (1, .ref 2), (2, .int l2)] [] V P := by
  unfold F_X7_renew at h
  refine sx_aload_n (pc := 0) dX7_renew_0 sx_m0 ?_
  refine sx_aload_n (pc := 1) dX7_renew_1 sx_m1 ?_
  refine sv_getA (pc := 2) hG dX7_renew_2 f_7_33 lay_2 rfl cr_2_4 ?_
  refine sx_bipush (pc := 5) (v := 8) dX7_renew_5 (by decide) ?_
  refine sv_iald (pc := 7) hG dX7_renew_7 lay_5 (by decide) ?_
  refine sx_iconst (pc := 8) (v := 2) dX7_renew_8 (by decide) ?_
  refine sx_idiv (pc := 9) dX7_renew_9 (by decide) ?_
  refine sx_sipush (pc := 10) (v := 256) dX7_renew_10 (by decide) ?_
  obtain ⟨⟨x36, V34⟩, g35, h⟩ := sx_bnd h
  refine sv_cS (pc := 13) (y := qJ9_min_7cf53) (o := (some (.int x36))) (as := [.int ((V.1 5 (8 : Int32).toNatClampNeg) / (2 : Int32)), .int (256 : Int32)]) (V1 := V34) dX7_renew_13 l_X7_38 y0J9_min_7cf53 ysJ9_min_7cf53 rfl (Nat.le_of_ble_eq_true rfl) (by decide) (Nat.le_of_ble_eq_true rfl) rfl rfl rfl (t_J9_min_7cf53 hG ⟨rfl, rfl⟩ g35) ?_
  obtain ⟨g37, h⟩ := sx_grd h
  obtain ⟨V38, hV38⟩ : ∃ z : sv_V, z = sv_I V34 l0 1 x36 := ⟨_, rfl⟩
  have h := sx_letE hV38 h
  refine sv_putI (pc := 16) hG dX7_renew_16 f_7_44 g37 rfl hV38 ?_
  refine sx_iconst (pc := 19) (v := 0) dX7_renew_19 (by decide) ?_
  refine sx_istore_n (pc := 20) (lo' := [(3, .int (0 : Int32)), (0, .ref l0), (1, .ref 2), (2, .int l2)]) dX7_renew_20 (by decide) rfl ?_
  refine sx_wk (sx_s1 sx_m1 (sx_s1 sx_m2 (sx_s1 sx_m3 (sx_s1 sx_m0 sx_s0)))) ?_
  exact tL_X7_renew_21 hG hP  N _ _ _ _ h
def ncX8_beginProgram : Nat := 8187413369295230939219167360756690093812108233287581564230157317828627659855758763509813305821300148988972701790859288150111422944273363744051273743055149249828444864315283198720259313997150770809271740707809148985896849800372697586175747022959456960090634618994001820908975442887593174263311424732340556438125571
theorem kcX8_beginProgram : CK cX8_beginProgram ncX8_beginProgram 130 := ⟨by decide +kernel, by decide +kernel⟩
theorem dX8_beginProgram_0 : decode cX8_beginProgram 0 = .ok (.iconst 0, 1) := dl_o3 kcX8_beginProgram (by decide +kernel)
theorem dX8_beginProgram_1 : decode cX8_beginProgram 1 = .ok (.istore_n 1, 1) := dl_o60 kcX8_beginProgram (by decide +kernel)
theorem dX8_beginProgram_2 : decode cX8_beginProgram 2 = .ok (.iload_n 1, 1) := dl_o27 kcX8_beginProgram (by decide +kernel)
theorem dX8_beginProgram_3 : decode cX8_beginProgram 3 = .ok (.aload_n 0, 1) := dl_o42 kcX8_beginProgram (by decide +kernel)
theorem dX8_beginProgram_4 : decode cX8_beginProgram 4 = .ok (.getfield 39, 3) := dl_o180 kcX8_beginProgram (by decide +kernel)
theorem dX8_beginProgram_7 : decode cX8_beginProgram 7 = .ok (.if_icmp .ge 43, 3) := dl_o162 kcX8_beginProgram 43 (by decide +kernel) (by decide +kernel)
theorem dX8_beginProgram_10 : decode cX8_beginProgram 10 = .ok (.aload_n 0, 1) := dl_o42 kcX8_beginProgram (by decide +kernel)
theorem dX8_beginProgram_11 : decode cX8_beginProgram 11 = .ok (.getfield 21, 3) := dl_o180 kcX8_beginProgram (by decide +kernel)
theorem dX8_beginProgram_14 : decode cX8_beginProgram 14 = .ok (.aload_n 0, 1) := dl_o42 kcX8_beginProgram (by decide +kernel)
theorem dX8_beginProgram_15 : decode cX8_beginProgram 15 = .ok (.getfield 43, 3) := dl_o180 kcX8_beginProgram (by decide +kernel)
theorem dX8_beginProgram_18 : decode cX8_beginProgram 18 = .ok (.iload_n 1, 1) := dl_o27 kcX8_beginProgram (by decide +kernel)
theorem dX8_beginProgram_19 : decode cX8_beginProgram 19 = .ok (.iadd, 1) := dl_o96 kcX8_beginProgram (by decide +kernel)
theorem dX8_beginProgram_20 : decode cX8_beginProgram 20 = .ok (.aload_n 0, 1) := dl_o42 kcX8_beginProgram (by decide +kernel)
theorem dX8_beginProgram_21 : decode cX8_beginProgram 21 = .ok (.getfield 15, 3) := dl_o180 kcX8_beginProgram (by decide +kernel)
theorem dX8_beginProgram_24 : decode cX8_beginProgram 24 = .ok (.iload_n 1, 1) := dl_o27 kcX8_beginProgram (by decide +kernel)
theorem dX8_beginProgram_25 : decode cX8_beginProgram 25 = .ok (.iaload, 1) := dl_o46 kcX8_beginProgram (by decide +kernel)
theorem dX8_beginProgram_26 : decode cX8_beginProgram 26 = .ok (.iastore, 1) := dl_o79 kcX8_beginProgram (by decide +kernel)
theorem dX8_beginProgram_27 : decode cX8_beginProgram 27 = .ok (.aload_n 0, 1) := dl_o42 kcX8_beginProgram (by decide +kernel)
theorem dX8_beginProgram_28 : decode cX8_beginProgram 28 = .ok (.getfield 24, 3) := dl_o180 kcX8_beginProgram (by decide +kernel)
theorem dX8_beginProgram_31 : decode cX8_beginProgram 31 = .ok (.aload_n 0, 1) := dl_o42 kcX8_beginProgram (by decide +kernel)
theorem dX8_beginProgram_32 : decode cX8_beginProgram 32 = .ok (.getfield 43, 3) := dl_o180 kcX8_beginProgram (by decide +kernel)
theorem dX8_beginProgram_35 : decode cX8_beginProgram 35 = .ok (.iload_n 1, 1) := dl_o27 kcX8_beginProgram (by decide +kernel)
theorem dX8_beginProgram_36 : decode cX8_beginProgram 36 = .ok (.iadd, 1) := dl_o96 kcX8_beginProgram (by decide +kernel)
theorem dX8_beginProgram_37 : decode cX8_beginProgram 37 = .ok (.aload_n 0, 1) := dl_o42 kcX8_beginProgram (by decide +kernel)
theorem dX8_beginProgram_38 : decode cX8_beginProgram 38 = .ok (.getfield 18, 3) := dl_o180 kcX8_beginProgram (by decide +kernel)
theorem dX8_beginProgram_41 : decode cX8_beginProgram 41 = .ok (.iload_n 1, 1) := dl_o27 kcX8_beginProgram (by decide +kernel)
theorem dX8_beginProgram_42 : decode cX8_beginProgram 42 = .ok (.iaload, 1) := dl_o46 kcX8_beginProgram (by decide +kernel)
theorem dX8_beginProgram_43 : decode cX8_beginProgram 43 = .ok (.iastore, 1) := dl_o79 kcX8_beginProgram (by decide +kernel)
theorem dX8_beginProgram_44 : decode cX8_beginProgram 44 = .ok (.iinc 1 1, 3) := by decide +kernel
theorem dX8_beginProgram_47 : decode cX8_beginProgram 47 = .ok (.goto (-45), 3) := dl_o167 kcX8_beginProgram 65491 (by decide +kernel) (by decide +kernel)
theorem dX8_beginProgram_50 : decode cX8_beginProgram 50 = .ok (.aload_n 0, 1) := dl_o42 kcX8_beginProgram (by decide +kernel)
theorem dX8_beginProgram_51 : decode cX8_beginProgram 51 = .ok (.getfield 43, 3) := dl_o180 kcX8_beginProgram (by decide +kernel)
theorem dX8_beginProgram_54 : decode cX8_beginProgram 54 = .ok (.aload_n 0, 1) := dl_o42 kcX8_beginProgram (by decide +kernel)
theorem dX8_beginProgram_55 : decode cX8_beginProgram 55 = .ok (.getfield 39, 3) := dl_o180 kcX8_beginProgram (by decide +kernel)
theorem dX8_beginProgram_58 : decode cX8_beginProgram 58 = .ok (.iadd, 1) := dl_o96 kcX8_beginProgram (by decide +kernel)
theorem dX8_beginProgram_59 : decode cX8_beginProgram 59 = .ok (.istore_n 1, 1) := dl_o60 kcX8_beginProgram (by decide +kernel)
theorem dX8_beginProgram_60 : decode cX8_beginProgram 60 = .ok (.aload_n 0, 1) := dl_o42 kcX8_beginProgram (by decide +kernel)
theorem dX8_beginProgram_61 : decode cX8_beginProgram 61 = .ok (.getfield 21, 3) := dl_o180 kcX8_beginProgram (by decide +kernel)
theorem dX8_beginProgram_64 : decode cX8_beginProgram 64 = .ok (.iconst 0, 1) := dl_o3 kcX8_beginProgram (by decide +kernel)
theorem dX8_beginProgram_65 : decode cX8_beginProgram 65 = .ok (.aload_n 0, 1) := dl_o42 kcX8_beginProgram (by decide +kernel)
theorem dX8_beginProgram_66 : decode cX8_beginProgram 66 = .ok (.getfield 27, 3) := dl_o180 kcX8_beginProgram (by decide +kernel)
theorem dX8_beginProgram_69 : decode cX8_beginProgram 69 = .ok (.iconst 0, 1) := dl_o3 kcX8_beginProgram (by decide +kernel)
theorem dX8_beginProgram_70 : decode cX8_beginProgram 70 = .ok (.iload_n 1, 1) := dl_o27 kcX8_beginProgram (by decide +kernel)
theorem dX8_beginProgram_71 : decode cX8_beginProgram 71 = .ok (.invokestatic 55, 3) := dl_o184 kcX8_beginProgram (by decide +kernel)
theorem dX8_beginProgram_74 : decode cX8_beginProgram 74 = .ok (.aload_n 0, 1) := dl_o42 kcX8_beginProgram (by decide +kernel)
theorem dX8_beginProgram_75 : decode cX8_beginProgram 75 = .ok (.getfield 24, 3) := dl_o180 kcX8_beginProgram (by decide +kernel)
theorem dX8_beginProgram_78 : decode cX8_beginProgram 78 = .ok (.iconst 0, 1) := dl_o3 kcX8_beginProgram (by decide +kernel)
theorem dX8_beginProgram_79 : decode cX8_beginProgram 79 = .ok (.aload_n 0, 1) := dl_o42 kcX8_beginProgram (by decide +kernel)
theorem dX8_beginProgram_80 : decode cX8_beginProgram 80 = .ok (.getfield 30, 3) := dl_o180 kcX8_beginProgram (by decide +kernel)
theorem dX8_beginProgram_83 : decode cX8_beginProgram 83 = .ok (.iconst 0, 1) := dl_o3 kcX8_beginProgram (by decide +kernel)
theorem dX8_beginProgram_84 : decode cX8_beginProgram 84 = .ok (.iload_n 1, 1) := dl_o27 kcX8_beginProgram (by decide +kernel)
theorem dX8_beginProgram_85 : decode cX8_beginProgram 85 = .ok (.invokestatic 55, 3) := dl_o184 kcX8_beginProgram (by decide +kernel)
theorem dX8_beginProgram_88 : decode cX8_beginProgram 88 = .ok (.aload_n 0, 1) := dl_o42 kcX8_beginProgram (by decide +kernel)
theorem dX8_beginProgram_89 : decode cX8_beginProgram 89 = .ok (.getfield 33, 3) := dl_o180 kcX8_beginProgram (by decide +kernel)
theorem dX8_beginProgram_92 : decode cX8_beginProgram 92 = .ok (.iconst 0, 1) := dl_o3 kcX8_beginProgram (by decide +kernel)
theorem dX8_beginProgram_93 : decode cX8_beginProgram 93 = .ok (.invokestatic 49, 3) := dl_o184 kcX8_beginProgram (by decide +kernel)
theorem dX8_beginProgram_96 : decode cX8_beginProgram 96 = .ok (.aload_n 0, 1) := dl_o42 kcX8_beginProgram (by decide +kernel)
theorem dX8_beginProgram_97 : decode cX8_beginProgram 97 = .ok (.getfield 43, 3) := dl_o180 kcX8_beginProgram (by decide +kernel)
theorem dX8_beginProgram_100 : decode cX8_beginProgram 100 = .ok (.istore_n 2, 1) := dl_o61 kcX8_beginProgram (by decide +kernel)
theorem dX8_beginProgram_101 : decode cX8_beginProgram 101 = .ok (.iload_n 2, 1) := dl_o28 kcX8_beginProgram (by decide +kernel)
theorem dX8_beginProgram_102 : decode cX8_beginProgram 102 = .ok (.iload_n 1, 1) := dl_o27 kcX8_beginProgram (by decide +kernel)
theorem dX8_beginProgram_103 : decode cX8_beginProgram 103 = .ok (.if_icmp .ge 26, 3) := dl_o162 kcX8_beginProgram 26 (by decide +kernel) (by decide +kernel)
theorem dX8_beginProgram_106 : decode cX8_beginProgram 106 = .ok (.aload_n 0, 1) := dl_o42 kcX8_beginProgram (by decide +kernel)
theorem dX8_beginProgram_107 : decode cX8_beginProgram 107 = .ok (.getfield 21, 3) := dl_o180 kcX8_beginProgram (by decide +kernel)
theorem dX8_beginProgram_110 : decode cX8_beginProgram 110 = .ok (.iload_n 2, 1) := dl_o28 kcX8_beginProgram (by decide +kernel)
theorem dX8_beginProgram_111 : decode cX8_beginProgram 111 = .ok (.aload_n 0, 1) := dl_o42 kcX8_beginProgram (by decide +kernel)
theorem dX8_beginProgram_112 : decode cX8_beginProgram 112 = .ok (.getfield 21, 3) := dl_o180 kcX8_beginProgram (by decide +kernel)
theorem dX8_beginProgram_115 : decode cX8_beginProgram 115 = .ok (.iload_n 2, 1) := dl_o28 kcX8_beginProgram (by decide +kernel)
theorem dX8_beginProgram_116 : decode cX8_beginProgram 116 = .ok (.iaload, 1) := dl_o46 kcX8_beginProgram (by decide +kernel)
theorem dX8_beginProgram_117 : decode cX8_beginProgram 117 = .ok (.i2l, 1) := dl_o133 kcX8_beginProgram (by decide +kernel)
theorem dX8_beginProgram_118 : decode cX8_beginProgram 118 = .ok (.invokestatic 61, 3) := dl_o184 kcX8_beginProgram (by decide +kernel)
theorem dX8_beginProgram_121 : decode cX8_beginProgram 121 = .ok (.l2i, 1) := dl_o136 kcX8_beginProgram (by decide +kernel)
theorem dX8_beginProgram_122 : decode cX8_beginProgram 122 = .ok (.iastore, 1) := dl_o79 kcX8_beginProgram (by decide +kernel)
theorem dX8_beginProgram_123 : decode cX8_beginProgram 123 = .ok (.iinc 2 1, 3) := by decide +kernel
theorem dX8_beginProgram_126 : decode cX8_beginProgram 126 = .ok (.goto (-25), 3) := dl_o167 kcX8_beginProgram 65511 (by decide +kernel) (by decide +kernel)
theorem dX8_beginProgram_129 : decode cX8_beginProgram 129 = .ok (.return_, 1) := dl_o177 kcX8_beginProgram (by decide +kernel)
def B_X8_beginProgram_101 (N : Nat) (k101 : Nat → Int32 → Int32 → sv_V → Option sv_V) (l0 : Nat) (l1 : Int32) (l2 : Int32) (V : sv_V) : Option sv_V := if l1 ≤ l2 then (some V) else (if lay l0 = .inl 8 then (cr l0 0).bind (fun b3 => (sv_len 0 b3).bind (fun n5 => if sx_in l2 n5 = true then (F_X11_toWholePixel ((V.1 b3 l2.toNatClampNeg).toInt64) V).bind (fun (x10, V8) => if sx_in l2 n5 = true then sx_let (sv_I V8 b3 l2.toNatClampNeg x10.toInt32) (fun V12 => sx_let (l2 + 1) (fun x13 => k101 l0 l1 x13 V12)) else none) else none)) else none)
set_option maxRecDepth 20000 in
theorem tB_X8_beginProgram_101 {g : sx_G} (hG : sx_Go g) {P : Option Value → sv_V → Prop} {Vr : sv_V} (hP : P none Vr) {N : Nat} {k101 : Nat → Int32 → Int32 → sv_V → Option sv_V} (hk101 : ∀ (l0 : Nat) (l1 : Int32) (l2 : Int32) (V : sv_V), k101 l0 l1 l2 V = some Vr → sv_N g qX8_beginProgram 2 101 [(0, .ref l0), (1, .int l1), (2, .int l2)] [] V P) {l0 : Nat} {l1 : Int32} {l2 : Int32} {V : sv_V} (h : B_X8_beginProgram_101 N k101 l0 l1 l2 V = some Vr) : sv_N g qX8_beginProgram 2 101 [(0, .ref l0), (1, .int l1), (2, .int l2)] [] V P := by
  unfold B_X8_beginProgram_101 at h
  refine sx_iload_n (pc := 101) dX8_beginProgram_101 sx_m2 ?_
  refine sx_iload_n (pc := 102) dX8_beginProgram_102 sx_m1 ?_
  refine sx_icmp_ge (pc := 103) (tgt := 129) dX8_beginProgram_103 (by decide) (fun c1 => ?_) (fun c1 => ?_)
  · have h := sx_pos c1 h
    exact sv_vret (pc := 129) dX8_beginProgram_129 rfl h hP
  · have h := sx_neg c1 h
    refine sx_aload_n (pc := 106) dX8_beginProgram_106 sx_m0 ?_
    obtain ⟨g2, h⟩ := sx_grd h
    obtain ⟨b3, g4, h⟩ := sx_bnd h
    refine sv_getA (pc := 107) hG dX8_beginProgram_107 f_8_21 g2 rfl g4 ?_
    refine sx_iload_n (pc := 110) dX8_beginProgram_110 sx_m2 ?_
    refine sx_aload_n (pc := 111) dX8_beginProgram_111 sx_m0 ?_
    refine sv_getA (pc := 112) hG dX8_beginProgram_112 f_8_21 g2 rfl g4 ?_
    refine sx_iload_n (pc := 115) dX8_beginProgram_115 sx_m2 ?_
    obtain ⟨n5, g6, h⟩ := sx_bnd h
    obtain ⟨g7, h⟩ := sx_grd h
    refine sv_iald (pc := 116) hG dX8_beginProgram_116 (sv_len_e g6) g7 ?_
    refine sx_i2l (pc := 117) dX8_beginProgram_117 ?_
    obtain ⟨⟨x10, V8⟩, g9, h⟩ := sx_bnd h
    refine sv_cN (pc := 118) (y := qX11_toWholePixel) (o := (some (.long x10))) (as := [.long ((V.1 b3 l2.toNatClampNeg).toInt64)]) (V1 := V8) dX8_beginProgram_118 n_X8_61 y0X11_toWholePixel ysX11_toWholePixel rfl (Nat.le_of_ble_eq_true rfl) (by decide) (Nat.le_of_ble_eq_true rfl) rfl rfl rfl (t_X11_toWholePixel hG ⟨rfl, rfl⟩ g9) ?_
    refine sx_l2i (pc := 121) dX8_beginProgram_121 ?_
    obtain ⟨g11, h⟩ := sx_grd h
    obtain ⟨V12, hV12⟩ : ∃ z : sv_V, z = sv_I V8 b3 l2.toNatClampNeg x10.toInt32 := ⟨_, rfl⟩
    have h := sx_letE hV12 h
    refine sv_iast (pc := 122) hG dX8_beginProgram_122 (sv_len_e g6) g11 hV12 ?_
    obtain ⟨x13, hx13⟩ : ∃ z : Int32, z = l2 + 1 := ⟨_, rfl⟩
    have h := sx_letE hx13 h
    refine sx_iinc (pc := 123) (v := x13) (lo' := [(2, .int x13), (0, .ref l0), (1, .int l1)]) dX8_beginProgram_123 sx_m2 (by rw [hx13]; rfl) (by decide) rfl ?_
    refine sx_goto (pc := 126) (tgt := 101) dX8_beginProgram_126 (by decide) ?_
    refine sx_wk (sx_s1 sx_m1 (sx_s1 sx_m2 (sx_s1 sx_m0 sx_s0))) ?_
    exact hk101 _ _ _ _ h
theorem tL_X8_beginProgram_101 {g : sx_G} (hG : sx_Go g) {P : Option Value → sv_V → Prop} {Vr : sv_V} (hP : P none Vr) {N : Nat}   : ∀ (n : Nat) (l0 : Nat) (l1 : Int32) (l2 : Int32) (V : sv_V), sx_lp4 (B_X8_beginProgram_101 N ) n l0 l1 l2 V = some Vr → sv_N g qX8_beginProgram 2 101 [(0, .ref l0), (1, .int l1), (2, .int l2)] [] V P :=
  sx_lp4_ind (fun k0 ih _ _ _ V h => tB_X8_beginProgram_101 hG hP ih h)
def B_X8_beginProgram_2 (N : Nat) (k2 : Nat → Int32 → sv_V → Option sv_V) (l0 : Nat) (l1 : Int32) (V : sv_V) : Option sv_V := if lay l0 = .inl 8 then if (V.1 l0 11) ≤ l1 then (sx_let ((V.1 l0 9) + (V.1 l0 11)) (fun x16 => (cr l0 0).bind (fun b17 => (cr l0 2).bind (fun b19 => (sv_len 0 b17).bind (fun n21 => (sv_len 0 b19).bind (fun n23 => if sv_cpo (0 : Int32) x16 n21 = true then if sv_cpo (0 : Int32) x16 n23 = true then sx_let (sv_C V b17 (0 : Int32).toNatClampNeg b19 (0 : Int32).toNatClampNeg x16.toNatClampNeg) (fun V27 => (cr l0 1).bind (fun b28 => (cr l0 3).bind (fun b30 => (sv_len 0 b28).bind (fun n32 => (sv_len 0 b30).bind (fun n34 => if sv_cpo (0 : Int32) x16 n32 = true then if sv_cpo (0 : Int32) x16 n34 = true then sx_let (sv_C V27 b28 (0 : Int32).toNatClampNeg b30 (0 : Int32).toNatClampNeg x16.toNatClampNeg) (fun V38 => (cr l0 4).bind (fun b39 => (F_J7_fill_53178 N b39 (0 : Int32) V38).bind (fun V41 => sx_let (V41.1 l0 9) (fun x43 => sx_lp4 (B_X8_beginProgram_101 N ) N l0 x16 x43 V41)))) else none else none))))) else none else none)))))) else ((cr l0 0).bind (fun b44 => (cr l0 7).bind (fun b46 => (sv_len 0 b46).bind (fun n48 => if sx_in l1 n48 = true then (sv_len 0 b44).bind (fun n51 => if sx_in ((V.1 l0 9) + l1) n51 = true then sx_let (sv_I V b44 ((V.1 l0 9) + l1).toNatClampNeg (V.1 b46 l1.toNatClampNeg)) (fun V54 => (cr l0 1).bind (fun b55 => (cr l0 8).bind (fun b57 => (sv_len 0 b57).bind (fun n59 => if sx_in l1 n59 = true then (sv_len 0 b55).bind (fun n62 => if sx_in ((V54.1 l0 9) + l1) n62 = true then sx_let (sv_I V54 b55 ((V54.1 l0 9) + l1).toNatClampNeg (V54.1 b57 l1.toNatClampNeg)) (fun V65 => sx_let (l1 + 1) (fun x66 => k2 l0 x66 V65)) else none) else none)))) else none) else none)))) else none
set_option maxRecDepth 20000 in
theorem tB_X8_beginProgram_2 {g : sx_G} (hG : sx_Go g) {P : Option Value → sv_V → Prop} {Vr : sv_V} (hP : P none Vr) {N : Nat} {k2 : Nat → Int32 → sv_V → Option sv_V} (hk2 : ∀ (l0 : Nat) (l1 : Int32) (V : sv_V), k2 l0 l1 V = some Vr → sv_N g qX8_beginProgram 2 2 [(0, .ref l0), (1, .int l1)] [] V P) {l0 : Nat} {l1 : Int32} {V : sv_V} (h : B_X8_beginProgram_2 N k2 l0 l1 V = some Vr) : sv_N g qX8_beginProgram 2 2 [(0, .ref l0), (1, .int l1)] [] V P := by
  unfold B_X8_beginProgram_2 at h
  refine sx_iload_n (pc := 2) dX8_beginProgram_2 sx_m1 ?_
  refine sx_aload_n (pc := 3) dX8_beginProgram_3 sx_m0 ?_
  obtain ⟨g14, h⟩ := sx_grd h
  refine sv_getI (pc := 4) hG dX8_beginProgram_4 f_8_39 g14 rfl ?_
  refine sx_icmp_ge (pc := 7) (tgt := 50) dX8_beginProgram_7 (by decide) (fun c15 => ?_) (fun c15 => ?_)
  · have h := sx_pos c15 h
    refine sx_aload_n (pc := 50) dX8_beginProgram_50 sx_m0 ?_
    refine sv_getI (pc := 51) hG dX8_beginProgram_51 f_8_43 g14 rfl ?_
    refine sx_aload_n (pc := 54) dX8_beginProgram_54 sx_m0 ?_
    refine sv_getI (pc := 55) hG dX8_beginProgram_55 f_8_39 g14 rfl ?_
    refine sx_iadd (pc := 58) dX8_beginProgram_58 ?_
    refine sv_tI (fun x16 hx16 => ?_)
    have h := sx_letE hx16 h
    refine sx_istore_n (pc := 59) (lo' := [(1, .int x16), (0, .ref l0)]) dX8_beginProgram_59 (by decide) rfl ?_
    refine sx_aload_n (pc := 60) dX8_beginProgram_60 sx_m1 ?_
    obtain ⟨b17, g18, h⟩ := sx_bnd h
    refine sv_getA (pc := 61) hG dX8_beginProgram_61 f_8_21 g14 rfl g18 ?_
    refine sx_iconst (pc := 64) (v := 0) dX8_beginProgram_64 (by decide) ?_
    refine sx_aload_n (pc := 65) dX8_beginProgram_65 sx_m1 ?_
    obtain ⟨b19, g20, h⟩ := sx_bnd h
    refine sv_getA (pc := 66) hG dX8_beginProgram_66 f_8_27 g14 rfl g20 ?_
    refine sx_iconst (pc := 69) (v := 0) dX8_beginProgram_69 (by decide) ?_
    refine sx_iload_n (pc := 70) dX8_beginProgram_70 sx_m0 ?_
    obtain ⟨n21, g22, h⟩ := sx_bnd h
    obtain ⟨n23, g24, h⟩ := sx_bnd h
    obtain ⟨g25, h⟩ := sx_grd h
    obtain ⟨g26, h⟩ := sx_grd h
    obtain ⟨V27, hV27⟩ : ∃ z : sv_V, z = sv_C V b17 (0 : Int32).toNatClampNeg b19 (0 : Int32).toNatClampNeg x16.toNatClampNeg := ⟨_, rfl⟩
    have h := sx_letE hV27 h
    refine sv_copyI (pc := 71) hG dX8_beginProgram_71 l_X8_55 (sv_len_e g22) (sv_len_e g24) g25 g26 (by decide) (Nat.le_of_ble_eq_true rfl) hV27 ?_
    refine sx_aload_n (pc := 74) dX8_beginProgram_74 sx_m1 ?_
    obtain ⟨b28, g29, h⟩ := sx_bnd h
    refine sv_getA (pc := 75) hG dX8_beginProgram_75 f_8_24 g14 rfl g29 ?_
    refine sx_iconst (pc := 78) (v := 0) dX8_beginProgram_78 (by decide) ?_
    refine sx_aload_n (pc := 79) dX8_beginProgram_79 sx_m1 ?_
    obtain ⟨b30, g31, h⟩ := sx_bnd h
    refine sv_getA (pc := 80) hG dX8_beginProgram_80 f_8_30 g14 rfl g31 ?_
    refine sx_iconst (pc := 83) (v := 0) dX8_beginProgram_83 (by decide) ?_
    refine sx_iload_n (pc := 84) dX8_beginProgram_84 sx_m0 ?_
    obtain ⟨n32, g33, h⟩ := sx_bnd h
    obtain ⟨n34, g35, h⟩ := sx_bnd h
    obtain ⟨g36, h⟩ := sx_grd h
    obtain ⟨g37, h⟩ := sx_grd h
    obtain ⟨V38, hV38⟩ : ∃ z : sv_V, z = sv_C V27 b28 (0 : Int32).toNatClampNeg b30 (0 : Int32).toNatClampNeg x16.toNatClampNeg := ⟨_, rfl⟩
    have h := sx_letE hV38 h
    refine sv_copyI (pc := 85) hG dX8_beginProgram_85 l_X8_55 (sv_len_e g33) (sv_len_e g35) g36 g37 (by decide) (Nat.le_of_ble_eq_true rfl) hV38 ?_
    refine sx_aload_n (pc := 88) dX8_beginProgram_88 sx_m1 ?_
    obtain ⟨b39, g40, h⟩ := sx_bnd h
    refine sv_getA (pc := 89) hG dX8_beginProgram_89 f_8_33 g14 rfl g40 ?_
    refine sx_iconst (pc := 92) (v := 0) dX8_beginProgram_92 (by decide) ?_
    obtain ⟨V41, g42, h⟩ := sx_bnd h
    refine sv_cS (pc := 93) (y := qJ7_fill_53178) (o := none) (as := [.ref b39, .int (0 : Int32)]) (V1 := V41) dX8_beginProgram_93 l_X8_49 y0J7_fill_53178 ysJ7_fill_53178 rfl (Nat.le_of_ble_eq_true rfl) (by decide) (Nat.le_of_ble_eq_true rfl) rfl rfl rfl (t_J7_fill_53178 hG ⟨rfl, rfl⟩ g42) ?_
    refine sx_aload_n (pc := 96) dX8_beginProgram_96 sx_m1 ?_
    refine sv_getI (pc := 97) hG dX8_beginProgram_97 f_8_43 g14 rfl ?_
    refine sv_tI (fun x43 hx43 => ?_)
    have h := sx_letE hx43 h
    refine sx_istore_n (pc := 100) (lo' := [(2, .int x43), (1, .int x16), (0, .ref l0)]) dX8_beginProgram_100 (by decide) rfl ?_
    refine sx_wk (sx_s1 sx_m2 (sx_s1 sx_m1 (sx_s1 sx_m0 sx_s0))) ?_
    exact tL_X8_beginProgram_101 hG hP  N _ _ _ _ h
  · have h := sx_neg c15 h
    refine sx_aload_n (pc := 10) dX8_beginProgram_10 sx_m0 ?_
    obtain ⟨b44, g45, h⟩ := sx_bnd h
    refine sv_getA (pc := 11) hG dX8_beginProgram_11 f_8_21 g14 rfl g45 ?_
    refine sx_aload_n (pc := 14) dX8_beginProgram_14 sx_m0 ?_
    refine sv_getI (pc := 15) hG dX8_beginProgram_15 f_8_43 g14 rfl ?_
    refine sx_iload_n (pc := 18) dX8_beginProgram_18 sx_m1 ?_
    refine sx_iadd (pc := 19) dX8_beginProgram_19 ?_
    refine sx_aload_n (pc := 20) dX8_beginProgram_20 sx_m0 ?_
    obtain ⟨b46, g47, h⟩ := sx_bnd h
    refine sv_getA (pc := 21) hG dX8_beginProgram_21 f_8_15 g14 rfl g47 ?_
    refine sx_iload_n (pc := 24) dX8_beginProgram_24 sx_m1 ?_
    obtain ⟨n48, g49, h⟩ := sx_bnd h
    obtain ⟨g50, h⟩ := sx_grd h
    refine sv_iald (pc := 25) hG dX8_beginProgram_25 (sv_len_e g49) g50 ?_
    obtain ⟨n51, g52, h⟩ := sx_bnd h
    obtain ⟨g53, h⟩ := sx_grd h
    obtain ⟨V54, hV54⟩ : ∃ z : sv_V, z = sv_I V b44 ((V.1 l0 9) + l1).toNatClampNeg (V.1 b46 l1.toNatClampNeg) := ⟨_, rfl⟩
    have h := sx_letE hV54 h
    refine sv_iast (pc := 26) hG dX8_beginProgram_26 (sv_len_e g52) g53 hV54 ?_
    refine sx_aload_n (pc := 27) dX8_beginProgram_27 sx_m0 ?_
    obtain ⟨b55, g56, h⟩ := sx_bnd h
    refine sv_getA (pc := 28) hG dX8_beginProgram_28 f_8_24 g14 rfl g56 ?_
    refine sx_aload_n (pc := 31) dX8_beginProgram_31 sx_m0 ?_
    refine sv_getI (pc := 32) hG dX8_beginProgram_32 f_8_43 g14 rfl ?_
    refine sx_iload_n (pc := 35) dX8_beginProgram_35 sx_m1 ?_
    refine sx_iadd (pc := 36) dX8_beginProgram_36 ?_
    refine sx_aload_n (pc := 37) dX8_beginProgram_37 sx_m0 ?_
    obtain ⟨b57, g58, h⟩ := sx_bnd h
    refine sv_getA (pc := 38) hG dX8_beginProgram_38 f_8_18 g14 rfl g58 ?_
    refine sx_iload_n (pc := 41) dX8_beginProgram_41 sx_m1 ?_
    obtain ⟨n59, g60, h⟩ := sx_bnd h
    obtain ⟨g61, h⟩ := sx_grd h
    refine sv_iald (pc := 42) hG dX8_beginProgram_42 (sv_len_e g60) g61 ?_
    obtain ⟨n62, g63, h⟩ := sx_bnd h
    obtain ⟨g64, h⟩ := sx_grd h
    obtain ⟨V65, hV65⟩ : ∃ z : sv_V, z = sv_I V54 b55 ((V54.1 l0 9) + l1).toNatClampNeg (V54.1 b57 l1.toNatClampNeg) := ⟨_, rfl⟩
    have h := sx_letE hV65 h
    refine sv_iast (pc := 43) hG dX8_beginProgram_43 (sv_len_e g63) g64 hV65 ?_
    obtain ⟨x66, hx66⟩ : ∃ z : Int32, z = l1 + 1 := ⟨_, rfl⟩
    have h := sx_letE hx66 h
    refine sx_iinc (pc := 44) (v := x66) (lo' := [(1, .int x66), (0, .ref l0)]) dX8_beginProgram_44 sx_m1 (by rw [hx66]; rfl) (by decide) rfl ?_
    refine sx_goto (pc := 47) (tgt := 2) dX8_beginProgram_47 (by decide) ?_
    refine sx_wk (sx_s1 sx_m1 (sx_s1 sx_m0 sx_s0)) ?_
    exact hk2 _ _ _ h
theorem tL_X8_beginProgram_2 {g : sx_G} (hG : sx_Go g) {P : Option Value → sv_V → Prop} {Vr : sv_V} (hP : P none Vr) {N : Nat}   : ∀ (n : Nat) (l0 : Nat) (l1 : Int32) (V : sv_V), sx_lp3 (B_X8_beginProgram_2 N ) n l0 l1 V = some Vr → sv_N g qX8_beginProgram 2 2 [(0, .ref l0), (1, .int l1)] [] V P :=
  sx_lp3_ind (fun k0 ih _ _ V h => tB_X8_beginProgram_2 hG hP ih h)
def F_X8_beginProgram (N : Nat) (l0 : Nat) (V : sv_V) : Option sv_V := sx_lp3 (B_X8_beginProgram_2 N ) N l0 (0 : Int32) V
set_option maxRecDepth 20000 in
theorem t_X8_beginProgram {g : sx_G} (hG : sx_Go g) {P : Option Value → sv_V → Prop} {Vr : sv_V} (hP : P none Vr) {N : Nat} {l0 : Nat} {V : sv_V} (h : F_X8_beginProgram N l0 V = some Vr) : sv_N g qX8_beginProgram 2 0 [(0, .ref l0)] [] V P := by
  unfold F_X8_beginProgram at h
  refine sx_iconst (pc := 0) (v := 0) dX8_beginProgram_0 (by decide) ?_
  refine sx_istore_n (pc := 1) (lo' := [(1, .int (0 : Int32)), (0, .ref l0)]) dX8_beginProgram_1 (by decide) rfl ?_
  refine sx_wk (sx_s1 sx_m1 (sx_s1 sx_m0 sx_s0)) ?_
  exact tL_X8_beginProgram_2 hG hP  N _ _ _ h
def ncX9_renew : Nat := 20509675062926207269757487920720213580711682928457103375938171610861082603029546
theorem kcX9_renew : CK cX9_renew ncX9_renew 33 := ⟨by decide +kernel, by decide +kernel⟩
theorem dX9_renew_0 : decode cX9_renew 0 = .ok (.aload_n 0, 1) := dl_o42 kcX9_renew (by decide +kernel)
theorem dX9_renew_1 : decode cX9_renew 1 = .ok (.iconst 1, 1) := dl_o4 kcX9_renew (by decide +kernel)
theorem dX9_renew_2 : decode cX9_renew 2 = .ok (.invokevirtual 18, 3) := dl_o182 kcX9_renew (by decide +kernel)
theorem dX9_renew_5 : decode cX9_renew 5 = .ok (.aload_n 0, 1) := dl_o42 kcX9_renew (by decide +kernel)
theorem dX9_renew_6 : decode cX9_renew 6 = .ok (.getfield 9, 3) := dl_o180 kcX9_renew (by decide +kernel)
theorem dX9_renew_9 : decode cX9_renew 9 = .ok (.iconst 0, 1) := dl_o3 kcX9_renew (by decide +kernel)
theorem dX9_renew_10 : decode cX9_renew 10 = .ok (.invokestatic 22, 3) := dl_o184 kcX9_renew (by decide +kernel)
theorem dX9_renew_13 : decode cX9_renew 13 = .ok (.aload_n 0, 1) := dl_o42 kcX9_renew (by decide +kernel)
theorem dX9_renew_14 : decode cX9_renew 14 = .ok (.getfield 15, 3) := dl_o180 kcX9_renew (by decide +kernel)
theorem dX9_renew_17 : decode cX9_renew 17 = .ok (.iconst 1, 1) := dl_o4 kcX9_renew (by decide +kernel)
theorem dX9_renew_18 : decode cX9_renew 18 = .ok (.invokestatic 22, 3) := dl_o184 kcX9_renew (by decide +kernel)
theorem dX9_renew_21 : decode cX9_renew 21 = .ok (.aload_n 0, 1) := dl_o42 kcX9_renew (by decide +kernel)
theorem dX9_renew_22 : decode cX9_renew 22 = .ok (.iconst 1, 1) := dl_o4 kcX9_renew (by decide +kernel)
theorem dX9_renew_23 : decode cX9_renew 23 = .ok (.putfield 28, 3) := dl_o181 kcX9_renew (by decide +kernel)
theorem dX9_renew_26 : decode cX9_renew 26 = .ok (.aload_n 0, 1) := dl_o42 kcX9_renew (by decide +kernel)
theorem dX9_renew_27 : decode cX9_renew 27 = .ok (.bipush 24, 2) := dl_o16 kcX9_renew 24 (by decide +kernel) (by decide +kernel)
theorem dX9_renew_29 : decode cX9_renew 29 = .ok (.invokevirtual 32, 3) := dl_o182 kcX9_renew (by decide +kernel)
theorem dX9_renew_32 : decode cX9_renew 32 = .ok (.return_, 1) := dl_o177 kcX9_renew (by decide +kernel)
def F_X9_renew (N : Nat)  (V : sv_V) : Option sv_V := (F_X9_goAlong (1 : Int32) V).bind (fun V1 => (F_J7_fill_53178 N 71 (0 : Int32) V1).bind (fun V3 => (F_J7_fill_53178 N 72 (1 : Int32) V3).bind (fun V5 => sx_let (sv_I V5 70 8 (1 : Int32)) (fun V7 => (F_X9_roundBy (24 : Int32) V7).bind (fun V8 => some V8)))))
set_option maxRecDepth 20000 in
theorem t_X9_renew {g : sx_G} (hG : sx_Go g) {P : Option Value → sv_V → Prop} {Vr : sv_V} (hP : P none Vr) {N : Nat}  {V : sv_V} (h : F_X9_renew N  V = some Vr) : sv_N g qX9_renew 2 0 [(0, .ref 70)] [] V P := by
  unfold F_X9_renew at h
  refine sx_aload_n (pc := 0) dX9_renew_0 sx_m0 ?_
  refine sx_iconst (pc := 1) (v := 1) dX9_renew_1 (by decide) ?_
  obtain ⟨V1, g2, h⟩ := sx_bnd h
  refine sv_cV (pc := 2) (y := qX9_goAlong) (o := none) (as := [.int (1 : Int32)]) (V1 := V1) hG dX9_renew_2 l_X9_18 y0X9_goAlong yvX9_goAlong rfl (Nat.le_of_ble_eq_true rfl) lay_70 kr_9 (by decide) (Nat.le_of_ble_eq_true rfl) rfl rfl rfl (t_X9_goAlong hG ⟨rfl, rfl⟩ g2) ?_
  refine sx_aload_n (pc := 5) dX9_renew_5 sx_m0 ?_
  refine sv_getA (pc := 6) hG dX9_renew_6 f_9_9 lay_70 rfl cr_70_6 ?_
  refine sx_iconst (pc := 9) (v := 0) dX9_renew_9 (by decide) ?_
  obtain ⟨V3, g4, h⟩ := sx_bnd h
  refine sv_cS (pc := 10) (y := qJ7_fill_53178) (o := none) (as := [.ref 71, .int (0 : Int32)]) (V1 := V3) dX9_renew_10 l_X9_22 y0J7_fill_53178 ysJ7_fill_53178 rfl (Nat.le_of_ble_eq_true rfl) (by decide) (Nat.le_of_ble_eq_true rfl) rfl rfl rfl (t_J7_fill_53178 hG ⟨rfl, rfl⟩ g4) ?_
  refine sx_aload_n (pc := 13) dX9_renew_13 sx_m0 ?_
  refine sv_getA (pc := 14) hG dX9_renew_14 f_9_15 lay_70 rfl cr_70_7 ?_
  refine sx_iconst (pc := 17) (v := 1) dX9_renew_17 (by decide) ?_
  obtain ⟨V5, g6, h⟩ := sx_bnd h
  refine sv_cS (pc := 18) (y := qJ7_fill_53178) (o := none) (as := [.ref 72, .int (1 : Int32)]) (V1 := V5) dX9_renew_18 l_X9_22 y0J7_fill_53178 ysJ7_fill_53178 rfl (Nat.le_of_ble_eq_true rfl) (by decide) (Nat.le_of_ble_eq_true rfl) rfl rfl rfl (t_J7_fill_53178 hG ⟨rfl, rfl⟩ g6) ?_
  refine sx_aload_n (pc := 21) dX9_renew_21 sx_m0 ?_
  refine sx_iconst (pc := 22) (v := 1) dX9_renew_22 (by decide) ?_
  obtain ⟨V7, hV7⟩ : ∃ z : sv_V, z = sv_I V5 70 8 (1 : Int32) := ⟨_, rfl⟩
  have h := sx_letE hV7 h
  refine sv_putI (pc := 23) hG dX9_renew_23 f_9_28 lay_70 rfl hV7 ?_
  refine sx_aload_n (pc := 26) dX9_renew_26 sx_m0 ?_
  refine sx_bipush (pc := 27) (v := 24) dX9_renew_27 (by decide) ?_
  obtain ⟨V8, g9, h⟩ := sx_bnd h
  refine sv_cV (pc := 29) (y := qX9_roundBy) (o := none) (as := [.int (24 : Int32)]) (V1 := V8) hG dX9_renew_29 l_X9_32 y0X9_roundBy yvX9_roundBy rfl (Nat.le_of_ble_eq_true rfl) lay_70 kr_9 (by decide) (Nat.le_of_ble_eq_true rfl) rfl rfl rfl (t_X9_roundBy hG ⟨rfl, rfl⟩ g9) ?_
  exact sv_vret (pc := 32) dX9_renew_32 rfl h hP
def ncX10_trace : Nat := 85435538963048010306862544279831505223260350705743488614537021779837456840189491632381362480983698029187906550410630131032404271771071274468455549673738214935290287300583425684958278228919749294596483870906482911718159681694190096633436486585727908046511080234
theorem kcX10_trace : CK cX10_trace ncX10_trace 108 := ⟨by decide +kernel, by decide +kernel⟩
theorem dX10_trace_0 : decode cX10_trace 0 = .ok (.aload_n 0, 1) := dl_o42 kcX10_trace (by decide +kernel)
theorem dX10_trace_1 : decode cX10_trace 1 = .ok (.iconst 0, 1) := dl_o3 kcX10_trace (by decide +kernel)
theorem dX10_trace_2 : decode cX10_trace 2 = .ok (.putfield 37, 3) := dl_o181 kcX10_trace (by decide +kernel)
theorem dX10_trace_5 : decode cX10_trace 5 = .ok (.iconst 0, 1) := dl_o3 kcX10_trace (by decide +kernel)
theorem dX10_trace_6 : decode cX10_trace 6 = .ok (.istore_n 2, 1) := dl_o61 kcX10_trace (by decide +kernel)
theorem dX10_trace_7 : decode cX10_trace 7 = .ok (.iload_n 2, 1) := dl_o28 kcX10_trace (by decide +kernel)
theorem dX10_trace_8 : decode cX10_trace 8 = .ok (.aload_n 1, 1) := dl_o43 kcX10_trace (by decide +kernel)
theorem dX10_trace_9 : decode cX10_trace 9 = .ok (.getfield 41, 3) := dl_o180 kcX10_trace (by decide +kernel)
theorem dX10_trace_12 : decode cX10_trace 12 = .ok (.if_icmp .ge 25, 3) := dl_o162 kcX10_trace 25 (by decide +kernel) (by decide +kernel)
theorem dX10_trace_15 : decode cX10_trace 15 = .ok (.aload_n 0, 1) := dl_o42 kcX10_trace (by decide +kernel)
theorem dX10_trace_16 : decode cX10_trace 16 = .ok (.aload_n 1, 1) := dl_o43 kcX10_trace (by decide +kernel)
theorem dX10_trace_17 : decode cX10_trace 17 = .ok (.aload_n 1, 1) := dl_o43 kcX10_trace (by decide +kernel)
theorem dX10_trace_18 : decode cX10_trace 18 = .ok (.iload_n 2, 1) := dl_o28 kcX10_trace (by decide +kernel)
theorem dX10_trace_19 : decode cX10_trace 19 = .ok (.invokevirtual 46, 3) := dl_o182 kcX10_trace (by decide +kernel)
theorem dX10_trace_22 : decode cX10_trace 22 = .ok (.aload_n 1, 1) := dl_o43 kcX10_trace (by decide +kernel)
theorem dX10_trace_23 : decode cX10_trace 23 = .ok (.getfield 50, 3) := dl_o180 kcX10_trace (by decide +kernel)
theorem dX10_trace_26 : decode cX10_trace 26 = .ok (.iload_n 2, 1) := dl_o28 kcX10_trace (by decide +kernel)
theorem dX10_trace_27 : decode cX10_trace 27 = .ok (.iaload, 1) := dl_o46 kcX10_trace (by decide +kernel)
theorem dX10_trace_28 : decode cX10_trace 28 = .ok (.invokevirtual 53, 3) := dl_o182 kcX10_trace (by decide +kernel)
theorem dX10_trace_31 : decode cX10_trace 31 = .ok (.iinc 2 1, 3) := by decide +kernel
theorem dX10_trace_34 : decode cX10_trace 34 = .ok (.goto (-27), 3) := dl_o167 kcX10_trace 65509 (by decide +kernel) (by decide +kernel)
theorem dX10_trace_37 : decode cX10_trace 37 = .ok (.aload_n 0, 1) := dl_o42 kcX10_trace (by decide +kernel)
theorem dX10_trace_38 : decode cX10_trace 38 = .ok (.sipush 8193, 3) := dl_o17 kcX10_trace 8193 (by decide +kernel) (by decide +kernel)
theorem dX10_trace_41 : decode cX10_trace 41 = .ok (.putfield 57, 3) := dl_o181 kcX10_trace (by decide +kernel)
theorem dX10_trace_44 : decode cX10_trace 44 = .ok (.aload_n 0, 1) := dl_o42 kcX10_trace (by decide +kernel)
theorem dX10_trace_45 : decode cX10_trace 45 = .ok (.aload_n 0, 1) := dl_o42 kcX10_trace (by decide +kernel)
theorem dX10_trace_46 : decode cX10_trace 46 = .ok (.getfield 57, 3) := dl_o180 kcX10_trace (by decide +kernel)
theorem dX10_trace_49 : decode cX10_trace 49 = .ok (.ineg, 1) := dl_o116 kcX10_trace (by decide +kernel)
theorem dX10_trace_50 : decode cX10_trace 50 = .ok (.putfield 60, 3) := dl_o181 kcX10_trace (by decide +kernel)
theorem dX10_trace_53 : decode cX10_trace 53 = .ok (.iconst 0, 1) := dl_o3 kcX10_trace (by decide +kernel)
theorem dX10_trace_54 : decode cX10_trace 54 = .ok (.istore_n 2, 1) := dl_o61 kcX10_trace (by decide +kernel)
theorem dX10_trace_55 : decode cX10_trace 55 = .ok (.iload_n 2, 1) := dl_o28 kcX10_trace (by decide +kernel)
theorem dX10_trace_56 : decode cX10_trace 56 = .ok (.aload_n 1, 1) := dl_o43 kcX10_trace (by decide +kernel)
theorem dX10_trace_57 : decode cX10_trace 57 = .ok (.getfield 63, 3) := dl_o180 kcX10_trace (by decide +kernel)
theorem dX10_trace_60 : decode cX10_trace 60 = .ok (.if_icmp .ge 47, 3) := dl_o162 kcX10_trace 47 (by decide +kernel) (by decide +kernel)
theorem dX10_trace_63 : decode cX10_trace 63 = .ok (.aload_n 0, 1) := dl_o42 kcX10_trace (by decide +kernel)
theorem dX10_trace_64 : decode cX10_trace 64 = .ok (.aload_n 0, 1) := dl_o42 kcX10_trace (by decide +kernel)
theorem dX10_trace_65 : decode cX10_trace 65 = .ok (.getfield 57, 3) := dl_o180 kcX10_trace (by decide +kernel)
theorem dX10_trace_68 : decode cX10_trace 68 = .ok (.iconst 2, 1) := dl_o5 kcX10_trace (by decide +kernel)
theorem dX10_trace_69 : decode cX10_trace 69 = .ok (.aload_n 1, 1) := dl_o43 kcX10_trace (by decide +kernel)
theorem dX10_trace_70 : decode cX10_trace 70 = .ok (.getfield 66, 3) := dl_o180 kcX10_trace (by decide +kernel)
theorem dX10_trace_73 : decode cX10_trace 73 = .ok (.iload_n 2, 1) := dl_o28 kcX10_trace (by decide +kernel)
theorem dX10_trace_74 : decode cX10_trace 74 = .ok (.iaload, 1) := dl_o46 kcX10_trace (by decide +kernel)
theorem dX10_trace_75 : decode cX10_trace 75 = .ok (.imul, 1) := dl_o104 kcX10_trace (by decide +kernel)
theorem dX10_trace_76 : decode cX10_trace 76 = .ok (.invokestatic 69, 3) := dl_o184 kcX10_trace (by decide +kernel)
theorem dX10_trace_79 : decode cX10_trace 79 = .ok (.putfield 57, 3) := dl_o181 kcX10_trace (by decide +kernel)
theorem dX10_trace_82 : decode cX10_trace 82 = .ok (.aload_n 0, 1) := dl_o42 kcX10_trace (by decide +kernel)
theorem dX10_trace_83 : decode cX10_trace 83 = .ok (.aload_n 0, 1) := dl_o42 kcX10_trace (by decide +kernel)
theorem dX10_trace_84 : decode cX10_trace 84 = .ok (.getfield 60, 3) := dl_o180 kcX10_trace (by decide +kernel)
theorem dX10_trace_87 : decode cX10_trace 87 = .ok (.iconst 2, 1) := dl_o5 kcX10_trace (by decide +kernel)
theorem dX10_trace_88 : decode cX10_trace 88 = .ok (.aload_n 1, 1) := dl_o43 kcX10_trace (by decide +kernel)
theorem dX10_trace_89 : decode cX10_trace 89 = .ok (.getfield 66, 3) := dl_o180 kcX10_trace (by decide +kernel)
theorem dX10_trace_92 : decode cX10_trace 92 = .ok (.iload_n 2, 1) := dl_o28 kcX10_trace (by decide +kernel)
theorem dX10_trace_93 : decode cX10_trace 93 = .ok (.iaload, 1) := dl_o46 kcX10_trace (by decide +kernel)
theorem dX10_trace_94 : decode cX10_trace 94 = .ok (.imul, 1) := dl_o104 kcX10_trace (by decide +kernel)
theorem dX10_trace_95 : decode cX10_trace 95 = .ok (.invokestatic 75, 3) := dl_o184 kcX10_trace (by decide +kernel)
theorem dX10_trace_98 : decode cX10_trace 98 = .ok (.putfield 60, 3) := dl_o181 kcX10_trace (by decide +kernel)
theorem dX10_trace_101 : decode cX10_trace 101 = .ok (.iinc 2 1, 3) := by decide +kernel
theorem dX10_trace_104 : decode cX10_trace 104 = .ok (.goto (-49), 3) := dl_o167 kcX10_trace 65487 (by decide +kernel) (by decide +kernel)
theorem dX10_trace_107 : decode cX10_trace 107 = .ok (.return_, 1) := dl_o177 kcX10_trace (by decide +kernel)
def B_X10_trace_55 (N : Nat) (k55 : Nat → Int32 → sv_V → Option sv_V) (l1 : Nat) (l2 : Int32) (V : sv_V) : Option sv_V := if lay l1 = .inl 8 then if (V.1 l1 9) ≤ l2 then (some V) else ((cr l1 0).bind (fun b3 => (sv_len 0 b3).bind (fun n5 => if sx_in l2 n5 = true then (F_J9_min_7cf53 (V.1 60 11) ((2 : Int32) * (V.1 b3 l2.toNatClampNeg)) V).bind (fun (x10, V8) => sx_let (sv_I V8 60 11 x10) (fun V11 => if sx_in l2 n5 = true then (F_J9_max_7cf53 (V11.1 60 12) ((2 : Int32) * (V11.1 b3 l2.toNatClampNeg)) V11).bind (fun (x15, V13) => sx_let (sv_I V13 60 12 x15) (fun V16 => sx_let (l2 + 1) (fun x17 => k55 l1 x17 V16))) else none)) else none))) else none
set_option maxRecDepth 20000 in
theorem tB_X10_trace_55 {g : sx_G} (hG : sx_Go g) {P : Option Value → sv_V → Prop} {Vr : sv_V} (hP : P none Vr) {N : Nat} {k55 : Nat → Int32 → sv_V → Option sv_V} (hk55 : ∀ (l1 : Nat) (l2 : Int32) (V : sv_V), k55 l1 l2 V = some Vr → sv_N g qX10_trace 2 55 [(0, .ref 60), (1, .ref l1), (2, .int l2)] [] V P) {l1 : Nat} {l2 : Int32} {V : sv_V} (h : B_X10_trace_55 N k55 l1 l2 V = some Vr) : sv_N g qX10_trace 2 55 [(0, .ref 60), (1, .ref l1), (2, .int l2)] [] V P := by
  unfold B_X10_trace_55 at h
  refine sx_iload_n (pc := 55) dX10_trace_55 sx_m2 ?_
  refine sx_aload_n (pc := 56) dX10_trace_56 sx_m1 ?_
  obtain ⟨g1, h⟩ := sx_grd h
  refine sv_getI (pc := 57) hG dX10_trace_57 f_10_63 g1 rfl ?_
  refine sx_icmp_ge (pc := 60) (tgt := 107) dX10_trace_60 (by decide) (fun c2 => ?_) (fun c2 => ?_)
  · have h := sx_pos c2 h
    exact sv_vret (pc := 107) dX10_trace_107 rfl h hP
  · have h := sx_neg c2 h
    refine sx_aload_n (pc := 63) dX10_trace_63 sx_m0 ?_
    refine sx_aload_n (pc := 64) dX10_trace_64 sx_m0 ?_
    refine sv_getI (pc := 65) hG dX10_trace_65 f_10_57 lay_60 rfl ?_
    refine sx_iconst (pc := 68) (v := 2) dX10_trace_68 (by decide) ?_
    refine sx_aload_n (pc := 69) dX10_trace_69 sx_m1 ?_
    obtain ⟨b3, g4, h⟩ := sx_bnd h
    refine sv_getA (pc := 70) hG dX10_trace_70 f_10_66 g1 rfl g4 ?_
    refine sx_iload_n (pc := 73) dX10_trace_73 sx_m2 ?_
    obtain ⟨n5, g6, h⟩ := sx_bnd h
    obtain ⟨g7, h⟩ := sx_grd h
    refine sv_iald (pc := 74) hG dX10_trace_74 (sv_len_e g6) g7 ?_
    refine sx_imul (pc := 75) dX10_trace_75 ?_
    obtain ⟨⟨x10, V8⟩, g9, h⟩ := sx_bnd h
    refine sv_cS (pc := 76) (y := qJ9_min_7cf53) (o := (some (.int x10))) (as := [.int (V.1 60 11), .int ((2 : Int32) * (V.1 b3 l2.toNatClampNeg))]) (V1 := V8) dX10_trace_76 l_X10_69 y0J9_min_7cf53 ysJ9_min_7cf53 rfl (Nat.le_of_ble_eq_true rfl) (by decide) (Nat.le_of_ble_eq_true rfl) rfl rfl rfl (t_J9_min_7cf53 hG ⟨rfl, rfl⟩ g9) ?_
    obtain ⟨V11, hV11⟩ : ∃ z : sv_V, z = sv_I V8 60 11 x10 := ⟨_, rfl⟩
    have h := sx_letE hV11 h
    refine sv_putI (pc := 79) hG dX10_trace_79 f_10_57 lay_60 rfl hV11 ?_
    refine sx_aload_n (pc := 82) dX10_trace_82 sx_m0 ?_
    refine sx_aload_n (pc := 83) dX10_trace_83 sx_m0 ?_
    refine sv_getI (pc := 84) hG dX10_trace_84 f_10_60 lay_60 rfl ?_
    refine sx_iconst (pc := 87) (v := 2) dX10_trace_87 (by decide) ?_
    refine sx_aload_n (pc := 88) dX10_trace_88 sx_m1 ?_
    refine sv_getA (pc := 89) hG dX10_trace_89 f_10_66 g1 rfl g4 ?_
    refine sx_iload_n (pc := 92) dX10_trace_92 sx_m2 ?_
    obtain ⟨g12, h⟩ := sx_grd h
    refine sv_iald (pc := 93) hG dX10_trace_93 (sv_len_e g6) g12 ?_
    refine sx_imul (pc := 94) dX10_trace_94 ?_
    obtain ⟨⟨x15, V13⟩, g14, h⟩ := sx_bnd h
    refine sv_cS (pc := 95) (y := qJ9_max_7cf53) (o := (some (.int x15))) (as := [.int (V11.1 60 12), .int ((2 : Int32) * (V11.1 b3 l2.toNatClampNeg))]) (V1 := V13) dX10_trace_95 l_X10_75 y0J9_max_7cf53 ysJ9_max_7cf53 rfl (Nat.le_of_ble_eq_true rfl) (by decide) (Nat.le_of_ble_eq_true rfl) rfl rfl rfl (t_J9_max_7cf53 hG ⟨rfl, rfl⟩ g14) ?_
    obtain ⟨V16, hV16⟩ : ∃ z : sv_V, z = sv_I V13 60 12 x15 := ⟨_, rfl⟩
    have h := sx_letE hV16 h
    refine sv_putI (pc := 98) hG dX10_trace_98 f_10_60 lay_60 rfl hV16 ?_
    obtain ⟨x17, hx17⟩ : ∃ z : Int32, z = l2 + 1 := ⟨_, rfl⟩
    have h := sx_letE hx17 h
    refine sx_iinc (pc := 101) (v := x17) (lo' := [(2, .int x17), (0, .ref 60), (1, .ref l1)]) dX10_trace_101 sx_m2 (by rw [hx17]; rfl) (by decide) rfl ?_
    refine sx_goto (pc := 104) (tgt := 55) dX10_trace_104 (by decide) ?_
    refine sx_wk (sx_s1 sx_m1 (sx_s1 sx_m2 (sx_s1 sx_m0 sx_s0))) ?_
    exact hk55 _ _ _ h
theorem tL_X10_trace_55 {g : sx_G} (hG : sx_Go g) {P : Option Value → sv_V → Prop} {Vr : sv_V} (hP : P none Vr) {N : Nat}   : ∀ (n : Nat) (l1 : Nat) (l2 : Int32) (V : sv_V), sx_lp3 (B_X10_trace_55 N ) n l1 l2 V = some Vr → sv_N g qX10_trace 2 55 [(0, .ref 60), (1, .ref l1), (2, .int l2)] [] V P :=
  sx_lp3_ind (fun k0 ih _ _ V h => tB_X10_trace_55 hG hP ih h)
def B_X10_trace_7 (N : Nat) (k7 : Nat → Int32 → sv_V → Option sv_V) (l1 : Nat) (l2 : Int32) (V : sv_V) : Option sv_V := if lay l1 = .inl 8 then if (V.1 l1 10) ≤ l2 then (sx_let (sv_I V 60 11 (8193 : Int32)) (fun V20 => sx_let (sv_I V20 60 12 (-(V20.1 60 11))) (fun V21 => sx_lp3 (B_X10_trace_55 N ) N l1 (0 : Int32) V21))) else ((F_X8_firstOf l1 l2 V).bind (fun (x24, V22) => (cr l1 6).bind (fun b25 => (sv_len 0 b25).bind (fun n27 => if sx_in l2 n27 = true then (F_X10_traceContour N l1 x24 (V22.1 b25 l2.toNatClampNeg) V22).bind (fun V30 => sx_let (l2 + 1) (fun x32 => k7 l1 x32 V30)) else none)))) else none
set_option maxRecDepth 20000 in
theorem tB_X10_trace_7 {g : sx_G} (hG : sx_Go g) {P : Option Value → sv_V → Prop} {Vr : sv_V} (hP : P none Vr) {N : Nat} {k7 : Nat → Int32 → sv_V → Option sv_V} (hk7 : ∀ (l1 : Nat) (l2 : Int32) (V : sv_V), k7 l1 l2 V = some Vr → sv_N g qX10_trace 2 7 [(0, .ref 60), (1, .ref l1), (2, .int l2)] [] V P) {l1 : Nat} {l2 : Int32} {V : sv_V} (h : B_X10_trace_7 N k7 l1 l2 V = some Vr) : sv_N g qX10_trace 2 7 [(0, .ref 60), (1, .ref l1), (2, .int l2)] [] V P := by
  unfold B_X10_trace_7 at h
  refine sx_iload_n (pc := 7) dX10_trace_7 sx_m2 ?_
  refine sx_aload_n (pc := 8) dX10_trace_8 sx_m1 ?_
  obtain ⟨g18, h⟩ := sx_grd h
  refine sv_getI (pc := 9) hG dX10_trace_9 f_10_41 g18 rfl ?_
  refine sx_icmp_ge (pc := 12) (tgt := 37) dX10_trace_12 (by decide) (fun c19 => ?_) (fun c19 => ?_)
  · have h := sx_pos c19 h
    refine sx_aload_n (pc := 37) dX10_trace_37 sx_m0 ?_
    refine sx_sipush (pc := 38) (v := 8193) dX10_trace_38 (by decide) ?_
    obtain ⟨V20, hV20⟩ : ∃ z : sv_V, z = sv_I V 60 11 (8193 : Int32) := ⟨_, rfl⟩
    have h := sx_letE hV20 h
    refine sv_putI (pc := 41) hG dX10_trace_41 f_10_57 lay_60 rfl hV20 ?_
    refine sx_aload_n (pc := 44) dX10_trace_44 sx_m0 ?_
    refine sx_aload_n (pc := 45) dX10_trace_45 sx_m0 ?_
    refine sv_getI (pc := 46) hG dX10_trace_46 f_10_57 lay_60 rfl ?_
    refine sx_ineg (pc := 49) dX10_trace_49 ?_
    obtain ⟨V21, hV21⟩ : ∃ z : sv_V, z = sv_I V20 60 12 (-(V20.1 60 11)) := ⟨_, rfl⟩
    have h := sx_letE hV21 h
    refine sv_putI (pc := 50) hG dX10_trace_50 f_10_60 lay_60 rfl hV21 ?_
    refine sx_iconst (pc := 53) (v := 0) dX10_trace_53 (by decide) ?_
    refine sx_istore_n (pc := 54) (lo' := [(2, .int (0 : Int32)), (0, .ref 60), (1, .ref l1)]) dX10_trace_54 (by decide) rfl ?_
    refine sx_wk (sx_s1 sx_m1 (sx_s1 sx_m2 (sx_s1 sx_m0 sx_s0))) ?_
    exact tL_X10_trace_55 hG hP  N _ _ _ h
  · have h := sx_neg c19 h
    refine sx_aload_n (pc := 15) dX10_trace_15 sx_m0 ?_
    refine sx_aload_n (pc := 16) dX10_trace_16 sx_m1 ?_
    refine sx_aload_n (pc := 17) dX10_trace_17 sx_m1 ?_
    refine sx_iload_n (pc := 18) dX10_trace_18 sx_m2 ?_
    obtain ⟨⟨x24, V22⟩, g23, h⟩ := sx_bnd h
    refine sv_cV (pc := 19) (y := qX8_firstOf) (o := (some (.int x24))) (as := [.int l2]) (V1 := V22) hG dX10_trace_19 l_X10_46 y0X8_firstOf yvX8_firstOf rfl (Nat.le_of_ble_eq_true rfl) g18 kr_8 (by decide) (Nat.le_of_ble_eq_true rfl) rfl rfl rfl (t_X8_firstOf hG ⟨rfl, rfl⟩ g23) ?_
    refine sx_aload_n (pc := 22) dX10_trace_22 sx_m1 ?_
    obtain ⟨b25, g26, h⟩ := sx_bnd h
    refine sv_getA (pc := 23) hG dX10_trace_23 f_10_50 g18 rfl g26 ?_
    refine sx_iload_n (pc := 26) dX10_trace_26 sx_m2 ?_
    obtain ⟨n27, g28, h⟩ := sx_bnd h
    obtain ⟨g29, h⟩ := sx_grd h
    refine sv_iald (pc := 27) hG dX10_trace_27 (sv_len_e g28) g29 ?_
    obtain ⟨V30, g31, h⟩ := sx_bnd h
    refine sv_cV (pc := 28) (y := qX10_traceContour) (o := none) (as := [.ref l1, .int x24, .int (V22.1 b25 l2.toNatClampNeg)]) (V1 := V30) hG dX10_trace_28 l_X10_53 y0X10_traceContour yvX10_traceContour rfl (Nat.le_of_ble_eq_true rfl) lay_60 kr_10 (by decide) (Nat.le_of_ble_eq_true rfl) rfl rfl rfl (t_X10_traceContour hG ⟨rfl, rfl⟩ g31) ?_
    obtain ⟨x32, hx32⟩ : ∃ z : Int32, z = l2 + 1 := ⟨_, rfl⟩
    have h := sx_letE hx32 h
    refine sx_iinc (pc := 31) (v := x32) (lo' := [(2, .int x32), (0, .ref 60), (1, .ref l1)]) dX10_trace_31 sx_m2 (by rw [hx32]; rfl) (by decide) rfl ?_
    refine sx_goto (pc := 34) (tgt := 7) dX10_trace_34 (by decide) ?_
    refine sx_wk (sx_s1 sx_m1 (sx_s1 sx_m2 (sx_s1 sx_m0 sx_s0))) ?_
    exact hk7 _ _ _ h
theorem tL_X10_trace_7 {g : sx_G} (hG : sx_Go g) {P : Option Value → sv_V → Prop} {Vr : sv_V} (hP : P none Vr) {N : Nat}   : ∀ (n : Nat) (l1 : Nat) (l2 : Int32) (V : sv_V), sx_lp3 (B_X10_trace_7 N ) n l1 l2 V = some Vr → sv_N g qX10_trace 2 7 [(0, .ref 60), (1, .ref l1), (2, .int l2)] [] V P :=
  sx_lp3_ind (fun k0 ih _ _ V h => tB_X10_trace_7 hG hP ih h)
def F_X10_trace (N : Nat) (l1 : Nat) (V : sv_V) : Option sv_V := sx_let (sv_I V 60 7 (0 : Int32)) (fun V33 => sx_lp3 (B_X10_trace_7 N ) N l1 (0 : Int32) V33)
set_option maxRecDepth 20000 in
theorem t_X10_trace {g : sx_G} (hG : sx_Go g) {P : Option Value → sv_V → Prop} {Vr : sv_V} (hP : P none Vr) {N : Nat} {l1 : Nat} {V : sv_V} (h : F_X10_trace N l1 V = some Vr) : sv_N g qX10_trace 2 0 [(0, .ref 60), (1, .ref l1)] [] V P := by
  unfold F_X10_trace at h
  refine sx_aload_n (pc := 0) dX10_trace_0 sx_m0 ?_
  refine sx_iconst (pc := 1) (v := 0) dX10_trace_1 (by decide) ?_
  obtain ⟨V33, hV33⟩ : ∃ z : sv_V, z = sv_I V 60 7 (0 : Int32) := ⟨_, rfl⟩
  have h := sx_letE hV33 h
  refine sv_putI (pc := 2) hG dX10_trace_2 f_10_37 lay_60 rfl hV33 ?_
  refine sx_iconst (pc := 5) (v := 0) dX10_trace_5 (by decide) ?_
  refine sx_istore_n (pc := 6) (lo' := [(2, .int (0 : Int32)), (0, .ref 60), (1, .ref l1)]) dX10_trace_6 (by decide) rfl ?_
  refine sx_wk (sx_s1 sx_m1 (sx_s1 sx_m2 (sx_s1 sx_m0 sx_s0))) ?_
  exact tL_X10_trace_7 hG hP  N _ _ _ h
def ncX10_holds : Nat := 4480379025359640544541888252083780796312870480555840013441280164364085796562600854450191232429138578512921673764745120922408751674936885347597465721789097962664244901090514219272009703313190779541156493774248180779583449781435694093587252010
theorem kcX10_holds : CK cX10_holds ncX10_holds 100 := ⟨by decide +kernel, by decide +kernel⟩
theorem dX10_holds_0 : decode cX10_holds 0 = .ok (.aload_n 0, 1) := dl_o42 kcX10_holds (by decide +kernel)
theorem dX10_holds_1 : decode cX10_holds 1 = .ok (.iconst 0, 1) := dl_o3 kcX10_holds (by decide +kernel)
theorem dX10_holds_2 : decode cX10_holds 2 = .ok (.putfield 94, 3) := dl_o181 kcX10_holds (by decide +kernel)
theorem dX10_holds_5 : decode cX10_holds 5 = .ok (.iconst 0, 1) := dl_o3 kcX10_holds (by decide +kernel)
theorem dX10_holds_6 : decode cX10_holds 6 = .ok (.istore_n 3, 1) := dl_o62 kcX10_holds (by decide +kernel)
theorem dX10_holds_7 : decode cX10_holds 7 = .ok (.iload_n 3, 1) := dl_o29 kcX10_holds (by decide +kernel)
theorem dX10_holds_8 : decode cX10_holds 8 = .ok (.aload_n 0, 1) := dl_o42 kcX10_holds (by decide +kernel)
theorem dX10_holds_9 : decode cX10_holds 9 = .ok (.getfield 91, 3) := dl_o180 kcX10_holds (by decide +kernel)
theorem dX10_holds_12 : decode cX10_holds 12 = .ok (.if_icmp .ge 75, 3) := dl_o162 kcX10_holds 75 (by decide +kernel) (by decide +kernel)
theorem dX10_holds_15 : decode cX10_holds 15 = .ok (.aload_n 0, 1) := dl_o42 kcX10_holds (by decide +kernel)
theorem dX10_holds_16 : decode cX10_holds 16 = .ok (.getfield 34, 3) := dl_o180 kcX10_holds (by decide +kernel)
theorem dX10_holds_19 : decode cX10_holds 19 = .ok (.iload_n 3, 1) := dl_o29 kcX10_holds (by decide +kernel)
theorem dX10_holds_20 : decode cX10_holds 20 = .ok (.iaload, 1) := dl_o46 kcX10_holds (by decide +kernel)
theorem dX10_holds_21 : decode cX10_holds 21 = .ok (.istore 4, 2) := dl_o54 kcX10_holds (by decide +kernel)
theorem dX10_holds_23 : decode cX10_holds 23 = .ok (.aload_n 0, 1) := dl_o42 kcX10_holds (by decide +kernel)
theorem dX10_holds_24 : decode cX10_holds 24 = .ok (.getfield 9, 3) := dl_o180 kcX10_holds (by decide +kernel)
theorem dX10_holds_27 : decode cX10_holds 27 = .ok (.iload 4, 2) := dl_o21 kcX10_holds (by decide +kernel)
theorem dX10_holds_29 : decode cX10_holds 29 = .ok (.iaload, 1) := dl_o46 kcX10_holds (by decide +kernel)
theorem dX10_holds_30 : decode cX10_holds 30 = .ok (.iload_n 1, 1) := dl_o27 kcX10_holds (by decide +kernel)
theorem dX10_holds_31 : decode cX10_holds 31 = .ok (.if_icmp .ge 29, 3) := dl_o162 kcX10_holds 29 (by decide +kernel) (by decide +kernel)
theorem dX10_holds_34 : decode cX10_holds 34 = .ok (.aload_n 0, 1) := dl_o42 kcX10_holds (by decide +kernel)
theorem dX10_holds_35 : decode cX10_holds 35 = .ok (.getfield 18, 3) := dl_o180 kcX10_holds (by decide +kernel)
theorem dX10_holds_38 : decode cX10_holds 38 = .ok (.iload 4, 2) := dl_o21 kcX10_holds (by decide +kernel)
theorem dX10_holds_40 : decode cX10_holds 40 = .ok (.iaload, 1) := dl_o46 kcX10_holds (by decide +kernel)
theorem dX10_holds_41 : decode cX10_holds 41 = .ok (.iload_n 1, 1) := dl_o27 kcX10_holds (by decide +kernel)
theorem dX10_holds_42 : decode cX10_holds 42 = .ok (.if_icmp .ge 18, 3) := dl_o162 kcX10_holds 18 (by decide +kernel) (by decide +kernel)
theorem dX10_holds_45 : decode cX10_holds 45 = .ok (.aload_n 0, 1) := dl_o42 kcX10_holds (by decide +kernel)
theorem dX10_holds_46 : decode cX10_holds 46 = .ok (.getfield 24, 3) := dl_o180 kcX10_holds (by decide +kernel)
theorem dX10_holds_49 : decode cX10_holds 49 = .ok (.iload 4, 2) := dl_o21 kcX10_holds (by decide +kernel)
theorem dX10_holds_51 : decode cX10_holds 51 = .ok (.iaload, 1) := dl_o46 kcX10_holds (by decide +kernel)
theorem dX10_holds_52 : decode cX10_holds 52 = .ok (.iload_n 1, 1) := dl_o27 kcX10_holds (by decide +kernel)
theorem dX10_holds_53 : decode cX10_holds 53 = .ok (.if_icmp .ge 7, 3) := dl_o162 kcX10_holds 7 (by decide +kernel) (by decide +kernel)
theorem dX10_holds_56 : decode cX10_holds 56 = .ok (.iconst 1, 1) := dl_o4 kcX10_holds (by decide +kernel)
theorem dX10_holds_57 : decode cX10_holds 57 = .ok (.goto 4, 3) := dl_o167 kcX10_holds 4 (by decide +kernel) (by decide +kernel)
theorem dX10_holds_60 : decode cX10_holds 60 = .ok (.iconst 0, 1) := dl_o3 kcX10_holds (by decide +kernel)
theorem dX10_holds_61 : decode cX10_holds 61 = .ok (.istore 5, 2) := dl_o54 kcX10_holds (by decide +kernel)
theorem dX10_holds_63 : decode cX10_holds 63 = .ok (.iload 5, 2) := dl_o21 kcX10_holds (by decide +kernel)
theorem dX10_holds_65 : decode cX10_holds 65 = .ok (.ifCond .ne 16, 3) := dl_o154 kcX10_holds 16 (by decide +kernel) (by decide +kernel)
theorem dX10_holds_68 : decode cX10_holds 68 = .ok (.aload_n 0, 1) := dl_o42 kcX10_holds (by decide +kernel)
theorem dX10_holds_69 : decode cX10_holds 69 = .ok (.iload 4, 2) := dl_o21 kcX10_holds (by decide +kernel)
theorem dX10_holds_71 : decode cX10_holds 71 = .ok (.iload_n 1, 1) := dl_o27 kcX10_holds (by decide +kernel)
theorem dX10_holds_72 : decode cX10_holds 72 = .ok (.iload_n 2, 1) := dl_o28 kcX10_holds (by decide +kernel)
theorem dX10_holds_73 : decode cX10_holds 73 = .ok (.invokevirtual 97, 3) := dl_o182 kcX10_holds (by decide +kernel)
theorem dX10_holds_76 : decode cX10_holds 76 = .ok (.ifCond .eq 5, 3) := dl_o153 kcX10_holds 5 (by decide +kernel) (by decide +kernel)
theorem dX10_holds_79 : decode cX10_holds 79 = .ok (.iconst 1, 1) := dl_o4 kcX10_holds (by decide +kernel)
theorem dX10_holds_80 : decode cX10_holds 80 = .ok (.ireturn, 1) := dl_o172 kcX10_holds (by decide +kernel)
theorem dX10_holds_81 : decode cX10_holds 81 = .ok (.iinc 3 1, 3) := by decide +kernel
theorem dX10_holds_84 : decode cX10_holds 84 = .ok (.goto (-77), 3) := dl_o167 kcX10_holds 65459 (by decide +kernel) (by decide +kernel)
theorem dX10_holds_87 : decode cX10_holds 87 = .ok (.aload_n 0, 1) := dl_o42 kcX10_holds (by decide +kernel)
theorem dX10_holds_88 : decode cX10_holds 88 = .ok (.getfield 94, 3) := dl_o180 kcX10_holds (by decide +kernel)
theorem dX10_holds_91 : decode cX10_holds 91 = .ok (.ifCond .eq 7, 3) := dl_o153 kcX10_holds 7 (by decide +kernel) (by decide +kernel)
theorem dX10_holds_94 : decode cX10_holds 94 = .ok (.iconst 1, 1) := dl_o4 kcX10_holds (by decide +kernel)
theorem dX10_holds_95 : decode cX10_holds 95 = .ok (.goto 4, 3) := dl_o167 kcX10_holds 4 (by decide +kernel) (by decide +kernel)
theorem dX10_holds_98 : decode cX10_holds 98 = .ok (.iconst 0, 1) := dl_o3 kcX10_holds (by decide +kernel)
theorem dX10_holds_99 : decode cX10_holds 99 = .ok (.ireturn, 1) := dl_o172 kcX10_holds (by decide +kernel)
def B_X10_holds_81 (N : Nat) (k7 : Int32 → Int32 → Int32 → sv_V → Option (Int32 × sv_V)) (l1 : Int32) (l2 : Int32) (l3 : Int32) (V : sv_V) : Option (Int32 × sv_V) := sx_let (l3 + 1) (fun x1 => k7 l1 l2 x1 V)
set_option maxRecDepth 20000 in
theorem tB_X10_holds_81 {g : sx_G} (hG : sx_Go g) {P : Option Value → sv_V → Prop} {r : Int32} {Vr : sv_V} (hP : P (some (.int r)) Vr) {N : Nat} {k7 : Int32 → Int32 → Int32 → sv_V → Option (Int32 × sv_V)} (hk7 : ∀ (l1 : Int32) (l2 : Int32) (l3 : Int32) (V : sv_V), k7 l1 l2 l3 V = some (r, Vr) → sv_N g qX10_holds 3 7 [(0, .ref 60), (1, .int l1), (2, .int l2), (3, .int l3)] [] V P) {l1 : Int32} {l2 : Int32} {l3 : Int32} {V : sv_V} (h : B_X10_holds_81 N k7 l1 l2 l3 V = some (r, Vr)) : sv_N g qX10_holds 3 81 [(0, .ref 60), (1, .int l1), (2, .int l2), (3, .int l3)] [] V P := by
  unfold B_X10_holds_81 at h
  obtain ⟨x1, hx1⟩ : ∃ z : Int32, z = l3 + 1 := ⟨_, rfl⟩
  have h := sx_letE hx1 h
  refine sx_iinc (pc := 81) (v := x1) (lo' := [(3, .int x1), (0, .ref 60), (1, .int l1), (2, .int l2)]) dX10_holds_81 sx_m3 (by rw [hx1]; rfl) (by decide) rfl ?_
  refine sx_goto (pc := 84) (tgt := 7) dX10_holds_84 (by decide) ?_
  refine sx_wk (sx_s1 sx_m1 (sx_s1 sx_m2 (sx_s1 sx_m3 (sx_s1 sx_m0 sx_s0)))) ?_
  exact hk7 _ _ _ _ h
def B_X10_holds_61 (N : Nat) (k7 : Int32 → Int32 → Int32 → sv_V → Option (Int32 × sv_V)) (l1 : Int32) (l2 : Int32) (l3 : Int32) (l4 : Int32) (s0 : Int32) (V : sv_V) : Option (Int32 × sv_V) := if s0 = 0 then ((F_X10_meets l4 l1 l2 V).bind (fun (x5, V3) => if x5 = 0 then (B_X10_holds_81 N k7 l1 l2 l3 V3) else (some ((1 : Int32), V3)))) else (B_X10_holds_81 N k7 l1 l2 l3 V)
set_option maxRecDepth 20000 in
theorem tB_X10_holds_61 {g : sx_G} (hG : sx_Go g) {P : Option Value → sv_V → Prop} {r : Int32} {Vr : sv_V} (hP : P (some (.int r)) Vr) {N : Nat} {k7 : Int32 → Int32 → Int32 → sv_V → Option (Int32 × sv_V)} (hk7 : ∀ (l1 : Int32) (l2 : Int32) (l3 : Int32) (V : sv_V), k7 l1 l2 l3 V = some (r, Vr) → sv_N g qX10_holds 3 7 [(0, .ref 60), (1, .int l1), (2, .int l2), (3, .int l3)] [] V P) {l1 : Int32} {l2 : Int32} {l3 : Int32} {l4 : Int32} {s0 : Int32} {V : sv_V} (h : B_X10_holds_61 N k7 l1 l2 l3 l4 s0 V = some (r, Vr)) : sv_N g qX10_holds 3 61 [(0, .ref 60), (1, .int l1), (2, .int l2), (3, .int l3), (4, .int l4)] [.int s0] V P := by
  unfold B_X10_holds_61 at h
  refine sx_istore (pc := 61) (lo' := [(5, .int s0), (0, .ref 60), (1, .int l1), (2, .int l2), (3, .int l3), (4, .int l4)]) dX10_holds_61 (by decide) rfl ?_
  refine sx_iload (pc := 63) dX10_holds_63 sx_m0 ?_
  refine sx_if_ne (pc := 65) (tgt := 81) dX10_holds_65 (by decide) (fun c2 => ?_) (fun c2 => ?_)
  · have h := sx_neg c2 h
    refine sx_wk (sx_s1 sx_m1 (sx_s1 sx_m2 (sx_s1 sx_m3 (sx_s1 sx_m4 sx_s0)))) ?_
    exact tB_X10_holds_81 hG hP hk7 h
  · have h := sx_pos c2 h
    refine sx_aload_n (pc := 68) dX10_holds_68 sx_m1 ?_
    refine sx_iload (pc := 69) dX10_holds_69 sx_m5 ?_
    refine sx_iload_n (pc := 71) dX10_holds_71 sx_m2 ?_
    refine sx_iload_n (pc := 72) dX10_holds_72 sx_m3 ?_
    obtain ⟨⟨x5, V3⟩, g4, h⟩ := sx_bnd h
    refine sv_cV (pc := 73) (y := qX10_meets) (o := (some (.int x5))) (as := [.int l4, .int l1, .int l2]) (V1 := V3) hG dX10_holds_73 l_X10_97 y0X10_meets yvX10_meets rfl (Nat.le_of_ble_eq_true rfl) lay_60 kr_10 (by decide) (Nat.le_of_ble_eq_true rfl) rfl rfl rfl (t_X10_meets hG ⟨rfl, rfl⟩ g4) ?_
    refine sx_if_eq (pc := 76) (tgt := 81) dX10_holds_76 (by decide) (fun c6 => ?_) (fun c6 => ?_)
    · have h := sx_pos c6 h
      refine sx_wk (sx_s1 sx_m1 (sx_s1 sx_m2 (sx_s1 sx_m3 (sx_s1 sx_m4 sx_s0)))) ?_
      exact tB_X10_holds_81 hG hP hk7 h
    · have h := sx_neg c6 h
      refine sx_iconst (pc := 79) (v := 1) dX10_holds_79 (by decide) ?_
      exact sv_zret (pc := 80) dX10_holds_80 rfl rfl h hP
def B_X10_holds_60 (N : Nat) (k7 : Int32 → Int32 → Int32 → sv_V → Option (Int32 × sv_V)) (l1 : Int32) (l2 : Int32) (l3 : Int32) (l4 : Int32) (V : sv_V) : Option (Int32 × sv_V) := B_X10_holds_61 N k7 l1 l2 l3 l4 (0 : Int32) V
set_option maxRecDepth 20000 in
theorem tB_X10_holds_60 {g : sx_G} (hG : sx_Go g) {P : Option Value → sv_V → Prop} {r : Int32} {Vr : sv_V} (hP : P (some (.int r)) Vr) {N : Nat} {k7 : Int32 → Int32 → Int32 → sv_V → Option (Int32 × sv_V)} (hk7 : ∀ (l1 : Int32) (l2 : Int32) (l3 : Int32) (V : sv_V), k7 l1 l2 l3 V = some (r, Vr) → sv_N g qX10_holds 3 7 [(0, .ref 60), (1, .int l1), (2, .int l2), (3, .int l3)] [] V P) {l1 : Int32} {l2 : Int32} {l3 : Int32} {l4 : Int32} {V : sv_V} (h : B_X10_holds_60 N k7 l1 l2 l3 l4 V = some (r, Vr)) : sv_N g qX10_holds 3 60 [(0, .ref 60), (1, .int l1), (2, .int l2), (3, .int l3), (4, .int l4)] [] V P := by
  unfold B_X10_holds_60 at h
  refine sx_iconst (pc := 60) (v := 0) dX10_holds_60 (by decide) ?_
  refine sx_wk (sx_s1 sx_m0 (sx_s1 sx_m1 (sx_s1 sx_m2 (sx_s1 sx_m3 (sx_s1 sx_m4 sx_s0))))) ?_
  exact tB_X10_holds_61 hG hP hk7 h
def B_X10_holds_7 (N : Nat) (k7 : Int32 → Int32 → Int32 → sv_V → Option (Int32 × sv_V)) (l1 : Int32) (l2 : Int32) (l3 : Int32) (V : sv_V) : Option (Int32 × sv_V) := if (V.1 60 9) ≤ l3 then (if (V.1 60 10) = 0 then (some ((0 : Int32), V)) else (some ((1 : Int32), V))) else (if sx_in l3 100 = true then sx_let (V.1 68 l3.toNatClampNeg) (fun x10 => if sx_in x10 100 = true then if l1 ≤ (V.1 61 x10.toNatClampNeg) then (B_X10_holds_60 N k7 l1 l2 l3 x10 V) else (if sx_in x10 100 = true then if l1 ≤ (V.1 63 x10.toNatClampNeg) then (B_X10_holds_60 N k7 l1 l2 l3 x10 V) else (if sx_in x10 100 = true then if l1 ≤ (V.1 65 x10.toNatClampNeg) then (B_X10_holds_60 N k7 l1 l2 l3 x10 V) else (B_X10_holds_61 N k7 l1 l2 l3 x10 (1 : Int32) V) else none) else none) else none) else none)
set_option maxRecDepth 20000 in
theorem tB_X10_holds_7 {g : sx_G} (hG : sx_Go g) {P : Option Value → sv_V → Prop} {r : Int32} {Vr : sv_V} (hP : P (some (.int r)) Vr) {N : Nat} {k7 : Int32 → Int32 → Int32 → sv_V → Option (Int32 × sv_V)} (hk7 : ∀ (l1 : Int32) (l2 : Int32) (l3 : Int32) (V : sv_V), k7 l1 l2 l3 V = some (r, Vr) → sv_N g qX10_holds 3 7 [(0, .ref 60), (1, .int l1), (2, .int l2), (3, .int l3)] [] V P) {l1 : Int32} {l2 : Int32} {l3 : Int32} {V : sv_V} (h : B_X10_holds_7 N k7 l1 l2 l3 V = some (r, Vr)) : sv_N g qX10_holds 3 7 [(0, .ref 60), (1, .int l1), (2, .int l2), (3, .int l3)] [] V P := by
  unfold B_X10_holds_7 at h
  refine sx_iload_n (pc := 7) dX10_holds_7 sx_m3 ?_
  refine sx_aload_n (pc := 8) dX10_holds_8 sx_m0 ?_
  refine sv_getI (pc := 9) hG dX10_holds_9 f_10_91 lay_60 rfl ?_
  refine sx_icmp_ge (pc := 12) (tgt := 87) dX10_holds_12 (by decide) (fun c7 => ?_) (fun c7 => ?_)
  · have h := sx_pos c7 h
    refine sx_aload_n (pc := 87) dX10_holds_87 sx_m0 ?_
    refine sv_getI (pc := 88) hG dX10_holds_88 f_10_94 lay_60 rfl ?_
    refine sx_if_eq (pc := 91) (tgt := 98) dX10_holds_91 (by decide) (fun c8 => ?_) (fun c8 => ?_)
    · have h := sx_pos c8 h
      refine sx_iconst (pc := 98) (v := 0) dX10_holds_98 (by decide) ?_
      exact sv_zret (pc := 99) dX10_holds_99 rfl rfl h hP
    · have h := sx_neg c8 h
      refine sx_iconst (pc := 94) (v := 1) dX10_holds_94 (by decide) ?_
      refine sx_goto (pc := 95) (tgt := 99) dX10_holds_95 (by decide) ?_
      exact sv_zret (pc := 99) dX10_holds_99 rfl rfl h hP
  · have h := sx_neg c7 h
    refine sx_aload_n (pc := 15) dX10_holds_15 sx_m0 ?_
    refine sv_getA (pc := 16) hG dX10_holds_16 f_10_34 lay_60 rfl cr_60_8 ?_
    refine sx_iload_n (pc := 19) dX10_holds_19 sx_m3 ?_
    obtain ⟨g9, h⟩ := sx_grd h
    refine sv_iald (pc := 20) hG dX10_holds_20 lay_68 g9 ?_
    refine sv_tI (fun x10 hx10 => ?_)
    have h := sx_letE hx10 h
    refine sx_istore (pc := 21) (lo' := [(4, .int x10), (0, .ref 60), (1, .int l1), (2, .int l2), (3, .int l3)]) dX10_holds_21 (by decide) rfl ?_
    refine sx_aload_n (pc := 23) dX10_holds_23 sx_m1 ?_
    refine sv_getA (pc := 24) hG dX10_holds_24 f_10_9 lay_60 rfl cr_60_0 ?_
    refine sx_iload (pc := 27) dX10_holds_27 sx_m0 ?_
    obtain ⟨g11, h⟩ := sx_grd h
    refine sv_iald (pc := 29) hG dX10_holds_29 lay_61 g11 ?_
    refine sx_iload_n (pc := 30) dX10_holds_30 sx_m2 ?_
    refine sx_icmp_ge (pc := 31) (tgt := 60) dX10_holds_31 (by decide) (fun c12 => ?_) (fun c12 => ?_)
    · have h := sx_pos c12 h
      refine sx_wk (sx_s1 sx_m1 (sx_s1 sx_m2 (sx_s1 sx_m3 (sx_s1 sx_m4 (sx_s1 sx_m0 sx_s0))))) ?_
      exact tB_X10_holds_60 hG hP hk7 h
    · have h := sx_neg c12 h
      refine sx_aload_n (pc := 34) dX10_holds_34 sx_m1 ?_
      refine sv_getA (pc := 35) hG dX10_holds_35 f_10_18 lay_60 rfl cr_60_2 ?_
      refine sx_iload (pc := 38) dX10_holds_38 sx_m0 ?_
      obtain ⟨g13, h⟩ := sx_grd h
      refine sv_iald (pc := 40) hG dX10_holds_40 lay_63 g13 ?_
      refine sx_iload_n (pc := 41) dX10_holds_41 sx_m2 ?_
      refine sx_icmp_ge (pc := 42) (tgt := 60) dX10_holds_42 (by decide) (fun c14 => ?_) (fun c14 => ?_)
      · have h := sx_pos c14 h
        refine sx_wk (sx_s1 sx_m1 (sx_s1 sx_m2 (sx_s1 sx_m3 (sx_s1 sx_m4 (sx_s1 sx_m0 sx_s0))))) ?_
        exact tB_X10_holds_60 hG hP hk7 h
      · have h := sx_neg c14 h
        refine sx_aload_n (pc := 45) dX10_holds_45 sx_m1 ?_
        refine sv_getA (pc := 46) hG dX10_holds_46 f_10_24 lay_60 rfl cr_60_4 ?_
        refine sx_iload (pc := 49) dX10_holds_49 sx_m0 ?_
        obtain ⟨g15, h⟩ := sx_grd h
        refine sv_iald (pc := 51) hG dX10_holds_51 lay_65 g15 ?_
        refine sx_iload_n (pc := 52) dX10_holds_52 sx_m2 ?_
        refine sx_icmp_ge (pc := 53) (tgt := 60) dX10_holds_53 (by decide) (fun c16 => ?_) (fun c16 => ?_)
        · have h := sx_pos c16 h
          refine sx_wk (sx_s1 sx_m1 (sx_s1 sx_m2 (sx_s1 sx_m3 (sx_s1 sx_m4 (sx_s1 sx_m0 sx_s0))))) ?_
          exact tB_X10_holds_60 hG hP hk7 h
        · have h := sx_neg c16 h
          refine sx_iconst (pc := 56) (v := 1) dX10_holds_56 (by decide) ?_
          refine sx_goto (pc := 57) (tgt := 61) dX10_holds_57 (by decide) ?_
          refine sx_wk (sx_s1 sx_m1 (sx_s1 sx_m2 (sx_s1 sx_m3 (sx_s1 sx_m4 (sx_s1 sx_m0 sx_s0))))) ?_
          exact tB_X10_holds_61 hG hP hk7 h
theorem tL_X10_holds_7 {g : sx_G} (hG : sx_Go g) {P : Option Value → sv_V → Prop} {r : Int32} {Vr : sv_V} (hP : P (some (.int r)) Vr) {N : Nat}   : ∀ (n : Nat) (l1 : Int32) (l2 : Int32) (l3 : Int32) (V : sv_V), sx_lp4 (B_X10_holds_7 N ) n l1 l2 l3 V = some (r, Vr) → sv_N g qX10_holds 3 7 [(0, .ref 60), (1, .int l1), (2, .int l2), (3, .int l3)] [] V P :=
  sx_lp4_ind (fun k0 ih _ _ _ V h => tB_X10_holds_7 hG hP ih h)
def F_X10_holds (N : Nat) (l1 : Int32) (l2 : Int32) (V : sv_V) : Option (Int32 × sv_V) := sx_let (sv_I V 60 10 (0 : Int32)) (fun V17 => sx_lp4 (B_X10_holds_7 N ) N l1 l2 (0 : Int32) V17)
set_option maxRecDepth 20000 in
theorem t_X10_holds {g : sx_G} (hG : sx_Go g) {P : Option Value → sv_V → Prop} {r : Int32} {Vr : sv_V} (hP : P (some (.int r)) Vr) {N : Nat} {l1 : Int32} {l2 : Int32} {V : sv_V} (h : F_X10_holds N l1 l2 V = some (r, Vr)) : sv_N g qX10_holds 3 0 [(0, .ref 60), (1, .int l1), (2, .int l2)] [] V P := by
  unfold F_X10_holds at h
  refine sx_aload_n (pc := 0) dX10_holds_0 sx_m0 ?_
  refine sx_iconst (pc := 1) (v := 0) dX10_holds_1 (by decide) ?_
  obtain ⟨V17, hV17⟩ : ∃ z : sv_V, z = sv_I V 60 10 (0 : Int32) := ⟨_, rfl⟩
  have h := sx_letE hV17 h
  refine sv_putI (pc := 2) hG dX10_holds_2 f_10_94 lay_60 rfl hV17 ?_
  refine sx_iconst (pc := 5) (v := 0) dX10_holds_5 (by decide) ?_
  refine sx_istore_n (pc := 6) (lo' := [(3, .int (0 : Int32)), (0, .ref 60), (1, .int l1), (2, .int l2)]) dX10_holds_6 (by decide) rfl ?_
  refine sx_wk (sx_s1 sx_m1 (sx_s1 sx_m2 (sx_s1 sx_m3 (sx_s1 sx_m0 sx_s0)))) ?_
  exact tL_X10_holds_7 hG hP  N _ _ _ _ h
def ncX11_glyphOf : Nat := 1308550735115527809298014092106079396544292687404913035754775686874278963595731579946
theorem kcX11_glyphOf : CK cX11_glyphOf ncX11_glyphOf 35 := ⟨by decide +kernel, by decide +kernel⟩
theorem dX11_glyphOf_0 : decode cX11_glyphOf 0 = .ok (.aload_n 0, 1) := dl_o42 kcX11_glyphOf (by decide +kernel)
theorem dX11_glyphOf_1 : decode cX11_glyphOf 1 = .ok (.getfield 16, 3) := dl_o180 kcX11_glyphOf (by decide +kernel)
theorem dX11_glyphOf_4 : decode cX11_glyphOf 4 = .ok (.getfield 67, 3) := dl_o180 kcX11_glyphOf (by decide +kernel)
theorem dX11_glyphOf_7 : decode cX11_glyphOf 7 = .ok (.ifCond .ne 6, 3) := dl_o154 kcX11_glyphOf 6 (by decide +kernel) (by decide +kernel)
theorem dX11_glyphOf_10 : decode cX11_glyphOf 10 = .ok (.bipush (-3), 2) := dl_o16 kcX11_glyphOf 253 (by decide +kernel) (by decide +kernel)
theorem dX11_glyphOf_12 : decode cX11_glyphOf 12 = .ok (.ireturn, 1) := dl_o172 kcX11_glyphOf (by decide +kernel)
theorem dX11_glyphOf_13 : decode cX11_glyphOf 13 = .ok (.iload_n 1, 1) := dl_o27 kcX11_glyphOf (by decide +kernel)
theorem dX11_glyphOf_14 : decode cX11_glyphOf 14 = .ok (.ifCond .lt 9, 3) := dl_o155 kcX11_glyphOf 9 (by decide +kernel) (by decide +kernel)
theorem dX11_glyphOf_17 : decode cX11_glyphOf 17 = .ok (.iload_n 1, 1) := dl_o27 kcX11_glyphOf (by decide +kernel)
theorem dX11_glyphOf_18 : decode cX11_glyphOf 18 = .ok (.ldc 111, 2) := dl_o18 kcX11_glyphOf (by decide +kernel)
theorem dX11_glyphOf_20 : decode cX11_glyphOf 20 = .ok (.if_icmp .le 6, 3) := dl_o164 kcX11_glyphOf 6 (by decide +kernel) (by decide +kernel)
theorem dX11_glyphOf_23 : decode cX11_glyphOf 23 = .ok (.bipush (-2), 2) := dl_o16 kcX11_glyphOf 254 (by decide +kernel) (by decide +kernel)
theorem dX11_glyphOf_25 : decode cX11_glyphOf 25 = .ok (.ireturn, 1) := dl_o172 kcX11_glyphOf (by decide +kernel)
theorem dX11_glyphOf_26 : decode cX11_glyphOf 26 = .ok (.aload_n 0, 1) := dl_o42 kcX11_glyphOf (by decide +kernel)
theorem dX11_glyphOf_27 : decode cX11_glyphOf 27 = .ok (.getfield 16, 3) := dl_o180 kcX11_glyphOf (by decide +kernel)
theorem dX11_glyphOf_30 : decode cX11_glyphOf 30 = .ok (.iload_n 1, 1) := dl_o27 kcX11_glyphOf (by decide +kernel)
theorem dX11_glyphOf_31 : decode cX11_glyphOf 31 = .ok (.invokevirtual 112, 3) := dl_o182 kcX11_glyphOf (by decide +kernel)
theorem dX11_glyphOf_34 : decode cX11_glyphOf 34 = .ok (.ireturn, 1) := dl_o172 kcX11_glyphOf (by decide +kernel)
def F_X11_glyphOf (N : Nat) (l1 : Int32) (V : sv_V) : Option (Int32 × sv_V) := if (V.1 2 2) = 0 then (some ((-3 : Int32), V)) else (if l1 < 0 then (some ((-2 : Int32), V)) else (if l1 ≤ (1114111 : Int32) then ((F_X2_findGlyph N l1 V).bind (fun (x6, V4) => some (x6, V4))) else (some ((-2 : Int32), V))))
set_option maxRecDepth 20000 in
theorem t_X11_glyphOf {g : sx_G} (hG : sx_Go g) {P : Option Value → sv_V → Prop} {r : Int32} {Vr : sv_V} (hP : P (some (.int r)) Vr) {N : Nat} {l1 : Int32} {V : sv_V} (h : F_X11_glyphOf N l1 V = some (r, Vr)) : sv_N g qX11_glyphOf 4 0 [(0, .ref 0), (1, .int l1)] [] V P := by
  unfold F_X11_glyphOf at h
  refine sx_aload_n (pc := 0) dX11_glyphOf_0 sx_m0 ?_
  refine sv_getO (pc := 1) hG dX11_glyphOf_1 f_11_16 lay_0 rfl cr_0_2 ?_
  refine sv_getZ (pc := 4) hG dX11_glyphOf_4 f_11_67 lay_2 rfl ?_
  refine sx_if_ne (pc := 7) (tgt := 13) dX11_glyphOf_7 (by decide) (fun c1 => ?_) (fun c1 => ?_)
  · have h := sx_neg c1 h
    refine sx_iload_n (pc := 13) dX11_glyphOf_13 sx_m1 ?_
    refine sx_if_lt (pc := 14) (tgt := 23) dX11_glyphOf_14 (by decide) (fun c2 => ?_) (fun c2 => ?_)
    · have h := sx_pos c2 h
      refine sx_bipush (pc := 23) (v := (-2)) dX11_glyphOf_23 (by decide) ?_
      exact sv_iret (pc := 25) dX11_glyphOf_25 rfl h hP
    · have h := sx_neg c2 h
      refine sx_iload_n (pc := 17) dX11_glyphOf_17 sx_m1 ?_
      refine sx_ldc (pc := 18) dX11_glyphOf_18 k_X11_111 ?_
      refine sx_icmp_le (pc := 20) (tgt := 26) dX11_glyphOf_20 (by decide) (fun c3 => ?_) (fun c3 => ?_)
      · have h := sx_pos c3 h
        refine sx_aload_n (pc := 26) dX11_glyphOf_26 sx_m0 ?_
        refine sv_getO (pc := 27) hG dX11_glyphOf_27 f_11_16 lay_0 rfl cr_0_2 ?_
        refine sx_iload_n (pc := 30) dX11_glyphOf_30 sx_m1 ?_
        obtain ⟨⟨x6, V4⟩, g5, h⟩ := sx_bnd h
        refine sv_cV (pc := 31) (y := qX2_findGlyph) (o := (some (.int x6))) (as := [.int l1]) (V1 := V4) hG dX11_glyphOf_31 l_X11_112 y0X2_findGlyph yvX2_findGlyph rfl (Nat.le_of_ble_eq_true rfl) lay_2 kr_2 (by decide) (Nat.le_of_ble_eq_true rfl) rfl rfl rfl (t_X2_findGlyph hG ⟨rfl, rfl⟩ g5) ?_
        exact sv_iret (pc := 34) dX11_glyphOf_34 rfl h hP
      · have h := sx_neg c3 h
        refine sx_bipush (pc := 23) (v := (-2)) dX11_glyphOf_23 (by decide) ?_
        exact sv_iret (pc := 25) dX11_glyphOf_25 rfl h hP
  · have h := sx_pos c1 h
    refine sx_bipush (pc := 10) (v := (-3)) dX11_glyphOf_10 (by decide) ?_
    exact sv_iret (pc := 12) dX11_glyphOf_12 rfl h hP
end
section
/-! methods: X11_isIn, X12_over, X12_isGlyph, X12_areWithin, X12_by, X12_longOf, X12_between, X12_originally, X12_shiftBy, X12_move, X12_scaled, X12_stacks, X12_setCvt -/
def ncX11_isIn : Nat := 713765558410794362123991174423522996823730811293963774011432606715176709702735111339381428072454940695288484510457901526203860998476334654898529869843833291703801866700747456049624106
theorem kcX11_isIn : CK cX11_isIn ncX11_isIn 76 := ⟨by decide +kernel, by decide +kernel⟩
theorem dX11_isIn_0 : decode cX11_isIn 0 = .ok (.aload_n 0, 1) := dl_o42 kcX11_isIn (by decide +kernel)
theorem dX11_isIn_1 : decode cX11_isIn 1 = .ok (.getfield 37, 3) := dl_o180 kcX11_isIn (by decide +kernel)
theorem dX11_isIn_4 : decode cX11_isIn 4 = .ok (.getfield 147, 3) := dl_o180 kcX11_isIn (by decide +kernel)
theorem dX11_isIn_7 : decode cX11_isIn 7 = .ok (.ifCond .ne 6, 3) := dl_o154 kcX11_isIn 6 (by decide +kernel) (by decide +kernel)
theorem dX11_isIn_10 : decode cX11_isIn 10 = .ok (.bipush (-3), 2) := dl_o16 kcX11_isIn 253 (by decide +kernel) (by decide +kernel)
theorem dX11_isIn_12 : decode cX11_isIn 12 = .ok (.ireturn, 1) := dl_o172 kcX11_isIn (by decide +kernel)
theorem dX11_isIn_13 : decode cX11_isIn 13 = .ok (.iload_n 1, 1) := dl_o27 kcX11_isIn (by decide +kernel)
theorem dX11_isIn_14 : decode cX11_isIn 14 = .ok (.i2l, 1) := dl_o133 kcX11_isIn (by decide +kernel)
theorem dX11_isIn_15 : decode cX11_isIn 15 = .ok (.sipush 5000, 3) := dl_o17 kcX11_isIn 5000 (by decide +kernel) (by decide +kernel)
theorem dX11_isIn_18 : decode cX11_isIn 18 = .ok (.invokestatic 225, 3) := dl_o184 kcX11_isIn (by decide +kernel)
theorem dX11_isIn_21 : decode cX11_isIn 21 = .ok (.ifCond .ne 14, 3) := dl_o154 kcX11_isIn 14 (by decide +kernel) (by decide +kernel)
theorem dX11_isIn_24 : decode cX11_isIn 24 = .ok (.iload_n 2, 1) := dl_o28 kcX11_isIn (by decide +kernel)
theorem dX11_isIn_25 : decode cX11_isIn 25 = .ok (.i2l, 1) := dl_o133 kcX11_isIn (by decide +kernel)
theorem dX11_isIn_26 : decode cX11_isIn 26 = .ok (.sipush 5000, 3) := dl_o17 kcX11_isIn 5000 (by decide +kernel) (by decide +kernel)
theorem dX11_isIn_29 : decode cX11_isIn 29 = .ok (.invokestatic 225, 3) := dl_o184 kcX11_isIn (by decide +kernel)
theorem dX11_isIn_32 : decode cX11_isIn 32 = .ok (.ifCond .eq 6, 3) := dl_o153 kcX11_isIn 6 (by decide +kernel) (by decide +kernel)
theorem dX11_isIn_35 : decode cX11_isIn 35 = .ok (.bipush (-2), 2) := dl_o16 kcX11_isIn 254 (by decide +kernel) (by decide +kernel)
theorem dX11_isIn_37 : decode cX11_isIn 37 = .ok (.ireturn, 1) := dl_o172 kcX11_isIn (by decide +kernel)
theorem dX11_isIn_38 : decode cX11_isIn 38 = .ok (.aload_n 0, 1) := dl_o42 kcX11_isIn (by decide +kernel)
theorem dX11_isIn_39 : decode cX11_isIn 39 = .ok (.getfield 37, 3) := dl_o180 kcX11_isIn (by decide +kernel)
theorem dX11_isIn_42 : decode cX11_isIn 42 = .ok (.getfield 229, 3) := dl_o180 kcX11_isIn (by decide +kernel)
theorem dX11_isIn_45 : decode cX11_isIn 45 = .ok (.iconst 2, 1) := dl_o5 kcX11_isIn (by decide +kernel)
theorem dX11_isIn_46 : decode cX11_isIn 46 = .ok (.iload_n 2, 1) := dl_o28 kcX11_isIn (by decide +kernel)
theorem dX11_isIn_47 : decode cX11_isIn 47 = .ok (.imul, 1) := dl_o104 kcX11_isIn (by decide +kernel)
theorem dX11_isIn_48 : decode cX11_isIn 48 = .ok (.invokevirtual 233, 3) := dl_o182 kcX11_isIn (by decide +kernel)
theorem dX11_isIn_51 : decode cX11_isIn 51 = .ok (.aload_n 0, 1) := dl_o42 kcX11_isIn (by decide +kernel)
theorem dX11_isIn_52 : decode cX11_isIn 52 = .ok (.getfield 37, 3) := dl_o180 kcX11_isIn (by decide +kernel)
theorem dX11_isIn_55 : decode cX11_isIn 55 = .ok (.getfield 229, 3) := dl_o180 kcX11_isIn (by decide +kernel)
theorem dX11_isIn_58 : decode cX11_isIn 58 = .ok (.iconst 2, 1) := dl_o5 kcX11_isIn (by decide +kernel)
theorem dX11_isIn_59 : decode cX11_isIn 59 = .ok (.iload_n 1, 1) := dl_o27 kcX11_isIn (by decide +kernel)
theorem dX11_isIn_60 : decode cX11_isIn 60 = .ok (.imul, 1) := dl_o104 kcX11_isIn (by decide +kernel)
theorem dX11_isIn_61 : decode cX11_isIn 61 = .ok (.iconst 2, 1) := dl_o5 kcX11_isIn (by decide +kernel)
theorem dX11_isIn_62 : decode cX11_isIn 62 = .ok (.iload_n 2, 1) := dl_o28 kcX11_isIn (by decide +kernel)
theorem dX11_isIn_63 : decode cX11_isIn 63 = .ok (.imul, 1) := dl_o104 kcX11_isIn (by decide +kernel)
theorem dX11_isIn_64 : decode cX11_isIn 64 = .ok (.invokevirtual 239, 3) := dl_o182 kcX11_isIn (by decide +kernel)
theorem dX11_isIn_67 : decode cX11_isIn 67 = .ok (.ifCond .eq 7, 3) := dl_o153 kcX11_isIn 7 (by decide +kernel) (by decide +kernel)
theorem dX11_isIn_70 : decode cX11_isIn 70 = .ok (.iconst 1, 1) := dl_o4 kcX11_isIn (by decide +kernel)
theorem dX11_isIn_71 : decode cX11_isIn 71 = .ok (.goto 4, 3) := dl_o167 kcX11_isIn 4 (by decide +kernel) (by decide +kernel)
theorem dX11_isIn_74 : decode cX11_isIn 74 = .ok (.iconst 0, 1) := dl_o3 kcX11_isIn (by decide +kernel)
theorem dX11_isIn_75 : decode cX11_isIn 75 = .ok (.ireturn, 1) := dl_o172 kcX11_isIn (by decide +kernel)
def F_X11_isIn (N : Nat) (l1 : Int32) (l2 : Int32) (V : sv_V) : Option (Int32 × sv_V) := if (V.1 30 8) = 0 then (some ((-3 : Int32), V)) else ((F_X11_isBeyond l1.toInt64 (5000 : Int32) V).bind (fun (x4, V2) => if x4 = 0 then ((F_X11_isBeyond l2.toInt64 (5000 : Int32) V2).bind (fun (x8, V6) => if x8 = 0 then ((F_X10_chooseRow N ((2 : Int32) * l2) V6).bind (fun V10 => (F_X10_holds N ((2 : Int32) * l1) ((2 : Int32) * l2) V10).bind (fun (x14, V12) => if x14 = 0 then (some ((0 : Int32), V12)) else (some ((1 : Int32), V12))))) else (some ((-2 : Int32), V6)))) else (some ((-2 : Int32), V2))))
set_option maxRecDepth 20000 in
theorem t_X11_isIn {g : sx_G} (hG : sx_Go g) {P : Option Value → sv_V → Prop} {r : Int32} {Vr : sv_V} (hP : P (some (.int r)) Vr) {N : Nat} {l1 : Int32} {l2 : Int32} {V : sv_V} (h : F_X11_isIn N l1 l2 V = some (r, Vr)) : sv_N g qX11_isIn 4 0 [(0, .ref 0), (1, .int l1), (2, .int l2)] [] V P := by
  unfold F_X11_isIn at h
  refine sx_aload_n (pc := 0) dX11_isIn_0 sx_m0 ?_
  refine sv_getO (pc := 1) hG dX11_isIn_1 f_11_37 lay_0 rfl cr_0_4 ?_
  refine sv_getZ (pc := 4) hG dX11_isIn_4 f_11_147 lay_30 rfl ?_
  refine sx_if_ne (pc := 7) (tgt := 13) dX11_isIn_7 (by decide) (fun c1 => ?_) (fun c1 => ?_)
  · have h := sx_neg c1 h
    refine sx_iload_n (pc := 13) dX11_isIn_13 sx_m1 ?_
    refine sx_i2l (pc := 14) dX11_isIn_14 ?_
    refine sx_sipush (pc := 15) (v := 5000) dX11_isIn_15 (by decide) ?_
    obtain ⟨⟨x4, V2⟩, g3, h⟩ := sx_bnd h
    refine sv_cS (pc := 18) (y := qX11_isBeyond) (o := (some (.int x4))) (as := [.long l1.toInt64, .int (5000 : Int32)]) (V1 := V2) dX11_isIn_18 l_X11_225 y0X11_isBeyond ysX11_isBeyond rfl (Nat.le_of_ble_eq_true rfl) (by decide) (Nat.le_of_ble_eq_true rfl) rfl rfl rfl (t_X11_isBeyond hG ⟨rfl, rfl⟩ g3) ?_
    refine sx_if_ne (pc := 21) (tgt := 35) dX11_isIn_21 (by decide) (fun c5 => ?_) (fun c5 => ?_)
    · have h := sx_neg c5 h
      refine sx_bipush (pc := 35) (v := (-2)) dX11_isIn_35 (by decide) ?_
      exact sv_iret (pc := 37) dX11_isIn_37 rfl h hP
    · have h := sx_pos c5 h
      refine sx_iload_n (pc := 24) dX11_isIn_24 sx_m2 ?_
      refine sx_i2l (pc := 25) dX11_isIn_25 ?_
      refine sx_sipush (pc := 26) (v := 5000) dX11_isIn_26 (by decide) ?_
      obtain ⟨⟨x8, V6⟩, g7, h⟩ := sx_bnd h
      refine sv_cS (pc := 29) (y := qX11_isBeyond) (o := (some (.int x8))) (as := [.long l2.toInt64, .int (5000 : Int32)]) (V1 := V6) dX11_isIn_29 l_X11_225 y0X11_isBeyond ysX11_isBeyond rfl (Nat.le_of_ble_eq_true rfl) (by decide) (Nat.le_of_ble_eq_true rfl) rfl rfl rfl (t_X11_isBeyond hG ⟨rfl, rfl⟩ g7) ?_
      refine sx_if_eq (pc := 32) (tgt := 38) dX11_isIn_32 (by decide) (fun c9 => ?_) (fun c9 => ?_)
      · have h := sx_pos c9 h
        refine sx_aload_n (pc := 38) dX11_isIn_38 sx_m0 ?_
        refine sv_getO (pc := 39) hG dX11_isIn_39 f_11_37 lay_0 rfl cr_0_4 ?_
        refine sv_getO (pc := 42) hG dX11_isIn_42 f_11_229 lay_30 rfl cr_30_6 ?_
        refine sx_iconst (pc := 45) (v := 2) dX11_isIn_45 (by decide) ?_
        refine sx_iload_n (pc := 46) dX11_isIn_46 sx_m2 ?_
        refine sx_imul (pc := 47) dX11_isIn_47 ?_
        obtain ⟨V10, g11, h⟩ := sx_bnd h
        refine sv_cV (pc := 48) (y := qX10_chooseRow) (o := none) (as := [.int ((2 : Int32) * l2)]) (V1 := V10) hG dX11_isIn_48 l_X11_233 y0X10_chooseRow yvX10_chooseRow rfl (Nat.le_of_ble_eq_true rfl) lay_60 kr_10 (by decide) (Nat.le_of_ble_eq_true rfl) rfl rfl rfl (t_X10_chooseRow hG ⟨rfl, rfl⟩ g11) ?_
        refine sx_aload_n (pc := 51) dX11_isIn_51 sx_m0 ?_
        refine sv_getO (pc := 52) hG dX11_isIn_52 f_11_37 lay_0 rfl cr_0_4 ?_
        refine sv_getO (pc := 55) hG dX11_isIn_55 f_11_229 lay_30 rfl cr_30_6 ?_
        refine sx_iconst (pc := 58) (v := 2) dX11_isIn_58 (by decide) ?_
        refine sx_iload_n (pc := 59) dX11_isIn_59 sx_m1 ?_
        refine sx_imul (pc := 60) dX11_isIn_60 ?_
        refine sx_iconst (pc := 61) (v := 2) dX11_isIn_61 (by decide) ?_
        refine sx_iload_n (pc := 62) dX11_isIn_62 sx_m2 ?_
        refine sx_imul (pc := 63) dX11_isIn_63 ?_
        obtain ⟨⟨x14, V12⟩, g13, h⟩ := sx_bnd h
        refine sv_cV (pc := 64) (y := qX10_holds) (o := (some (.int x14))) (as := [.int ((2 : Int32) * l1), .int ((2 : Int32) * l2)]) (V1 := V12) hG dX11_isIn_64 l_X11_239 y0X10_holds yvX10_holds rfl (Nat.le_of_ble_eq_true rfl) lay_60 kr_10 (by decide) (Nat.le_of_ble_eq_true rfl) rfl rfl rfl (t_X10_holds hG ⟨rfl, rfl⟩ g13) ?_
        refine sx_if_eq (pc := 67) (tgt := 74) dX11_isIn_67 (by decide) (fun c15 => ?_) (fun c15 => ?_)
        · have h := sx_pos c15 h
          refine sx_iconst (pc := 74) (v := 0) dX11_isIn_74 (by decide) ?_
          exact sv_iret (pc := 75) dX11_isIn_75 rfl h hP
        · have h := sx_neg c15 h
          refine sx_iconst (pc := 70) (v := 1) dX11_isIn_70 (by decide) ?_
          refine sx_goto (pc := 71) (tgt := 75) dX11_isIn_71 (by decide) ?_
          exact sv_iret (pc := 75) dX11_isIn_75 rfl h hP
      · have h := sx_neg c9 h
        refine sx_bipush (pc := 35) (v := (-2)) dX11_isIn_35 (by decide) ?_
        exact sv_iret (pc := 37) dX11_isIn_37 rfl h hP
  · have h := sx_pos c1 h
    refine sx_bipush (pc := 10) (v := (-3)) dX11_isIn_10 (by decide) ?_
    exact sv_iret (pc := 12) dX11_isIn_12 rfl h hP
def ncX12_over : Nat := 191048747327518
theorem kcX12_over : CK cX12_over ncX12_over 6 := ⟨by decide +kernel, by decide +kernel⟩
theorem dX12_over_0 : decode cX12_over 0 = .ok (.lload_n 0, 1) := dl_o30 kcX12_over (by decide +kernel)
theorem dX12_over_1 : decode cX12_over 1 = .ok (.lload_n 2, 1) := dl_o32 kcX12_over (by decide +kernel)
theorem dX12_over_2 : decode cX12_over 2 = .ok (.invokestatic 194, 3) := dl_o184 kcX12_over (by decide +kernel)
theorem dX12_over_5 : decode cX12_over 5 = .ok (.lreturn, 1) := dl_o173 kcX12_over (by decide +kernel)
def F_X12_over (l0 : Int64) (l2 : Int64) (V : sv_V) : Option (Int64 × sv_V) := (F_X12_nearest l0 l2 V).bind (fun (x3, V1) => some (x3, V1))
set_option maxRecDepth 20000 in
theorem t_X12_over {g : sx_G} (hG : sx_Go g) {P : Option Value → sv_V → Prop} {r : Int64} {Vr : sv_V} (hP : P (some (.long r)) Vr) {l0 : Int64} {l2 : Int64} {V : sv_V} (h : F_X12_over l0 l2 V = some (r, Vr)) : sv_N g qX12_over 2 0 [(0, .long l0), (2, .long l2)] [] V P := by
  unfold F_X12_over at h
  refine sx_lload_n (pc := 0) dX12_over_0 sx_m0 ?_
  refine sx_lload_n (pc := 1) dX12_over_1 sx_m1 ?_
  obtain ⟨⟨x3, V1⟩, g2, h⟩ := sx_bnd h
  refine sv_cS (pc := 2) (y := qX12_nearest) (o := (some (.long x3))) (as := [.long l0, .long l2]) (V1 := V1) dX12_over_2 l_X12_194 y0X12_nearest ysX12_nearest rfl (Nat.le_of_ble_eq_true rfl) (by decide) (Nat.le_of_ble_eq_true rfl) rfl rfl rfl (t_X12_nearest hG ⟨rfl, rfl⟩ g2) ?_
  exact sv_lret (pc := 5) dX12_over_5 rfl h hP
def ncX12_isGlyph : Nat := 182723982953163356703713623319068074396789784202891229475444150460066456016308105259581953732239658594339830365089809267212288803850122727687848356317760178432346352432476809654785415978
theorem kcX12_isGlyph : CK cX12_isGlyph ncX12_isGlyph 77 := ⟨by decide +kernel, by decide +kernel⟩
theorem dX12_isGlyph_0 : decode cX12_isGlyph 0 = .ok (.aload_n 0, 1) := dl_o42 kcX12_isGlyph (by decide +kernel)
theorem dX12_isGlyph_1 : decode cX12_isGlyph 1 = .ok (.iload_n 1, 1) := dl_o27 kcX12_isGlyph (by decide +kernel)
theorem dX12_isGlyph_2 : decode cX12_isGlyph 2 = .ok (.invokevirtual 363, 3) := dl_o182 kcX12_isGlyph (by decide +kernel)
theorem dX12_isGlyph_5 : decode cX12_isGlyph 5 = .ok (.aload_n 0, 1) := dl_o42 kcX12_isGlyph (by decide +kernel)
theorem dX12_isGlyph_6 : decode cX12_isGlyph 6 = .ok (.getfield 342, 3) := dl_o180 kcX12_isGlyph (by decide +kernel)
theorem dX12_isGlyph_9 : decode cX12_isGlyph 9 = .ok (.aload_n 0, 1) := dl_o42 kcX12_isGlyph (by decide +kernel)
theorem dX12_isGlyph_10 : decode cX12_isGlyph 10 = .ok (.getfield 345, 3) := dl_o180 kcX12_isGlyph (by decide +kernel)
theorem dX12_isGlyph_13 : decode cX12_isGlyph 13 = .ok (.if_icmp .ne 5, 3) := dl_o160 kcX12_isGlyph 5 (by decide +kernel) (by decide +kernel)
theorem dX12_isGlyph_16 : decode cX12_isGlyph 16 = .ok (.iconst 1, 1) := dl_o4 kcX12_isGlyph (by decide +kernel)
theorem dX12_isGlyph_17 : decode cX12_isGlyph 17 = .ok (.ireturn, 1) := dl_o172 kcX12_isGlyph (by decide +kernel)
theorem dX12_isGlyph_18 : decode cX12_isGlyph 18 = .ok (.aload_n 0, 1) := dl_o42 kcX12_isGlyph (by decide +kernel)
theorem dX12_isGlyph_19 : decode cX12_isGlyph 19 = .ok (.getfield 345, 3) := dl_o180 kcX12_isGlyph (by decide +kernel)
theorem dX12_isGlyph_22 : decode cX12_isGlyph 22 = .ok (.aload_n 0, 1) := dl_o42 kcX12_isGlyph (by decide +kernel)
theorem dX12_isGlyph_23 : decode cX12_isGlyph 23 = .ok (.getfield 342, 3) := dl_o180 kcX12_isGlyph (by decide +kernel)
theorem dX12_isGlyph_26 : decode cX12_isGlyph 26 = .ok (.isub, 1) := dl_o100 kcX12_isGlyph (by decide +kernel)
theorem dX12_isGlyph_27 : decode cX12_isGlyph 27 = .ok (.bipush 10, 2) := dl_o16 kcX12_isGlyph 10 (by decide +kernel) (by decide +kernel)
theorem dX12_isGlyph_29 : decode cX12_isGlyph 29 = .ok (.if_icmp .ge 5, 3) := dl_o162 kcX12_isGlyph 5 (by decide +kernel) (by decide +kernel)
theorem dX12_isGlyph_32 : decode cX12_isGlyph 32 = .ok (.iconst 0, 1) := dl_o3 kcX12_isGlyph (by decide +kernel)
theorem dX12_isGlyph_33 : decode cX12_isGlyph 33 = .ok (.ireturn, 1) := dl_o172 kcX12_isGlyph (by decide +kernel)
theorem dX12_isGlyph_34 : decode cX12_isGlyph 34 = .ok (.aload_n 0, 1) := dl_o42 kcX12_isGlyph (by decide +kernel)
theorem dX12_isGlyph_35 : decode cX12_isGlyph 35 = .ok (.getfield 348, 3) := dl_o180 kcX12_isGlyph (by decide +kernel)
theorem dX12_isGlyph_38 : decode cX12_isGlyph 38 = .ok (.i2l, 1) := dl_o133 kcX12_isGlyph (by decide +kernel)
theorem dX12_isGlyph_39 : decode cX12_isGlyph 39 = .ok (.lconst 0, 1) := dl_o9 kcX12_isGlyph (by decide +kernel)
theorem dX12_isGlyph_40 : decode cX12_isGlyph 40 = .ok (.ldc2_w 230, 3) := dl_o20 kcX12_isGlyph (by decide +kernel)
theorem dX12_isGlyph_43 : decode cX12_isGlyph 43 = .ok (.invokestatic 263, 3) := dl_o184 kcX12_isGlyph (by decide +kernel)
theorem dX12_isGlyph_46 : decode cX12_isGlyph 46 = .ok (.ifCond .eq 10, 3) := dl_o153 kcX12_isGlyph 10 (by decide +kernel) (by decide +kernel)
theorem dX12_isGlyph_49 : decode cX12_isGlyph 49 = .ok (.aload_n 0, 1) := dl_o42 kcX12_isGlyph (by decide +kernel)
theorem dX12_isGlyph_50 : decode cX12_isGlyph 50 = .ok (.invokevirtual 367, 3) := dl_o182 kcX12_isGlyph (by decide +kernel)
theorem dX12_isGlyph_53 : decode cX12_isGlyph 53 = .ok (.goto 23, 3) := dl_o167 kcX12_isGlyph 23 (by decide +kernel) (by decide +kernel)
theorem dX12_isGlyph_56 : decode cX12_isGlyph 56 = .ok (.aload_n 0, 1) := dl_o42 kcX12_isGlyph (by decide +kernel)
theorem dX12_isGlyph_57 : decode cX12_isGlyph 57 = .ok (.getfield 348, 3) := dl_o180 kcX12_isGlyph (by decide +kernel)
theorem dX12_isGlyph_60 : decode cX12_isGlyph 60 = .ok (.iconst (-1), 1) := dl_o2 kcX12_isGlyph (by decide +kernel)
theorem dX12_isGlyph_61 : decode cX12_isGlyph 61 = .ok (.if_icmp .ne 14, 3) := dl_o160 kcX12_isGlyph 14 (by decide +kernel) (by decide +kernel)
theorem dX12_isGlyph_64 : decode cX12_isGlyph 64 = .ok (.aload_n 0, 1) := dl_o42 kcX12_isGlyph (by decide +kernel)
theorem dX12_isGlyph_65 : decode cX12_isGlyph 65 = .ok (.invokevirtual 370, 3) := dl_o182 kcX12_isGlyph (by decide +kernel)
theorem dX12_isGlyph_68 : decode cX12_isGlyph 68 = .ok (.ifCond .eq 7, 3) := dl_o153 kcX12_isGlyph 7 (by decide +kernel) (by decide +kernel)
theorem dX12_isGlyph_71 : decode cX12_isGlyph 71 = .ok (.iconst 1, 1) := dl_o4 kcX12_isGlyph (by decide +kernel)
theorem dX12_isGlyph_72 : decode cX12_isGlyph 72 = .ok (.goto 4, 3) := dl_o167 kcX12_isGlyph 4 (by decide +kernel) (by decide +kernel)
theorem dX12_isGlyph_75 : decode cX12_isGlyph 75 = .ok (.iconst 0, 1) := dl_o3 kcX12_isGlyph (by decide +kernel)
theorem dX12_isGlyph_76 : decode cX12_isGlyph 76 = .ok (.ireturn, 1) := dl_o172 kcX12_isGlyph (by decide +kernel)
def F_X12_isGlyph (N : Nat) (l1 : Int32) (V : sv_V) : Option (Int32 × sv_V) := (F_X12_bytesOf N l1 V).bind (fun V1 => if (V1.1 146 26) = (V1.1 146 27) then (some ((1 : Int32), V1)) else (if (10 : Int32) ≤ ((V1.1 146 27) - (V1.1 146 26)) then ((F_X12_in ((V1.1 146 28).toInt64) (0 : Int64) (12 : Int64) V1).bind (fun (x7, V5) => if x7 = 0 then (if (V5.1 146 28) = (-1 : Int32) then ((F_X12_composed N  V5).bind (fun (x12, V10) => if x12 = 0 then (some ((0 : Int32), V10)) else (some ((1 : Int32), V10)))) else (some ((0 : Int32), V5))) else ((F_X12_simple N  V5).bind (fun (x16, V14) => if sv_bl x16 = true then some (x16, V14) else none)))) else (some ((0 : Int32), V1))))
set_option maxRecDepth 20000 in
theorem t_X12_isGlyph {g : sx_G} (hG : sx_Go g) {P : Option Value → sv_V → Prop} {r : Int32} {Vr : sv_V} (hP : P (some (.int r)) Vr) {N : Nat} {l1 : Int32} {V : sv_V} (h : F_X12_isGlyph N l1 V = some (r, Vr)) : sv_N g qX12_isGlyph 5 0 [(0, .ref 146), (1, .int l1)] [] V P := by
  unfold F_X12_isGlyph at h
  refine sx_aload_n (pc := 0) dX12_isGlyph_0 sx_m0 ?_
  refine sx_iload_n (pc := 1) dX12_isGlyph_1 sx_m1 ?_
  obtain ⟨V1, g2, h⟩ := sx_bnd h
  refine sv_cV (pc := 2) (y := qX12_bytesOf) (o := none) (as := [.int l1]) (V1 := V1) hG dX12_isGlyph_2 l_X12_363 y0X12_bytesOf yvX12_bytesOf rfl (Nat.le_of_ble_eq_true rfl) lay_146 kr_12 (by decide) (Nat.le_of_ble_eq_true rfl) rfl rfl rfl (t_X12_bytesOf hG ⟨rfl, rfl⟩ g2) ?_
  refine sx_aload_n (pc := 5) dX12_isGlyph_5 sx_m0 ?_
  refine sv_getI (pc := 6) hG dX12_isGlyph_6 f_12_342 lay_146 rfl ?_
  refine sx_aload_n (pc := 9) dX12_isGlyph_9 sx_m0 ?_
  refine sv_getI (pc := 10) hG dX12_isGlyph_10 f_12_345 lay_146 rfl ?_
  refine sx_icmp_ne (pc := 13) (tgt := 18) dX12_isGlyph_13 (by decide) (fun c3 => ?_) (fun c3 => ?_)
  · have h := sx_neg c3 h
    refine sx_aload_n (pc := 18) dX12_isGlyph_18 sx_m0 ?_
    refine sv_getI (pc := 19) hG dX12_isGlyph_19 f_12_345 lay_146 rfl ?_
    refine sx_aload_n (pc := 22) dX12_isGlyph_22 sx_m0 ?_
    refine sv_getI (pc := 23) hG dX12_isGlyph_23 f_12_342 lay_146 rfl ?_
    refine sx_isub (pc := 26) dX12_isGlyph_26 ?_
    refine sx_bipush (pc := 27) (v := 10) dX12_isGlyph_27 (by decide) ?_
    refine sx_icmp_ge (pc := 29) (tgt := 34) dX12_isGlyph_29 (by decide) (fun c4 => ?_) (fun c4 => ?_)
    · have h := sx_pos c4 h
      refine sx_aload_n (pc := 34) dX12_isGlyph_34 sx_m0 ?_
      refine sv_getI (pc := 35) hG dX12_isGlyph_35 f_12_348 lay_146 rfl ?_
      refine sx_i2l (pc := 38) dX12_isGlyph_38 ?_
      refine sx_lconst (pc := 39) (v := 0) dX12_isGlyph_39 rfl ?_
      refine sx_ldc2 (pc := 40) dX12_isGlyph_40 k_X12_230 ?_
      obtain ⟨⟨x7, V5⟩, g6, h⟩ := sx_bnd h
      refine sv_cS (pc := 43) (y := qX12_in) (o := (some (.int x7))) (as := [.long ((V1.1 146 28).toInt64), .long (0 : Int64), .long (12 : Int64)]) (V1 := V5) dX12_isGlyph_43 l_X12_263 y0X12_in ysX12_in rfl (Nat.le_of_ble_eq_true rfl) (by decide) (Nat.le_of_ble_eq_true rfl) rfl rfl rfl (t_X12_in hG ⟨rfl, rfl⟩ g6) ?_
      refine sx_if_eq (pc := 46) (tgt := 56) dX12_isGlyph_46 (by decide) (fun c8 => ?_) (fun c8 => ?_)
      · have h := sx_pos c8 h
        refine sx_aload_n (pc := 56) dX12_isGlyph_56 sx_m0 ?_
        refine sv_getI (pc := 57) hG dX12_isGlyph_57 f_12_348 lay_146 rfl ?_
        refine sx_iconst (pc := 60) (v := (-1)) dX12_isGlyph_60 (by decide) ?_
        refine sx_icmp_ne (pc := 61) (tgt := 75) dX12_isGlyph_61 (by decide) (fun c9 => ?_) (fun c9 => ?_)
        · have h := sx_neg c9 h
          refine sx_iconst (pc := 75) (v := 0) dX12_isGlyph_75 (by decide) ?_
          exact sv_zret (pc := 76) dX12_isGlyph_76 rfl rfl h hP
        · have h := sx_pos c9 h
          refine sx_aload_n (pc := 64) dX12_isGlyph_64 sx_m0 ?_
          obtain ⟨⟨x12, V10⟩, g11, h⟩ := sx_bnd h
          refine sv_cV (pc := 65) (y := qX12_composed) (o := (some (.int x12))) (as := []) (V1 := V10) hG dX12_isGlyph_65 l_X12_370 y0X12_composed yvX12_composed rfl (Nat.le_of_ble_eq_true rfl) lay_146 kr_12 (by decide) (Nat.le_of_ble_eq_true rfl) rfl rfl rfl (t_X12_composed hG ⟨rfl, rfl⟩ g11) ?_
          refine sx_if_eq (pc := 68) (tgt := 75) dX12_isGlyph_68 (by decide) (fun c13 => ?_) (fun c13 => ?_)
          · have h := sx_pos c13 h
            refine sx_iconst (pc := 75) (v := 0) dX12_isGlyph_75 (by decide) ?_
            exact sv_zret (pc := 76) dX12_isGlyph_76 rfl rfl h hP
          · have h := sx_neg c13 h
            refine sx_iconst (pc := 71) (v := 1) dX12_isGlyph_71 (by decide) ?_
            refine sx_goto (pc := 72) (tgt := 76) dX12_isGlyph_72 (by decide) ?_
            exact sv_zret (pc := 76) dX12_isGlyph_76 rfl rfl h hP
      · have h := sx_neg c8 h
        refine sx_aload_n (pc := 49) dX12_isGlyph_49 sx_m0 ?_
        obtain ⟨⟨x16, V14⟩, g15, h⟩ := sx_bnd h
        refine sv_cV (pc := 50) (y := qX12_simple) (o := (some (.int x16))) (as := []) (V1 := V14) hG dX12_isGlyph_50 l_X12_367 y0X12_simple yvX12_simple rfl (Nat.le_of_ble_eq_true rfl) lay_146 kr_12 (by decide) (Nat.le_of_ble_eq_true rfl) rfl rfl rfl (t_X12_simple hG ⟨rfl, rfl⟩ g15) ?_
        refine sx_goto (pc := 53) (tgt := 76) dX12_isGlyph_53 (by decide) ?_
        obtain ⟨g17, h⟩ := sx_grd h
        exact sv_zret (pc := 76) dX12_isGlyph_76 rfl g17 h hP
    · have h := sx_neg c4 h
      refine sx_iconst (pc := 32) (v := 0) dX12_isGlyph_32 (by decide) ?_
      exact sv_zret (pc := 33) dX12_isGlyph_33 rfl rfl h hP
  · have h := sx_pos c3 h
    refine sx_iconst (pc := 16) (v := 1) dX12_isGlyph_16 (by decide) ?_
    exact sv_zret (pc := 17) dX12_isGlyph_17 rfl rfl h hP
def ncX12_areWithin : Nat := 79852915336707701067028737801473882441916342908564602749288303687442924333161774091937833689637851382893689591522732218921277343116263689591004822038711759305066983203565218214653055841486919097300261139314904025307488925863611359193847120166319060993815198875265026736443499019769879175463122096705033079879443758991487257597190514751012815896296068752170162869606592766308738925860414119306780407457624080716854046347091060145155
theorem kcX12_areWithin : CK cX12_areWithin ncX12_areWithin 179 := ⟨by decide +kernel, by decide +kernel⟩
theorem dX12_areWithin_0 : decode cX12_areWithin 0 = .ok (.iconst 0, 1) := dl_o3 kcX12_areWithin (by decide +kernel)
theorem dX12_areWithin_1 : decode cX12_areWithin 1 = .ok (.istore_n 1, 1) := dl_o60 kcX12_areWithin (by decide +kernel)
theorem dX12_areWithin_2 : decode cX12_areWithin 2 = .ok (.iload_n 1, 1) := dl_o27 kcX12_areWithin (by decide +kernel)
theorem dX12_areWithin_3 : decode cX12_areWithin 3 = .ok (.aload_n 0, 1) := dl_o42 kcX12_areWithin (by decide +kernel)
theorem dX12_areWithin_4 : decode cX12_areWithin 4 = .ok (.getfield 331, 3) := dl_o180 kcX12_areWithin (by decide +kernel)
theorem dX12_areWithin_7 : decode cX12_areWithin 7 = .ok (.if_icmp .gt 143, 3) := dl_o163 kcX12_areWithin 143 (by decide +kernel) (by decide +kernel)
theorem dX12_areWithin_10 : decode cX12_areWithin 10 = .ok (.iconst 0, 1) := dl_o3 kcX12_areWithin (by decide +kernel)
theorem dX12_areWithin_11 : decode cX12_areWithin 11 = .ok (.istore_n 2, 1) := dl_o61 kcX12_areWithin (by decide +kernel)
theorem dX12_areWithin_12 : decode cX12_areWithin 12 = .ok (.iload_n 2, 1) := dl_o28 kcX12_areWithin (by decide +kernel)
theorem dX12_areWithin_13 : decode cX12_areWithin 13 = .ok (.aload_n 0, 1) := dl_o42 kcX12_areWithin (by decide +kernel)
theorem dX12_areWithin_14 : decode cX12_areWithin 14 = .ok (.getfield 260, 3) := dl_o180 kcX12_areWithin (by decide +kernel)
theorem dX12_areWithin_17 : decode cX12_areWithin 17 = .ok (.if_icmp .ge 99, 3) := dl_o162 kcX12_areWithin 99 (by decide +kernel) (by decide +kernel)
theorem dX12_areWithin_20 : decode cX12_areWithin 20 = .ok (.aload_n 0, 1) := dl_o42 kcX12_areWithin (by decide +kernel)
theorem dX12_areWithin_21 : decode cX12_areWithin 21 = .ok (.iload_n 2, 1) := dl_o28 kcX12_areWithin (by decide +kernel)
theorem dX12_areWithin_22 : decode cX12_areWithin 22 = .ok (.invokevirtual 278, 3) := dl_o182 kcX12_areWithin (by decide +kernel)
theorem dX12_areWithin_25 : decode cX12_areWithin 25 = .ok (.istore_n 3, 1) := dl_o62 kcX12_areWithin (by decide +kernel)
theorem dX12_areWithin_26 : decode cX12_areWithin 26 = .ok (.aload_n 0, 1) := dl_o42 kcX12_areWithin (by decide +kernel)
theorem dX12_areWithin_27 : decode cX12_areWithin 27 = .ok (.getfield 61, 3) := dl_o180 kcX12_areWithin (by decide +kernel)
theorem dX12_areWithin_30 : decode cX12_areWithin 30 = .ok (.iload_n 2, 1) := dl_o28 kcX12_areWithin (by decide +kernel)
theorem dX12_areWithin_31 : decode cX12_areWithin 31 = .ok (.aload_n 0, 1) := dl_o42 kcX12_areWithin (by decide +kernel)
theorem dX12_areWithin_32 : decode cX12_areWithin 32 = .ok (.getfield 348, 3) := dl_o180 kcX12_areWithin (by decide +kernel)
theorem dX12_areWithin_35 : decode cX12_areWithin 35 = .ok (.iconst (-1), 1) := dl_o2 kcX12_areWithin (by decide +kernel)
theorem dX12_areWithin_36 : decode cX12_areWithin 36 = .ok (.if_icmp .ne 7, 3) := dl_o160 kcX12_areWithin 7 (by decide +kernel) (by decide +kernel)
theorem dX12_areWithin_39 : decode cX12_areWithin 39 = .ok (.iload_n 1, 1) := dl_o27 kcX12_areWithin (by decide +kernel)
theorem dX12_areWithin_40 : decode cX12_areWithin 40 = .ok (.ifCond .le 7, 3) := dl_o158 kcX12_areWithin 7 (by decide +kernel) (by decide +kernel)
theorem dX12_areWithin_43 : decode cX12_areWithin 43 = .ok (.iconst 1, 1) := dl_o4 kcX12_areWithin (by decide +kernel)
theorem dX12_areWithin_44 : decode cX12_areWithin 44 = .ok (.goto 4, 3) := dl_o167 kcX12_areWithin 4 (by decide +kernel) (by decide +kernel)
theorem dX12_areWithin_47 : decode cX12_areWithin 47 = .ok (.iconst 0, 1) := dl_o3 kcX12_areWithin (by decide +kernel)
theorem dX12_areWithin_48 : decode cX12_areWithin 48 = .ok (.bastore, 1) := dl_o84 kcX12_areWithin (by decide +kernel)
theorem dX12_areWithin_49 : decode cX12_areWithin 49 = .ok (.iconst 0, 1) := dl_o3 kcX12_areWithin (by decide +kernel)
theorem dX12_areWithin_50 : decode cX12_areWithin 50 = .ok (.istore 4, 2) := dl_o54 kcX12_areWithin (by decide +kernel)
theorem dX12_areWithin_52 : decode cX12_areWithin 52 = .ok (.iload 4, 2) := dl_o21 kcX12_areWithin (by decide +kernel)
theorem dX12_areWithin_54 : decode cX12_areWithin 54 = .ok (.aload_n 0, 1) := dl_o42 kcX12_areWithin (by decide +kernel)
theorem dX12_areWithin_55 : decode cX12_areWithin 55 = .ok (.getfield 354, 3) := dl_o180 kcX12_areWithin (by decide +kernel)
theorem dX12_areWithin_58 : decode cX12_areWithin 58 = .ok (.if_icmp .ge 52, 3) := dl_o162 kcX12_areWithin 52 (by decide +kernel) (by decide +kernel)
theorem dX12_areWithin_61 : decode cX12_areWithin 61 = .ok (.aload_n 0, 1) := dl_o42 kcX12_areWithin (by decide +kernel)
theorem dX12_areWithin_62 : decode cX12_areWithin 62 = .ok (.getfield 348, 3) := dl_o180 kcX12_areWithin (by decide +kernel)
theorem dX12_areWithin_65 : decode cX12_areWithin 65 = .ok (.iconst (-1), 1) := dl_o2 kcX12_areWithin (by decide +kernel)
theorem dX12_areWithin_66 : decode cX12_areWithin 66 = .ok (.if_icmp .ne 44, 3) := dl_o160 kcX12_areWithin 44 (by decide +kernel) (by decide +kernel)
theorem dX12_areWithin_69 : decode cX12_areWithin 69 = .ok (.aload_n 0, 1) := dl_o42 kcX12_areWithin (by decide +kernel)
theorem dX12_areWithin_70 : decode cX12_areWithin 70 = .ok (.getfield 61, 3) := dl_o180 kcX12_areWithin (by decide +kernel)
theorem dX12_areWithin_73 : decode cX12_areWithin 73 = .ok (.iload_n 2, 1) := dl_o28 kcX12_areWithin (by decide +kernel)
theorem dX12_areWithin_74 : decode cX12_areWithin 74 = .ok (.aload_n 0, 1) := dl_o42 kcX12_areWithin (by decide +kernel)
theorem dX12_areWithin_75 : decode cX12_areWithin 75 = .ok (.getfield 61, 3) := dl_o180 kcX12_areWithin (by decide +kernel)
theorem dX12_areWithin_78 : decode cX12_areWithin 78 = .ok (.iload_n 2, 1) := dl_o28 kcX12_areWithin (by decide +kernel)
theorem dX12_areWithin_79 : decode cX12_areWithin 79 = .ok (.baload, 1) := dl_o51 kcX12_areWithin (by decide +kernel)
theorem dX12_areWithin_80 : decode cX12_areWithin 80 = .ok (.ifCond .eq 22, 3) := dl_o153 kcX12_areWithin 22 (by decide +kernel) (by decide +kernel)
theorem dX12_areWithin_83 : decode cX12_areWithin 83 = .ok (.aload_n 0, 1) := dl_o42 kcX12_areWithin (by decide +kernel)
theorem dX12_areWithin_84 : decode cX12_areWithin 84 = .ok (.getfield 57, 3) := dl_o180 kcX12_areWithin (by decide +kernel)
theorem dX12_areWithin_87 : decode cX12_areWithin 87 = .ok (.aload_n 0, 1) := dl_o42 kcX12_areWithin (by decide +kernel)
theorem dX12_areWithin_88 : decode cX12_areWithin 88 = .ok (.getfield 45, 3) := dl_o180 kcX12_areWithin (by decide +kernel)
theorem dX12_areWithin_91 : decode cX12_areWithin 91 = .ok (.iload 4, 2) := dl_o21 kcX12_areWithin (by decide +kernel)
theorem dX12_areWithin_93 : decode cX12_areWithin 93 = .ok (.iaload, 1) := dl_o46 kcX12_areWithin (by decide +kernel)
theorem dX12_areWithin_94 : decode cX12_areWithin 94 = .ok (.baload, 1) := dl_o51 kcX12_areWithin (by decide +kernel)
theorem dX12_areWithin_95 : decode cX12_areWithin 95 = .ok (.ifCond .eq 7, 3) := dl_o153 kcX12_areWithin 7 (by decide +kernel) (by decide +kernel)
theorem dX12_areWithin_98 : decode cX12_areWithin 98 = .ok (.iconst 1, 1) := dl_o4 kcX12_areWithin (by decide +kernel)
theorem dX12_areWithin_99 : decode cX12_areWithin 99 = .ok (.goto 4, 3) := dl_o167 kcX12_areWithin 4 (by decide +kernel) (by decide +kernel)
theorem dX12_areWithin_102 : decode cX12_areWithin 102 = .ok (.iconst 0, 1) := dl_o3 kcX12_areWithin (by decide +kernel)
theorem dX12_areWithin_103 : decode cX12_areWithin 103 = .ok (.bastore, 1) := dl_o84 kcX12_areWithin (by decide +kernel)
theorem dX12_areWithin_104 : decode cX12_areWithin 104 = .ok (.iinc 4 1, 3) := by decide +kernel
theorem dX12_areWithin_107 : decode cX12_areWithin 107 = .ok (.goto (-55), 3) := dl_o167 kcX12_areWithin 65481 (by decide +kernel) (by decide +kernel)
theorem dX12_areWithin_110 : decode cX12_areWithin 110 = .ok (.iinc 2 1, 3) := by decide +kernel
theorem dX12_areWithin_113 : decode cX12_areWithin 113 = .ok (.goto (-101), 3) := dl_o167 kcX12_areWithin 65435 (by decide +kernel) (by decide +kernel)
theorem dX12_areWithin_116 : decode cX12_areWithin 116 = .ok (.iconst 0, 1) := dl_o3 kcX12_areWithin (by decide +kernel)
theorem dX12_areWithin_117 : decode cX12_areWithin 117 = .ok (.istore_n 2, 1) := dl_o61 kcX12_areWithin (by decide +kernel)
theorem dX12_areWithin_118 : decode cX12_areWithin 118 = .ok (.iload_n 2, 1) := dl_o28 kcX12_areWithin (by decide +kernel)
theorem dX12_areWithin_119 : decode cX12_areWithin 119 = .ok (.aload_n 0, 1) := dl_o42 kcX12_areWithin (by decide +kernel)
theorem dX12_areWithin_120 : decode cX12_areWithin 120 = .ok (.getfield 260, 3) := dl_o180 kcX12_areWithin (by decide +kernel)
theorem dX12_areWithin_123 : decode cX12_areWithin 123 = .ok (.if_icmp .ge 21, 3) := dl_o162 kcX12_areWithin 21 (by decide +kernel) (by decide +kernel)
theorem dX12_areWithin_126 : decode cX12_areWithin 126 = .ok (.aload_n 0, 1) := dl_o42 kcX12_areWithin (by decide +kernel)
theorem dX12_areWithin_127 : decode cX12_areWithin 127 = .ok (.getfield 57, 3) := dl_o180 kcX12_areWithin (by decide +kernel)
theorem dX12_areWithin_130 : decode cX12_areWithin 130 = .ok (.iload_n 2, 1) := dl_o28 kcX12_areWithin (by decide +kernel)
theorem dX12_areWithin_131 : decode cX12_areWithin 131 = .ok (.aload_n 0, 1) := dl_o42 kcX12_areWithin (by decide +kernel)
theorem dX12_areWithin_132 : decode cX12_areWithin 132 = .ok (.getfield 61, 3) := dl_o180 kcX12_areWithin (by decide +kernel)
theorem dX12_areWithin_135 : decode cX12_areWithin 135 = .ok (.iload_n 2, 1) := dl_o28 kcX12_areWithin (by decide +kernel)
theorem dX12_areWithin_136 : decode cX12_areWithin 136 = .ok (.baload, 1) := dl_o51 kcX12_areWithin (by decide +kernel)
theorem dX12_areWithin_137 : decode cX12_areWithin 137 = .ok (.bastore, 1) := dl_o84 kcX12_areWithin (by decide +kernel)
theorem dX12_areWithin_138 : decode cX12_areWithin 138 = .ok (.iinc 2 1, 3) := by decide +kernel
theorem dX12_areWithin_141 : decode cX12_areWithin 141 = .ok (.goto (-23), 3) := dl_o167 kcX12_areWithin 65513 (by decide +kernel) (by decide +kernel)
theorem dX12_areWithin_144 : decode cX12_areWithin 144 = .ok (.iinc 1 1, 3) := by decide +kernel
theorem dX12_areWithin_147 : decode cX12_areWithin 147 = .ok (.goto (-145), 3) := dl_o167 kcX12_areWithin 65391 (by decide +kernel) (by decide +kernel)
theorem dX12_areWithin_150 : decode cX12_areWithin 150 = .ok (.iconst 0, 1) := dl_o3 kcX12_areWithin (by decide +kernel)
theorem dX12_areWithin_151 : decode cX12_areWithin 151 = .ok (.istore_n 1, 1) := dl_o60 kcX12_areWithin (by decide +kernel)
theorem dX12_areWithin_152 : decode cX12_areWithin 152 = .ok (.iload_n 1, 1) := dl_o27 kcX12_areWithin (by decide +kernel)
theorem dX12_areWithin_153 : decode cX12_areWithin 153 = .ok (.aload_n 0, 1) := dl_o42 kcX12_areWithin (by decide +kernel)
theorem dX12_areWithin_154 : decode cX12_areWithin 154 = .ok (.getfield 260, 3) := dl_o180 kcX12_areWithin (by decide +kernel)
theorem dX12_areWithin_157 : decode cX12_areWithin 157 = .ok (.if_icmp .ge 20, 3) := dl_o162 kcX12_areWithin 20 (by decide +kernel) (by decide +kernel)
theorem dX12_areWithin_160 : decode cX12_areWithin 160 = .ok (.aload_n 0, 1) := dl_o42 kcX12_areWithin (by decide +kernel)
theorem dX12_areWithin_161 : decode cX12_areWithin 161 = .ok (.getfield 57, 3) := dl_o180 kcX12_areWithin (by decide +kernel)
theorem dX12_areWithin_164 : decode cX12_areWithin 164 = .ok (.iload_n 1, 1) := dl_o27 kcX12_areWithin (by decide +kernel)
theorem dX12_areWithin_165 : decode cX12_areWithin 165 = .ok (.baload, 1) := dl_o51 kcX12_areWithin (by decide +kernel)
theorem dX12_areWithin_166 : decode cX12_areWithin 166 = .ok (.ifCond .ne 5, 3) := dl_o154 kcX12_areWithin 5 (by decide +kernel) (by decide +kernel)
theorem dX12_areWithin_169 : decode cX12_areWithin 169 = .ok (.iconst 0, 1) := dl_o3 kcX12_areWithin (by decide +kernel)
theorem dX12_areWithin_170 : decode cX12_areWithin 170 = .ok (.ireturn, 1) := dl_o172 kcX12_areWithin (by decide +kernel)
theorem dX12_areWithin_171 : decode cX12_areWithin 171 = .ok (.iinc 1 1, 3) := by decide +kernel
theorem dX12_areWithin_174 : decode cX12_areWithin 174 = .ok (.goto (-22), 3) := dl_o167 kcX12_areWithin 65514 (by decide +kernel) (by decide +kernel)
theorem dX12_areWithin_177 : decode cX12_areWithin 177 = .ok (.iconst 1, 1) := dl_o4 kcX12_areWithin (by decide +kernel)
theorem dX12_areWithin_178 : decode cX12_areWithin 178 = .ok (.ireturn, 1) := dl_o172 kcX12_areWithin (by decide +kernel)
def B_X12_areWithin_103 (N : Nat) (k2 : Int32 → sv_V → Option (Int32 × sv_V)) (k12 : Int32 → Int32 → sv_V → Option (Int32 × sv_V)) (k52 : Int32 → Int32 → Int32 → sv_V → Option (Int32 × sv_V)) (l1 : Int32) (l2 : Int32) (l4 : Int32) (s1 : Int32) (s2 : Int32) (V : sv_V) : Option (Int32 × sv_V) := if sx_in s1 200 = true then if sv_bl s2 = true then sx_let (sv_I V 163 s1.toNatClampNeg s2) (fun V3 => sx_let (l4 + 1) (fun x4 => k52 l1 l2 x4 V3)) else none else none
set_option maxRecDepth 20000 in
theorem tB_X12_areWithin_103 {g : sx_G} (hG : sx_Go g) {P : Option Value → sv_V → Prop} {r : Int32} {Vr : sv_V} (hP : P (some (.int r)) Vr) {N : Nat} {k2 : Int32 → sv_V → Option (Int32 × sv_V)} {k12 : Int32 → Int32 → sv_V → Option (Int32 × sv_V)} {k52 : Int32 → Int32 → Int32 → sv_V → Option (Int32 × sv_V)} (hk2 : ∀ (l1 : Int32) (V : sv_V), k2 l1 V = some (r, Vr) → sv_N g qX12_areWithin 6 2 [(0, .ref 146), (1, .int l1)] [] V P) (hk12 : ∀ (l1 : Int32) (l2 : Int32) (V : sv_V), k12 l1 l2 V = some (r, Vr) → sv_N g qX12_areWithin 6 12 [(0, .ref 146), (1, .int l1), (2, .int l2)] [] V P) (hk52 : ∀ (l1 : Int32) (l2 : Int32) (l4 : Int32) (V : sv_V), k52 l1 l2 l4 V = some (r, Vr) → sv_N g qX12_areWithin 6 52 [(0, .ref 146), (1, .int l1), (2, .int l2), (4, .int l4)] [] V P) {l1 : Int32} {l2 : Int32} {l4 : Int32} {s1 : Int32} {s2 : Int32} {V : sv_V} (h : B_X12_areWithin_103 N k2 k12 k52 l1 l2 l4 s1 s2 V = some (r, Vr)) : sv_N g qX12_areWithin 6 103 [(0, .ref 146), (1, .int l1), (2, .int l2), (4, .int l4)] [.int s2, .int s1, .ref 163] V P := by
  unfold B_X12_areWithin_103 at h
  obtain ⟨g1, h⟩ := sx_grd h
  obtain ⟨g2, h⟩ := sx_grd h
  obtain ⟨V3, hV3⟩ : ∃ z : sv_V, z = sv_I V 163 s1.toNatClampNeg s2 := ⟨_, rfl⟩
  have h := sx_letE hV3 h
  refine sv_zast (pc := 103) hG dX12_areWithin_103 lay_163 g1 g2 hV3 ?_
  obtain ⟨x4, hx4⟩ : ∃ z : Int32, z = l4 + 1 := ⟨_, rfl⟩
  have h := sx_letE hx4 h
  refine sx_iinc (pc := 104) (v := x4) (lo' := [(4, .int x4), (0, .ref 146), (1, .int l1), (2, .int l2)]) dX12_areWithin_104 sx_m3 (by rw [hx4]; rfl) (by decide) rfl ?_
  refine sx_goto (pc := 107) (tgt := 52) dX12_areWithin_107 (by decide) ?_
  refine sx_wk (sx_s1 sx_m1 (sx_s1 sx_m2 (sx_s1 sx_m3 (sx_s1 sx_m0 sx_s0)))) ?_
  exact hk52 _ _ _ _ h
def B_X12_areWithin_102 (N : Nat) (k2 : Int32 → sv_V → Option (Int32 × sv_V)) (k12 : Int32 → Int32 → sv_V → Option (Int32 × sv_V)) (k52 : Int32 → Int32 → Int32 → sv_V → Option (Int32 × sv_V)) (l1 : Int32) (l2 : Int32) (l4 : Int32) (s1 : Int32) (V : sv_V) : Option (Int32 × sv_V) := B_X12_areWithin_103 N k2 k12 k52 l1 l2 l4 s1 (0 : Int32) V
set_option maxRecDepth 20000 in
theorem tB_X12_areWithin_102 {g : sx_G} (hG : sx_Go g) {P : Option Value → sv_V → Prop} {r : Int32} {Vr : sv_V} (hP : P (some (.int r)) Vr) {N : Nat} {k2 : Int32 → sv_V → Option (Int32 × sv_V)} {k12 : Int32 → Int32 → sv_V → Option (Int32 × sv_V)} {k52 : Int32 → Int32 → Int32 → sv_V → Option (Int32 × sv_V)} (hk2 : ∀ (l1 : Int32) (V : sv_V), k2 l1 V = some (r, Vr) → sv_N g qX12_areWithin 6 2 [(0, .ref 146), (1, .int l1)] [] V P) (hk12 : ∀ (l1 : Int32) (l2 : Int32) (V : sv_V), k12 l1 l2 V = some (r, Vr) → sv_N g qX12_areWithin 6 12 [(0, .ref 146), (1, .int l1), (2, .int l2)] [] V P) (hk52 : ∀ (l1 : Int32) (l2 : Int32) (l4 : Int32) (V : sv_V), k52 l1 l2 l4 V = some (r, Vr) → sv_N g qX12_areWithin 6 52 [(0, .ref 146), (1, .int l1), (2, .int l2), (4, .int l4)] [] V P) {l1 : Int32} {l2 : Int32} {l4 : Int32} {s1 : Int32} {V : sv_V} (h : B_X12_areWithin_102 N k2 k12 k52 l1 l2 l4 s1 V = some (r, Vr)) : sv_N g qX12_areWithin 6 102 [(0, .ref 146), (1, .int l1), (2, .int l2), (4, .int l4)] [.int s1, .ref 163] V P := by
  unfold B_X12_areWithin_102 at h
  refine sx_iconst (pc := 102) (v := 0) dX12_areWithin_102 (by decide) ?_
  refine sx_wk (sx_s1 sx_m0 (sx_s1 sx_m1 (sx_s1 sx_m2 (sx_s1 sx_m3 sx_s0)))) ?_
  exact tB_X12_areWithin_103 hG hP hk2 hk12 hk52 h
def B_X12_areWithin_110 (N : Nat) (k2 : Int32 → sv_V → Option (Int32 × sv_V)) (k12 : Int32 → Int32 → sv_V → Option (Int32 × sv_V)) (l1 : Int32) (l2 : Int32) (V : sv_V) : Option (Int32 × sv_V) := sx_let (l2 + 1) (fun x5 => k12 l1 x5 V)
set_option maxRecDepth 20000 in
theorem tB_X12_areWithin_110 {g : sx_G} (hG : sx_Go g) {P : Option Value → sv_V → Prop} {r : Int32} {Vr : sv_V} (hP : P (some (.int r)) Vr) {N : Nat} {k2 : Int32 → sv_V → Option (Int32 × sv_V)} {k12 : Int32 → Int32 → sv_V → Option (Int32 × sv_V)} (hk2 : ∀ (l1 : Int32) (V : sv_V), k2 l1 V = some (r, Vr) → sv_N g qX12_areWithin 6 2 [(0, .ref 146), (1, .int l1)] [] V P) (hk12 : ∀ (l1 : Int32) (l2 : Int32) (V : sv_V), k12 l1 l2 V = some (r, Vr) → sv_N g qX12_areWithin 6 12 [(0, .ref 146), (1, .int l1), (2, .int l2)] [] V P) {l1 : Int32} {l2 : Int32} {V : sv_V} (h : B_X12_areWithin_110 N k2 k12 l1 l2 V = some (r, Vr)) : sv_N g qX12_areWithin 6 110 [(0, .ref 146), (1, .int l1), (2, .int l2)] [] V P := by
  unfold B_X12_areWithin_110 at h
  obtain ⟨x5, hx5⟩ : ∃ z : Int32, z = l2 + 1 := ⟨_, rfl⟩
  have h := sx_letE hx5 h
  refine sx_iinc (pc := 110) (v := x5) (lo' := [(2, .int x5), (0, .ref 146), (1, .int l1)]) dX12_areWithin_110 sx_m2 (by rw [hx5]; rfl) (by decide) rfl ?_
  refine sx_goto (pc := 113) (tgt := 12) dX12_areWithin_113 (by decide) ?_
  refine sx_wk (sx_s1 sx_m1 (sx_s1 sx_m2 (sx_s1 sx_m0 sx_s0))) ?_
  exact hk12 _ _ _ h
def B_X12_areWithin_52 (N : Nat) (k2 : Int32 → sv_V → Option (Int32 × sv_V)) (k12 : Int32 → Int32 → sv_V → Option (Int32 × sv_V)) (k52 : Int32 → Int32 → Int32 → sv_V → Option (Int32 × sv_V)) (l1 : Int32) (l2 : Int32) (l4 : Int32) (V : sv_V) : Option (Int32 × sv_V) := if (V.1 146 30) ≤ l4 then (B_X12_areWithin_110 N k2 k12 l1 l2 V) else (if (V.1 146 28) = (-1 : Int32) then (if sx_in l2 200 = true then if (V.1 163 l2.toNatClampNeg) = 0 then (B_X12_areWithin_102 N k2 k12 k52 l1 l2 l4 l2 V) else (if sx_in l4 8 = true then if sx_in (V.1 158 l4.toNatClampNeg) 200 = true then if (V.1 162 (V.1 158 l4.toNatClampNeg).toNatClampNeg) = 0 then (B_X12_areWithin_102 N k2 k12 k52 l1 l2 l4 l2 V) else (B_X12_areWithin_103 N k2 k12 k52 l1 l2 l4 l2 (1 : Int32) V) else none else none) else none) else (B_X12_areWithin_110 N k2 k12 l1 l2 V))
set_option maxRecDepth 20000 in
theorem tB_X12_areWithin_52 {g : sx_G} (hG : sx_Go g) {P : Option Value → sv_V → Prop} {r : Int32} {Vr : sv_V} (hP : P (some (.int r)) Vr) {N : Nat} {k2 : Int32 → sv_V → Option (Int32 × sv_V)} {k12 : Int32 → Int32 → sv_V → Option (Int32 × sv_V)} {k52 : Int32 → Int32 → Int32 → sv_V → Option (Int32 × sv_V)} (hk2 : ∀ (l1 : Int32) (V : sv_V), k2 l1 V = some (r, Vr) → sv_N g qX12_areWithin 6 2 [(0, .ref 146), (1, .int l1)] [] V P) (hk12 : ∀ (l1 : Int32) (l2 : Int32) (V : sv_V), k12 l1 l2 V = some (r, Vr) → sv_N g qX12_areWithin 6 12 [(0, .ref 146), (1, .int l1), (2, .int l2)] [] V P) (hk52 : ∀ (l1 : Int32) (l2 : Int32) (l4 : Int32) (V : sv_V), k52 l1 l2 l4 V = some (r, Vr) → sv_N g qX12_areWithin 6 52 [(0, .ref 146), (1, .int l1), (2, .int l2), (4, .int l4)] [] V P) {l1 : Int32} {l2 : Int32} {l4 : Int32} {V : sv_V} (h : B_X12_areWithin_52 N k2 k12 k52 l1 l2 l4 V = some (r, Vr)) : sv_N g qX12_areWithin 6 52 [(0, .ref 146), (1, .int l1), (2, .int l2), (4, .int l4)] [] V P := by
  unfold B_X12_areWithin_52 at h
  refine sx_iload (pc := 52) dX12_areWithin_52 sx_m3 ?_
  refine sx_aload_n (pc := 54) dX12_areWithin_54 sx_m0 ?_
  refine sv_getI (pc := 55) hG dX12_areWithin_55 f_12_354 lay_146 rfl ?_
  refine sx_icmp_ge (pc := 58) (tgt := 110) dX12_areWithin_58 (by decide) (fun c6 => ?_) (fun c6 => ?_)
  · have h := sx_pos c6 h
    refine sx_wk (sx_s1 sx_m0 (sx_s1 sx_m1 (sx_s1 sx_m2 sx_s0))) ?_
    exact tB_X12_areWithin_110 hG hP hk2 hk12 h
  · have h := sx_neg c6 h
    refine sx_aload_n (pc := 61) dX12_areWithin_61 sx_m0 ?_
    refine sv_getI (pc := 62) hG dX12_areWithin_62 f_12_348 lay_146 rfl ?_
    refine sx_iconst (pc := 65) (v := (-1)) dX12_areWithin_65 (by decide) ?_
    refine sx_icmp_ne (pc := 66) (tgt := 110) dX12_areWithin_66 (by decide) (fun c7 => ?_) (fun c7 => ?_)
    · have h := sx_neg c7 h
      refine sx_wk (sx_s1 sx_m0 (sx_s1 sx_m1 (sx_s1 sx_m2 sx_s0))) ?_
      exact tB_X12_areWithin_110 hG hP hk2 hk12 h
    · have h := sx_pos c7 h
      refine sx_aload_n (pc := 69) dX12_areWithin_69 sx_m0 ?_
      refine sv_getA (pc := 70) hG dX12_areWithin_70 f_12_61 lay_146 rfl cr_146_43 ?_
      refine sx_iload_n (pc := 73) dX12_areWithin_73 sx_m2 ?_
      refine sx_aload_n (pc := 74) dX12_areWithin_74 sx_m0 ?_
      refine sv_getA (pc := 75) hG dX12_areWithin_75 f_12_61 lay_146 rfl cr_146_43 ?_
      refine sx_iload_n (pc := 78) dX12_areWithin_78 sx_m2 ?_
      obtain ⟨g8, h⟩ := sx_grd h
      refine sv_zald (pc := 79) hG dX12_areWithin_79 lay_163 g8 ?_
      refine sx_if_eq (pc := 80) (tgt := 102) dX12_areWithin_80 (by decide) (fun c9 => ?_) (fun c9 => ?_)
      · have h := sx_pos c9 h
        refine sx_wk (sx_s1 sx_m0 (sx_s1 sx_m1 (sx_s1 sx_m2 (sx_s1 sx_m3 sx_s0)))) ?_
        exact tB_X12_areWithin_102 hG hP hk2 hk12 hk52 h
      · have h := sx_neg c9 h
        refine sx_aload_n (pc := 83) dX12_areWithin_83 sx_m0 ?_
        refine sv_getA (pc := 84) hG dX12_areWithin_84 f_12_57 lay_146 rfl cr_146_42 ?_
        refine sx_aload_n (pc := 87) dX12_areWithin_87 sx_m0 ?_
        refine sv_getA (pc := 88) hG dX12_areWithin_88 f_12_45 lay_146 rfl cr_146_38 ?_
        refine sx_iload (pc := 91) dX12_areWithin_91 sx_m3 ?_
        obtain ⟨g10, h⟩ := sx_grd h
        refine sv_iald (pc := 93) hG dX12_areWithin_93 lay_158 g10 ?_
        obtain ⟨g11, h⟩ := sx_grd h
        refine sv_zald (pc := 94) hG dX12_areWithin_94 lay_162 g11 ?_
        refine sx_if_eq (pc := 95) (tgt := 102) dX12_areWithin_95 (by decide) (fun c12 => ?_) (fun c12 => ?_)
        · have h := sx_pos c12 h
          refine sx_wk (sx_s1 sx_m0 (sx_s1 sx_m1 (sx_s1 sx_m2 (sx_s1 sx_m3 sx_s0)))) ?_
          exact tB_X12_areWithin_102 hG hP hk2 hk12 hk52 h
        · have h := sx_neg c12 h
          refine sx_iconst (pc := 98) (v := 1) dX12_areWithin_98 (by decide) ?_
          refine sx_goto (pc := 99) (tgt := 103) dX12_areWithin_99 (by decide) ?_
          refine sx_wk (sx_s1 sx_m0 (sx_s1 sx_m1 (sx_s1 sx_m2 (sx_s1 sx_m3 sx_s0)))) ?_
          exact tB_X12_areWithin_103 hG hP hk2 hk12 hk52 h
theorem tL_X12_areWithin_52 {g : sx_G} (hG : sx_Go g) {P : Option Value → sv_V → Prop} {r : Int32} {Vr : sv_V} (hP : P (some (.int r)) Vr) {N : Nat} {k2 : Int32 → sv_V → Option (Int32 × sv_V)} {k12 : Int32 → Int32 → sv_V → Option (Int32 × sv_V)} (hk2 : ∀ (l1 : Int32) (V : sv_V), k2 l1 V = some (r, Vr) → sv_N g qX12_areWithin 6 2 [(0, .ref 146), (1, .int l1)] [] V P) (hk12 : ∀ (l1 : Int32) (l2 : Int32) (V : sv_V), k12 l1 l2 V = some (r, Vr) → sv_N g qX12_areWithin 6 12 [(0, .ref 146), (1, .int l1), (2, .int l2)] [] V P) : ∀ (n : Nat) (l1 : Int32) (l2 : Int32) (l4 : Int32) (V : sv_V), sx_lp4 (B_X12_areWithin_52 N k2 k12) n l1 l2 l4 V = some (r, Vr) → sv_N g qX12_areWithin 6 52 [(0, .ref 146), (1, .int l1), (2, .int l2), (4, .int l4)] [] V P :=
  sx_lp4_ind (fun k0 ih _ _ _ V h => tB_X12_areWithin_52 hG hP hk2 hk12 ih h)
def B_X12_areWithin_48 (N : Nat) (k2 : Int32 → sv_V → Option (Int32 × sv_V)) (k12 : Int32 → Int32 → sv_V → Option (Int32 × sv_V)) (l1 : Int32) (l2 : Int32) (s1 : Int32) (s2 : Int32) (V : sv_V) : Option (Int32 × sv_V) := if sx_in s1 200 = true then if sv_bl s2 = true then sx_let (sv_I V 163 s1.toNatClampNeg s2) (fun V15 => sx_lp4 (B_X12_areWithin_52 N k2 k12) N l1 l2 (0 : Int32) V15) else none else none
set_option maxRecDepth 20000 in
theorem tB_X12_areWithin_48 {g : sx_G} (hG : sx_Go g) {P : Option Value → sv_V → Prop} {r : Int32} {Vr : sv_V} (hP : P (some (.int r)) Vr) {N : Nat} {k2 : Int32 → sv_V → Option (Int32 × sv_V)} {k12 : Int32 → Int32 → sv_V → Option (Int32 × sv_V)} (hk2 : ∀ (l1 : Int32) (V : sv_V), k2 l1 V = some (r, Vr) → sv_N g qX12_areWithin 6 2 [(0, .ref 146), (1, .int l1)] [] V P) (hk12 : ∀ (l1 : Int32) (l2 : Int32) (V : sv_V), k12 l1 l2 V = some (r, Vr) → sv_N g qX12_areWithin 6 12 [(0, .ref 146), (1, .int l1), (2, .int l2)] [] V P) {l1 : Int32} {l2 : Int32} {s1 : Int32} {s2 : Int32} {V : sv_V} (h : B_X12_areWithin_48 N k2 k12 l1 l2 s1 s2 V = some (r, Vr)) : sv_N g qX12_areWithin 6 48 [(0, .ref 146), (1, .int l1), (2, .int l2)] [.int s2, .int s1, .ref 163] V P := by
  unfold B_X12_areWithin_48 at h
  obtain ⟨g13, h⟩ := sx_grd h
  obtain ⟨g14, h⟩ := sx_grd h
  obtain ⟨V15, hV15⟩ : ∃ z : sv_V, z = sv_I V 163 s1.toNatClampNeg s2 := ⟨_, rfl⟩
  have h := sx_letE hV15 h
  refine sv_zast (pc := 48) hG dX12_areWithin_48 lay_163 g13 g14 hV15 ?_
  refine sx_iconst (pc := 49) (v := 0) dX12_areWithin_49 (by decide) ?_
  refine sx_istore (pc := 50) (lo' := [(4, .int (0 : Int32)), (0, .ref 146), (1, .int l1), (2, .int l2)]) dX12_areWithin_50 (by decide) rfl ?_
  refine sx_wk (sx_s1 sx_m1 (sx_s1 sx_m2 (sx_s1 sx_m3 (sx_s1 sx_m0 sx_s0)))) ?_
  exact tL_X12_areWithin_52 hG hP hk2 hk12 N _ _ _ _ h
def B_X12_areWithin_43 (N : Nat) (k2 : Int32 → sv_V → Option (Int32 × sv_V)) (k12 : Int32 → Int32 → sv_V → Option (Int32 × sv_V)) (l1 : Int32) (l2 : Int32) (s1 : Int32) (V : sv_V) : Option (Int32 × sv_V) := B_X12_areWithin_48 N k2 k12 l1 l2 s1 (1 : Int32) V
set_option maxRecDepth 20000 in
theorem tB_X12_areWithin_43 {g : sx_G} (hG : sx_Go g) {P : Option Value → sv_V → Prop} {r : Int32} {Vr : sv_V} (hP : P (some (.int r)) Vr) {N : Nat} {k2 : Int32 → sv_V → Option (Int32 × sv_V)} {k12 : Int32 → Int32 → sv_V → Option (Int32 × sv_V)} (hk2 : ∀ (l1 : Int32) (V : sv_V), k2 l1 V = some (r, Vr) → sv_N g qX12_areWithin 6 2 [(0, .ref 146), (1, .int l1)] [] V P) (hk12 : ∀ (l1 : Int32) (l2 : Int32) (V : sv_V), k12 l1 l2 V = some (r, Vr) → sv_N g qX12_areWithin 6 12 [(0, .ref 146), (1, .int l1), (2, .int l2)] [] V P) {l1 : Int32} {l2 : Int32} {s1 : Int32} {V : sv_V} (h : B_X12_areWithin_43 N k2 k12 l1 l2 s1 V = some (r, Vr)) : sv_N g qX12_areWithin 6 43 [(0, .ref 146), (1, .int l1), (2, .int l2)] [.int s1, .ref 163] V P := by
  unfold B_X12_areWithin_43 at h
  refine sx_iconst (pc := 43) (v := 1) dX12_areWithin_43 (by decide) ?_
  refine sx_goto (pc := 44) (tgt := 48) dX12_areWithin_44 (by decide) ?_
  refine sx_wk (sx_s1 sx_m0 (sx_s1 sx_m1 (sx_s1 sx_m2 sx_s0))) ?_
  exact tB_X12_areWithin_48 hG hP hk2 hk12 h
def B_X12_areWithin_118 (N : Nat) (k2 : Int32 → sv_V → Option (Int32 × sv_V)) (k118 : Int32 → Int32 → sv_V → Option (Int32 × sv_V)) (l1 : Int32) (l2 : Int32) (V : sv_V) : Option (Int32 × sv_V) := if (V.1 146 12) ≤ l2 then (sx_let (l1 + 1) (fun x17 => k2 x17 V)) else (if sx_in l2 200 = true then if sx_in l2 200 = true then if sv_bl (V.1 163 l2.toNatClampNeg) = true then sx_let (sv_I V 162 l2.toNatClampNeg (V.1 163 l2.toNatClampNeg)) (fun V21 => sx_let (l2 + 1) (fun x22 => k118 l1 x22 V21)) else none else none else none)
set_option maxRecDepth 20000 in
theorem tB_X12_areWithin_118 {g : sx_G} (hG : sx_Go g) {P : Option Value → sv_V → Prop} {r : Int32} {Vr : sv_V} (hP : P (some (.int r)) Vr) {N : Nat} {k2 : Int32 → sv_V → Option (Int32 × sv_V)} {k118 : Int32 → Int32 → sv_V → Option (Int32 × sv_V)} (hk2 : ∀ (l1 : Int32) (V : sv_V), k2 l1 V = some (r, Vr) → sv_N g qX12_areWithin 6 2 [(0, .ref 146), (1, .int l1)] [] V P) (hk118 : ∀ (l1 : Int32) (l2 : Int32) (V : sv_V), k118 l1 l2 V = some (r, Vr) → sv_N g qX12_areWithin 6 118 [(0, .ref 146), (1, .int l1), (2, .int l2)] [] V P) {l1 : Int32} {l2 : Int32} {V : sv_V} (h : B_X12_areWithin_118 N k2 k118 l1 l2 V = some (r, Vr)) : sv_N g qX12_areWithin 6 118 [(0, .ref 146), (1, .int l1), (2, .int l2)] [] V P := by
  unfold B_X12_areWithin_118 at h
  refine sx_iload_n (pc := 118) dX12_areWithin_118 sx_m2 ?_
  refine sx_aload_n (pc := 119) dX12_areWithin_119 sx_m0 ?_
  refine sv_getI (pc := 120) hG dX12_areWithin_120 f_12_260 lay_146 rfl ?_
  refine sx_icmp_ge (pc := 123) (tgt := 144) dX12_areWithin_123 (by decide) (fun c16 => ?_) (fun c16 => ?_)
  · have h := sx_pos c16 h
    obtain ⟨x17, hx17⟩ : ∃ z : Int32, z = l1 + 1 := ⟨_, rfl⟩
    have h := sx_letE hx17 h
    refine sx_iinc (pc := 144) (v := x17) (lo' := [(1, .int x17), (0, .ref 146), (2, .int l2)]) dX12_areWithin_144 sx_m1 (by rw [hx17]; rfl) (by decide) rfl ?_
    refine sx_goto (pc := 147) (tgt := 2) dX12_areWithin_147 (by decide) ?_
    refine sx_wk (sx_s1 sx_m1 (sx_s1 sx_m0 sx_s0)) ?_
    exact hk2 _ _ h
  · have h := sx_neg c16 h
    refine sx_aload_n (pc := 126) dX12_areWithin_126 sx_m0 ?_
    refine sv_getA (pc := 127) hG dX12_areWithin_127 f_12_57 lay_146 rfl cr_146_42 ?_
    refine sx_iload_n (pc := 130) dX12_areWithin_130 sx_m2 ?_
    refine sx_aload_n (pc := 131) dX12_areWithin_131 sx_m0 ?_
    refine sv_getA (pc := 132) hG dX12_areWithin_132 f_12_61 lay_146 rfl cr_146_43 ?_
    refine sx_iload_n (pc := 135) dX12_areWithin_135 sx_m2 ?_
    obtain ⟨g18, h⟩ := sx_grd h
    refine sv_zald (pc := 136) hG dX12_areWithin_136 lay_163 g18 ?_
    obtain ⟨g19, h⟩ := sx_grd h
    obtain ⟨g20, h⟩ := sx_grd h
    obtain ⟨V21, hV21⟩ : ∃ z : sv_V, z = sv_I V 162 l2.toNatClampNeg (V.1 163 l2.toNatClampNeg) := ⟨_, rfl⟩
    have h := sx_letE hV21 h
    refine sv_zast (pc := 137) hG dX12_areWithin_137 lay_162 g19 g20 hV21 ?_
    obtain ⟨x22, hx22⟩ : ∃ z : Int32, z = l2 + 1 := ⟨_, rfl⟩
    have h := sx_letE hx22 h
    refine sx_iinc (pc := 138) (v := x22) (lo' := [(2, .int x22), (0, .ref 146), (1, .int l1)]) dX12_areWithin_138 sx_m2 (by rw [hx22]; rfl) (by decide) rfl ?_
    refine sx_goto (pc := 141) (tgt := 118) dX12_areWithin_141 (by decide) ?_
    refine sx_wk (sx_s1 sx_m1 (sx_s1 sx_m2 (sx_s1 sx_m0 sx_s0))) ?_
    exact hk118 _ _ _ h
theorem tL_X12_areWithin_118 {g : sx_G} (hG : sx_Go g) {P : Option Value → sv_V → Prop} {r : Int32} {Vr : sv_V} (hP : P (some (.int r)) Vr) {N : Nat} {k2 : Int32 → sv_V → Option (Int32 × sv_V)} (hk2 : ∀ (l1 : Int32) (V : sv_V), k2 l1 V = some (r, Vr) → sv_N g qX12_areWithin 6 2 [(0, .ref 146), (1, .int l1)] [] V P) : ∀ (n : Nat) (l1 : Int32) (l2 : Int32) (V : sv_V), sx_lp3 (B_X12_areWithin_118 N k2) n l1 l2 V = some (r, Vr) → sv_N g qX12_areWithin 6 118 [(0, .ref 146), (1, .int l1), (2, .int l2)] [] V P :=
  sx_lp3_ind (fun k0 ih _ _ V h => tB_X12_areWithin_118 hG hP hk2 ih h)
def B_X12_areWithin_12 (N : Nat) (k2 : Int32 → sv_V → Option (Int32 × sv_V)) (k12 : Int32 → Int32 → sv_V → Option (Int32 × sv_V)) (l1 : Int32) (l2 : Int32) (V : sv_V) : Option (Int32 × sv_V) := if (V.1 146 12) ≤ l2 then (sx_lp3 (B_X12_areWithin_118 N k2) N l1 (0 : Int32) V) else ((F_X12_isGlyph N l2 V).bind (fun (x26, V24) => if (V24.1 146 28) = (-1 : Int32) then (if l1 ≤ 0 then (B_X12_areWithin_48 N k2 k12 l1 l2 l2 (0 : Int32) V24) else (B_X12_areWithin_43 N k2 k12 l1 l2 l2 V24)) else (B_X12_areWithin_43 N k2 k12 l1 l2 l2 V24)))
set_option maxRecDepth 20000 in
theorem tB_X12_areWithin_12 {g : sx_G} (hG : sx_Go g) {P : Option Value → sv_V → Prop} {r : Int32} {Vr : sv_V} (hP : P (some (.int r)) Vr) {N : Nat} {k2 : Int32 → sv_V → Option (Int32 × sv_V)} {k12 : Int32 → Int32 → sv_V → Option (Int32 × sv_V)} (hk2 : ∀ (l1 : Int32) (V : sv_V), k2 l1 V = some (r, Vr) → sv_N g qX12_areWithin 6 2 [(0, .ref 146), (1, .int l1)] [] V P) (hk12 : ∀ (l1 : Int32) (l2 : Int32) (V : sv_V), k12 l1 l2 V = some (r, Vr) → sv_N g qX12_areWithin 6 12 [(0, .ref 146), (1, .int l1), (2, .int l2)] [] V P) {l1 : Int32} {l2 : Int32} {V : sv_V} (h : B_X12_areWithin_12 N k2 k12 l1 l2 V = some (r, Vr)) : sv_N g qX12_areWithin 6 12 [(0, .ref 146), (1, .int l1), (2, .int l2)] [] V P := by
  unfold B_X12_areWithin_12 at h
  refine sx_iload_n (pc := 12) dX12_areWithin_12 sx_m2 ?_
  refine sx_aload_n (pc := 13) dX12_areWithin_13 sx_m0 ?_
  refine sv_getI (pc := 14) hG dX12_areWithin_14 f_12_260 lay_146 rfl ?_
  refine sx_icmp_ge (pc := 17) (tgt := 116) dX12_areWithin_17 (by decide) (fun c23 => ?_) (fun c23 => ?_)
  · have h := sx_pos c23 h
    refine sx_iconst (pc := 116) (v := 0) dX12_areWithin_116 (by decide) ?_
    refine sx_istore_n (pc := 117) (lo' := [(2, .int (0 : Int32)), (0, .ref 146), (1, .int l1)]) dX12_areWithin_117 (by decide) rfl ?_
    refine sx_wk (sx_s1 sx_m1 (sx_s1 sx_m2 (sx_s1 sx_m0 sx_s0))) ?_
    exact tL_X12_areWithin_118 hG hP hk2 N _ _ _ h
  · have h := sx_neg c23 h
    refine sx_aload_n (pc := 20) dX12_areWithin_20 sx_m0 ?_
    refine sx_iload_n (pc := 21) dX12_areWithin_21 sx_m2 ?_
    obtain ⟨⟨x26, V24⟩, g25, h⟩ := sx_bnd h
    refine sv_cV (pc := 22) (y := qX12_isGlyph) (o := (some (.int x26))) (as := [.int l2]) (V1 := V24) hG dX12_areWithin_22 l_X12_278 y0X12_isGlyph yvX12_isGlyph rfl (Nat.le_of_ble_eq_true rfl) lay_146 kr_12 (by decide) (Nat.le_of_ble_eq_true rfl) rfl rfl rfl (t_X12_isGlyph hG ⟨rfl, rfl⟩ g25) ?_
    refine sx_istore_n (pc := 25) (lo' := [(3, .int x26), (0, .ref 146), (1, .int l1), (2, .int l2)]) dX12_areWithin_25 (by decide) rfl ?_
    refine sx_aload_n (pc := 26) dX12_areWithin_26 sx_m1 ?_
    refine sv_getA (pc := 27) hG dX12_areWithin_27 f_12_61 lay_146 rfl cr_146_43 ?_
    refine sx_iload_n (pc := 30) dX12_areWithin_30 sx_m3 ?_
    refine sx_aload_n (pc := 31) dX12_areWithin_31 sx_m1 ?_
    refine sv_getI (pc := 32) hG dX12_areWithin_32 f_12_348 lay_146 rfl ?_
    refine sx_iconst (pc := 35) (v := (-1)) dX12_areWithin_35 (by decide) ?_
    refine sx_icmp_ne (pc := 36) (tgt := 43) dX12_areWithin_36 (by decide) (fun c27 => ?_) (fun c27 => ?_)
    · have h := sx_neg c27 h
      refine sx_wk (sx_s1 sx_m1 (sx_s1 sx_m2 (sx_s1 sx_m3 sx_s0))) ?_
      exact tB_X12_areWithin_43 hG hP hk2 hk12 h
    · have h := sx_pos c27 h
      refine sx_iload_n (pc := 39) dX12_areWithin_39 sx_m2 ?_
      refine sx_if_le (pc := 40) (tgt := 47) dX12_areWithin_40 (by decide) (fun c28 => ?_) (fun c28 => ?_)
      · have h := sx_pos c28 h
        refine sx_iconst (pc := 47) (v := 0) dX12_areWithin_47 (by decide) ?_
        refine sx_wk (sx_s1 sx_m1 (sx_s1 sx_m2 (sx_s1 sx_m3 sx_s0))) ?_
        exact tB_X12_areWithin_48 hG hP hk2 hk12 h
      · have h := sx_neg c28 h
        refine sx_wk (sx_s1 sx_m1 (sx_s1 sx_m2 (sx_s1 sx_m3 sx_s0))) ?_
        exact tB_X12_areWithin_43 hG hP hk2 hk12 h
theorem tL_X12_areWithin_12 {g : sx_G} (hG : sx_Go g) {P : Option Value → sv_V → Prop} {r : Int32} {Vr : sv_V} (hP : P (some (.int r)) Vr) {N : Nat} {k2 : Int32 → sv_V → Option (Int32 × sv_V)} (hk2 : ∀ (l1 : Int32) (V : sv_V), k2 l1 V = some (r, Vr) → sv_N g qX12_areWithin 6 2 [(0, .ref 146), (1, .int l1)] [] V P) : ∀ (n : Nat) (l1 : Int32) (l2 : Int32) (V : sv_V), sx_lp3 (B_X12_areWithin_12 N k2) n l1 l2 V = some (r, Vr) → sv_N g qX12_areWithin 6 12 [(0, .ref 146), (1, .int l1), (2, .int l2)] [] V P :=
  sx_lp3_ind (fun k0 ih _ _ V h => tB_X12_areWithin_12 hG hP hk2 ih h)
def B_X12_areWithin_152 (N : Nat) (k152 : Int32 → sv_V → Option (Int32 × sv_V)) (l1 : Int32) (V : sv_V) : Option (Int32 × sv_V) := if (V.1 146 12) ≤ l1 then (some ((1 : Int32), V)) else (if sx_in l1 200 = true then if (V.1 162 l1.toNatClampNeg) = 0 then (some ((0 : Int32), V)) else (sx_let (l1 + 1) (fun x32 => k152 x32 V)) else none)
set_option maxRecDepth 20000 in
theorem tB_X12_areWithin_152 {g : sx_G} (hG : sx_Go g) {P : Option Value → sv_V → Prop} {r : Int32} {Vr : sv_V} (hP : P (some (.int r)) Vr) {N : Nat} {k152 : Int32 → sv_V → Option (Int32 × sv_V)} (hk152 : ∀ (l1 : Int32) (V : sv_V), k152 l1 V = some (r, Vr) → sv_N g qX12_areWithin 6 152 [(0, .ref 146), (1, .int l1)] [] V P) {l1 : Int32} {V : sv_V} (h : B_X12_areWithin_152 N k152 l1 V = some (r, Vr)) : sv_N g qX12_areWithin 6 152 [(0, .ref 146), (1, .int l1)] [] V P := by
  unfold B_X12_areWithin_152 at h
  refine sx_iload_n (pc := 152) dX12_areWithin_152 sx_m1 ?_
  refine sx_aload_n (pc := 153) dX12_areWithin_153 sx_m0 ?_
  refine sv_getI (pc := 154) hG dX12_areWithin_154 f_12_260 lay_146 rfl ?_
  refine sx_icmp_ge (pc := 157) (tgt := 177) dX12_areWithin_157 (by decide) (fun c29 => ?_) (fun c29 => ?_)
  · have h := sx_pos c29 h
    refine sx_iconst (pc := 177) (v := 1) dX12_areWithin_177 (by decide) ?_
    exact sv_zret (pc := 178) dX12_areWithin_178 rfl rfl h hP
  · have h := sx_neg c29 h
    refine sx_aload_n (pc := 160) dX12_areWithin_160 sx_m0 ?_
    refine sv_getA (pc := 161) hG dX12_areWithin_161 f_12_57 lay_146 rfl cr_146_42 ?_
    refine sx_iload_n (pc := 164) dX12_areWithin_164 sx_m1 ?_
    obtain ⟨g30, h⟩ := sx_grd h
    refine sv_zald (pc := 165) hG dX12_areWithin_165 lay_162 g30 ?_
    refine sx_if_ne (pc := 166) (tgt := 171) dX12_areWithin_166 (by decide) (fun c31 => ?_) (fun c31 => ?_)
    · have h := sx_neg c31 h
      obtain ⟨x32, hx32⟩ : ∃ z : Int32, z = l1 + 1 := ⟨_, rfl⟩
      have h := sx_letE hx32 h
      refine sx_iinc (pc := 171) (v := x32) (lo' := [(1, .int x32), (0, .ref 146)]) dX12_areWithin_171 sx_m1 (by rw [hx32]; rfl) (by decide) rfl ?_
      refine sx_goto (pc := 174) (tgt := 152) dX12_areWithin_174 (by decide) ?_
      refine sx_wk (sx_s1 sx_m1 (sx_s1 sx_m0 sx_s0)) ?_
      exact hk152 _ _ h
    · have h := sx_pos c31 h
      refine sx_iconst (pc := 169) (v := 0) dX12_areWithin_169 (by decide) ?_
      exact sv_zret (pc := 170) dX12_areWithin_170 rfl rfl h hP
theorem tL_X12_areWithin_152 {g : sx_G} (hG : sx_Go g) {P : Option Value → sv_V → Prop} {r : Int32} {Vr : sv_V} (hP : P (some (.int r)) Vr) {N : Nat}   : ∀ (n : Nat) (l1 : Int32) (V : sv_V), sx_lp2 (B_X12_areWithin_152 N ) n l1 V = some (r, Vr) → sv_N g qX12_areWithin 6 152 [(0, .ref 146), (1, .int l1)] [] V P :=
  sx_lp2_ind (fun k0 ih _ V h => tB_X12_areWithin_152 hG hP ih h)
def B_X12_areWithin_2 (N : Nat) (k2 : Int32 → sv_V → Option (Int32 × sv_V)) (l1 : Int32) (V : sv_V) : Option (Int32 × sv_V) := if (V.1 146 19) < l1 then (sx_lp2 (B_X12_areWithin_152 N ) N (0 : Int32) V) else (sx_lp3 (B_X12_areWithin_12 N k2) N l1 (0 : Int32) V)
set_option maxRecDepth 20000 in
theorem tB_X12_areWithin_2 {g : sx_G} (hG : sx_Go g) {P : Option Value → sv_V → Prop} {r : Int32} {Vr : sv_V} (hP : P (some (.int r)) Vr) {N : Nat} {k2 : Int32 → sv_V → Option (Int32 × sv_V)} (hk2 : ∀ (l1 : Int32) (V : sv_V), k2 l1 V = some (r, Vr) → sv_N g qX12_areWithin 6 2 [(0, .ref 146), (1, .int l1)] [] V P) {l1 : Int32} {V : sv_V} (h : B_X12_areWithin_2 N k2 l1 V = some (r, Vr)) : sv_N g qX12_areWithin 6 2 [(0, .ref 146), (1, .int l1)] [] V P := by
  unfold B_X12_areWithin_2 at h
  refine sx_iload_n (pc := 2) dX12_areWithin_2 sx_m1 ?_
  refine sx_aload_n (pc := 3) dX12_areWithin_3 sx_m0 ?_
  refine sv_getI (pc := 4) hG dX12_areWithin_4 f_12_331 lay_146 rfl ?_
  refine sx_icmp_gt (pc := 7) (tgt := 150) dX12_areWithin_7 (by decide) (fun c33 => ?_) (fun c33 => ?_)
  · have h := sx_pos c33 h
    refine sx_iconst (pc := 150) (v := 0) dX12_areWithin_150 (by decide) ?_
    refine sx_istore_n (pc := 151) (lo' := [(1, .int (0 : Int32)), (0, .ref 146)]) dX12_areWithin_151 (by decide) rfl ?_
    refine sx_wk (sx_s1 sx_m1 (sx_s1 sx_m0 sx_s0)) ?_
    exact tL_X12_areWithin_152 hG hP  N _ _ h
  · have h := sx_neg c33 h
    refine sx_iconst (pc := 10) (v := 0) dX12_areWithin_10 (by decide) ?_
    refine sx_istore_n (pc := 11) (lo' := [(2, .int (0 : Int32)), (0, .ref 146), (1, .int l1)]) dX12_areWithin_11 (by decide) rfl ?_
    refine sx_wk (sx_s1 sx_m1 (sx_s1 sx_m2 (sx_s1 sx_m0 sx_s0))) ?_
    exact tL_X12_areWithin_12 hG hP hk2 N _ _ _ h
theorem tL_X12_areWithin_2 {g : sx_G} (hG : sx_Go g) {P : Option Value → sv_V → Prop} {r : Int32} {Vr : sv_V} (hP : P (some (.int r)) Vr) {N : Nat}   : ∀ (n : Nat) (l1 : Int32) (V : sv_V), sx_lp2 (B_X12_areWithin_2 N ) n l1 V = some (r, Vr) → sv_N g qX12_areWithin 6 2 [(0, .ref 146), (1, .int l1)] [] V P :=
  sx_lp2_ind (fun k0 ih _ V h => tB_X12_areWithin_2 hG hP ih h)
def F_X12_areWithin (N : Nat)  (V : sv_V) : Option (Int32 × sv_V) := sx_lp2 (B_X12_areWithin_2 N ) N (0 : Int32) V
set_option maxRecDepth 20000 in
theorem t_X12_areWithin {g : sx_G} (hG : sx_Go g) {P : Option Value → sv_V → Prop} {r : Int32} {Vr : sv_V} (hP : P (some (.int r)) Vr) {N : Nat}  {V : sv_V} (h : F_X12_areWithin N  V = some (r, Vr)) : sv_N g qX12_areWithin 6 0 [(0, .ref 146)] [] V P := by
  unfold F_X12_areWithin at h
  refine sx_iconst (pc := 0) (v := 0) dX12_areWithin_0 (by decide) ?_
  refine sx_istore_n (pc := 1) (lo' := [(1, .int (0 : Int32)), (0, .ref 146)]) dX12_areWithin_1 (by decide) rfl ?_
  refine sx_wk (sx_s1 sx_m1 (sx_s1 sx_m0 sx_s0)) ?_
  exact tL_X12_areWithin_2 hG hP  N _ _ h
def ncX12_by : Nat := 3847577150060755127774865748979676029751428378
theorem kcX12_by : CK cX12_by ncX12_by 19 := ⟨by decide +kernel, by decide +kernel⟩
theorem dX12_by_0 : decode cX12_by 0 = .ok (.iload_n 0, 1) := dl_o26 kcX12_by (by decide +kernel)
theorem dX12_by_1 : decode cX12_by 1 = .ok (.i2l, 1) := dl_o133 kcX12_by (by decide +kernel)
theorem dX12_by_2 : decode cX12_by 2 = .ok (.iload_n 2, 1) := dl_o28 kcX12_by (by decide +kernel)
theorem dX12_by_3 : decode cX12_by 3 = .ok (.i2l, 1) := dl_o133 kcX12_by (by decide +kernel)
theorem dX12_by_4 : decode cX12_by 4 = .ok (.lmul, 1) := dl_o105 kcX12_by (by decide +kernel)
theorem dX12_by_5 : decode cX12_by 5 = .ok (.iload_n 1, 1) := dl_o27 kcX12_by (by decide +kernel)
theorem dX12_by_6 : decode cX12_by 6 = .ok (.i2l, 1) := dl_o133 kcX12_by (by decide +kernel)
theorem dX12_by_7 : decode cX12_by 7 = .ok (.iload_n 3, 1) := dl_o29 kcX12_by (by decide +kernel)
theorem dX12_by_8 : decode cX12_by 8 = .ok (.i2l, 1) := dl_o133 kcX12_by (by decide +kernel)
theorem dX12_by_9 : decode cX12_by 9 = .ok (.lmul, 1) := dl_o105 kcX12_by (by decide +kernel)
theorem dX12_by_10 : decode cX12_by 10 = .ok (.ladd, 1) := dl_o97 kcX12_by (by decide +kernel)
theorem dX12_by_11 : decode cX12_by 11 = .ok (.ldc2_w 310, 3) := dl_o20 kcX12_by (by decide +kernel)
theorem dX12_by_14 : decode cX12_by 14 = .ok (.invokestatic 517, 3) := dl_o184 kcX12_by (by decide +kernel)
theorem dX12_by_17 : decode cX12_by 17 = .ok (.l2i, 1) := dl_o136 kcX12_by (by decide +kernel)
theorem dX12_by_18 : decode cX12_by 18 = .ok (.ireturn, 1) := dl_o172 kcX12_by (by decide +kernel)
def F_X12_by (l0 : Int32) (l1 : Int32) (l2 : Int32) (l3 : Int32) (V : sv_V) : Option (Int32 × sv_V) := (F_X12_over ((l0.toInt64 * l2.toInt64) + (l1.toInt64 * l3.toInt64)) (16384 : Int64) V).bind (fun (x3, V1) => some (x3.toInt32, V1))
set_option maxRecDepth 20000 in
theorem t_X12_by {g : sx_G} (hG : sx_Go g) {P : Option Value → sv_V → Prop} {r : Int32} {Vr : sv_V} (hP : P (some (.int r)) Vr) {l0 : Int32} {l1 : Int32} {l2 : Int32} {l3 : Int32} {V : sv_V} (h : F_X12_by l0 l1 l2 l3 V = some (r, Vr)) : sv_N g qX12_by 3 0 [(0, .int l0), (1, .int l1), (2, .int l2), (3, .int l3)] [] V P := by
  unfold F_X12_by at h
  refine sx_iload_n (pc := 0) dX12_by_0 sx_m0 ?_
  refine sx_i2l (pc := 1) dX12_by_1 ?_
  refine sx_iload_n (pc := 2) dX12_by_2 sx_m2 ?_
  refine sx_i2l (pc := 3) dX12_by_3 ?_
  refine sx_lmul (pc := 4) dX12_by_4 ?_
  refine sx_iload_n (pc := 5) dX12_by_5 sx_m1 ?_
  refine sx_i2l (pc := 6) dX12_by_6 ?_
  refine sx_iload_n (pc := 7) dX12_by_7 sx_m3 ?_
  refine sx_i2l (pc := 8) dX12_by_8 ?_
  refine sx_lmul (pc := 9) dX12_by_9 ?_
  refine sx_ladd (pc := 10) dX12_by_10 ?_
  refine sx_ldc2 (pc := 11) dX12_by_11 k_X12_310 ?_
  obtain ⟨⟨x3, V1⟩, g2, h⟩ := sx_bnd h
  refine sv_cS (pc := 14) (y := qX12_over) (o := (some (.long x3))) (as := [.long ((l0.toInt64 * l2.toInt64) + (l1.toInt64 * l3.toInt64)), .long (16384 : Int64)]) (V1 := V1) dX12_by_14 l_X12_517 y0X12_over ysX12_over rfl (Nat.le_of_ble_eq_true rfl) (by decide) (Nat.le_of_ble_eq_true rfl) rfl rfl rfl (t_X12_over hG ⟨rfl, rfl⟩ g2) ?_
  refine sx_l2i (pc := 17) dX12_by_17 ?_
  exact sv_iret (pc := 18) dX12_by_18 rfl h hP
def ncX12_longOf : Nat := 4218194994500408943804798641351266700193551678566494680106
theorem kcX12_longOf : CK cX12_longOf ncX12_longOf 24 := ⟨by decide +kernel, by decide +kernel⟩
theorem dX12_longOf_0 : decode cX12_longOf 0 = .ok (.aload_n 0, 1) := dl_o42 kcX12_longOf (by decide +kernel)
theorem dX12_longOf_1 : decode cX12_longOf 1 = .ok (.getfield 76, 3) := dl_o180 kcX12_longOf (by decide +kernel)
theorem dX12_longOf_4 : decode cX12_longOf 4 = .ok (.iload_n 1, 1) := dl_o27 kcX12_longOf (by decide +kernel)
theorem dX12_longOf_5 : decode cX12_longOf 5 = .ok (.iaload, 1) := dl_o46 kcX12_longOf (by decide +kernel)
theorem dX12_longOf_6 : decode cX12_longOf 6 = .ok (.aload_n 0, 1) := dl_o42 kcX12_longOf (by decide +kernel)
theorem dX12_longOf_7 : decode cX12_longOf 7 = .ok (.getfield 79, 3) := dl_o180 kcX12_longOf (by decide +kernel)
theorem dX12_longOf_10 : decode cX12_longOf 10 = .ok (.iload_n 1, 1) := dl_o27 kcX12_longOf (by decide +kernel)
theorem dX12_longOf_11 : decode cX12_longOf 11 = .ok (.iaload, 1) := dl_o46 kcX12_longOf (by decide +kernel)
theorem dX12_longOf_12 : decode cX12_longOf 12 = .ok (.aload_n 0, 1) := dl_o42 kcX12_longOf (by decide +kernel)
theorem dX12_longOf_13 : decode cX12_longOf 13 = .ok (.getfield 439, 3) := dl_o180 kcX12_longOf (by decide +kernel)
theorem dX12_longOf_16 : decode cX12_longOf 16 = .ok (.aload_n 0, 1) := dl_o42 kcX12_longOf (by decide +kernel)
theorem dX12_longOf_17 : decode cX12_longOf 17 = .ok (.getfield 442, 3) := dl_o180 kcX12_longOf (by decide +kernel)
theorem dX12_longOf_20 : decode cX12_longOf 20 = .ok (.invokestatic 520, 3) := dl_o184 kcX12_longOf (by decide +kernel)
theorem dX12_longOf_23 : decode cX12_longOf 23 = .ok (.ireturn, 1) := dl_o172 kcX12_longOf (by decide +kernel)
def F_X12_longOf (l1 : Int32) (V : sv_V) : Option (Int32 × sv_V) := if sx_in l1 204 = true then if sx_in l1 204 = true then (F_X12_by (V.1 168 l1.toNatClampNeg) (V.1 169 l1.toNatClampNeg) (V.1 146 65) (V.1 146 66) V).bind (fun (x5, V3) => some (x5, V3)) else none else none
set_option maxRecDepth 20000 in
theorem t_X12_longOf {g : sx_G} (hG : sx_Go g) {P : Option Value → sv_V → Prop} {r : Int32} {Vr : sv_V} (hP : P (some (.int r)) Vr) {l1 : Int32} {V : sv_V} (h : F_X12_longOf l1 V = some (r, Vr)) : sv_N g qX12_longOf 4 0 [(0, .ref 146), (1, .int l1)] [] V P := by
  unfold F_X12_longOf at h
  refine sx_aload_n (pc := 0) dX12_longOf_0 sx_m0 ?_
  refine sv_getA (pc := 1) hG dX12_longOf_1 f_12_76 lay_146 rfl cr_146_48 ?_
  refine sx_iload_n (pc := 4) dX12_longOf_4 sx_m1 ?_
  obtain ⟨g1, h⟩ := sx_grd h
  refine sv_iald (pc := 5) hG dX12_longOf_5 lay_168 g1 ?_
  refine sx_aload_n (pc := 6) dX12_longOf_6 sx_m0 ?_
  refine sv_getA (pc := 7) hG dX12_longOf_7 f_12_79 lay_146 rfl cr_146_49 ?_
  refine sx_iload_n (pc := 10) dX12_longOf_10 sx_m1 ?_
  obtain ⟨g2, h⟩ := sx_grd h
  refine sv_iald (pc := 11) hG dX12_longOf_11 lay_169 g2 ?_
  refine sx_aload_n (pc := 12) dX12_longOf_12 sx_m0 ?_
  refine sv_getI (pc := 13) hG dX12_longOf_13 f_12_439 lay_146 rfl ?_
  refine sx_aload_n (pc := 16) dX12_longOf_16 sx_m0 ?_
  refine sv_getI (pc := 17) hG dX12_longOf_17 f_12_442 lay_146 rfl ?_
  obtain ⟨⟨x5, V3⟩, g4, h⟩ := sx_bnd h
  refine sv_cS (pc := 20) (y := qX12_by) (o := (some (.int x5))) (as := [.int (V.1 168 l1.toNatClampNeg), .int (V.1 169 l1.toNatClampNeg), .int (V.1 146 65), .int (V.1 146 66)]) (V1 := V3) dX12_longOf_20 l_X12_520 y0X12_by ysX12_by rfl (Nat.le_of_ble_eq_true rfl) (by decide) (Nat.le_of_ble_eq_true rfl) rfl rfl rfl (t_X12_by hG ⟨rfl, rfl⟩ g4) ?_
  exact sv_iret (pc := 23) dX12_longOf_23 rfl h hP
def ncX12_between : Nat := 21902120618631807864220618271859899369609450912893085728530632945389240667879399954365592618
theorem kcX12_between : CK cX12_between ncX12_between 38 := ⟨by decide +kernel, by decide +kernel⟩
theorem dX12_between_0 : decode cX12_between 0 = .ok (.aload_n 0, 1) := dl_o42 kcX12_between (by decide +kernel)
theorem dX12_between_1 : decode cX12_between 1 = .ok (.getfield 76, 3) := dl_o180 kcX12_between (by decide +kernel)
theorem dX12_between_4 : decode cX12_between 4 = .ok (.iload_n 1, 1) := dl_o27 kcX12_between (by decide +kernel)
theorem dX12_between_5 : decode cX12_between 5 = .ok (.iaload, 1) := dl_o46 kcX12_between (by decide +kernel)
theorem dX12_between_6 : decode cX12_between 6 = .ok (.aload_n 0, 1) := dl_o42 kcX12_between (by decide +kernel)
theorem dX12_between_7 : decode cX12_between 7 = .ok (.getfield 76, 3) := dl_o180 kcX12_between (by decide +kernel)
theorem dX12_between_10 : decode cX12_between 10 = .ok (.iload_n 2, 1) := dl_o28 kcX12_between (by decide +kernel)
theorem dX12_between_11 : decode cX12_between 11 = .ok (.iaload, 1) := dl_o46 kcX12_between (by decide +kernel)
theorem dX12_between_12 : decode cX12_between 12 = .ok (.isub, 1) := dl_o100 kcX12_between (by decide +kernel)
theorem dX12_between_13 : decode cX12_between 13 = .ok (.aload_n 0, 1) := dl_o42 kcX12_between (by decide +kernel)
theorem dX12_between_14 : decode cX12_between 14 = .ok (.getfield 79, 3) := dl_o180 kcX12_between (by decide +kernel)
theorem dX12_between_17 : decode cX12_between 17 = .ok (.iload_n 1, 1) := dl_o27 kcX12_between (by decide +kernel)
theorem dX12_between_18 : decode cX12_between 18 = .ok (.iaload, 1) := dl_o46 kcX12_between (by decide +kernel)
theorem dX12_between_19 : decode cX12_between 19 = .ok (.aload_n 0, 1) := dl_o42 kcX12_between (by decide +kernel)
theorem dX12_between_20 : decode cX12_between 20 = .ok (.getfield 79, 3) := dl_o180 kcX12_between (by decide +kernel)
theorem dX12_between_23 : decode cX12_between 23 = .ok (.iload_n 2, 1) := dl_o28 kcX12_between (by decide +kernel)
theorem dX12_between_24 : decode cX12_between 24 = .ok (.iaload, 1) := dl_o46 kcX12_between (by decide +kernel)
theorem dX12_between_25 : decode cX12_between 25 = .ok (.isub, 1) := dl_o100 kcX12_between (by decide +kernel)
theorem dX12_between_26 : decode cX12_between 26 = .ok (.aload_n 0, 1) := dl_o42 kcX12_between (by decide +kernel)
theorem dX12_between_27 : decode cX12_between 27 = .ok (.getfield 439, 3) := dl_o180 kcX12_between (by decide +kernel)
theorem dX12_between_30 : decode cX12_between 30 = .ok (.aload_n 0, 1) := dl_o42 kcX12_between (by decide +kernel)
theorem dX12_between_31 : decode cX12_between 31 = .ok (.getfield 442, 3) := dl_o180 kcX12_between (by decide +kernel)
theorem dX12_between_34 : decode cX12_between 34 = .ok (.invokestatic 520, 3) := dl_o184 kcX12_between (by decide +kernel)
theorem dX12_between_37 : decode cX12_between 37 = .ok (.ireturn, 1) := dl_o172 kcX12_between (by decide +kernel)
def F_X12_between (l1 : Int32) (l2 : Int32) (V : sv_V) : Option (Int32 × sv_V) := if sx_in l1 204 = true then if sx_in l2 204 = true then if sx_in l1 204 = true then if sx_in l2 204 = true then (F_X12_by ((V.1 168 l1.toNatClampNeg) - (V.1 168 l2.toNatClampNeg)) ((V.1 169 l1.toNatClampNeg) - (V.1 169 l2.toNatClampNeg)) (V.1 146 65) (V.1 146 66) V).bind (fun (x7, V5) => some (x7, V5)) else none else none else none else none
set_option maxRecDepth 20000 in
theorem t_X12_between {g : sx_G} (hG : sx_Go g) {P : Option Value → sv_V → Prop} {r : Int32} {Vr : sv_V} (hP : P (some (.int r)) Vr) {l1 : Int32} {l2 : Int32} {V : sv_V} (h : F_X12_between l1 l2 V = some (r, Vr)) : sv_N g qX12_between 4 0 [(0, .ref 146), (1, .int l1), (2, .int l2)] [] V P := by
  unfold F_X12_between at h
  refine sx_aload_n (pc := 0) dX12_between_0 sx_m0 ?_
  refine sv_getA (pc := 1) hG dX12_between_1 f_12_76 lay_146 rfl cr_146_48 ?_
  refine sx_iload_n (pc := 4) dX12_between_4 sx_m1 ?_
  obtain ⟨g1, h⟩ := sx_grd h
  refine sv_iald (pc := 5) hG dX12_between_5 lay_168 g1 ?_
  refine sx_aload_n (pc := 6) dX12_between_6 sx_m0 ?_
  refine sv_getA (pc := 7) hG dX12_between_7 f_12_76 lay_146 rfl cr_146_48 ?_
  refine sx_iload_n (pc := 10) dX12_between_10 sx_m2 ?_
  obtain ⟨g2, h⟩ := sx_grd h
  refine sv_iald (pc := 11) hG dX12_between_11 lay_168 g2 ?_
  refine sx_isub (pc := 12) dX12_between_12 ?_
  refine sx_aload_n (pc := 13) dX12_between_13 sx_m0 ?_
  refine sv_getA (pc := 14) hG dX12_between_14 f_12_79 lay_146 rfl cr_146_49 ?_
  refine sx_iload_n (pc := 17) dX12_between_17 sx_m1 ?_
  obtain ⟨g3, h⟩ := sx_grd h
  refine sv_iald (pc := 18) hG dX12_between_18 lay_169 g3 ?_
  refine sx_aload_n (pc := 19) dX12_between_19 sx_m0 ?_
  refine sv_getA (pc := 20) hG dX12_between_20 f_12_79 lay_146 rfl cr_146_49 ?_
  refine sx_iload_n (pc := 23) dX12_between_23 sx_m2 ?_
  obtain ⟨g4, h⟩ := sx_grd h
  refine sv_iald (pc := 24) hG dX12_between_24 lay_169 g4 ?_
  refine sx_isub (pc := 25) dX12_between_25 ?_
  refine sx_aload_n (pc := 26) dX12_between_26 sx_m0 ?_
  refine sv_getI (pc := 27) hG dX12_between_27 f_12_439 lay_146 rfl ?_
  refine sx_aload_n (pc := 30) dX12_between_30 sx_m0 ?_
  refine sv_getI (pc := 31) hG dX12_between_31 f_12_442 lay_146 rfl ?_
  obtain ⟨⟨x7, V5⟩, g6, h⟩ := sx_bnd h
  refine sv_cS (pc := 34) (y := qX12_by) (o := (some (.int x7))) (as := [.int ((V.1 168 l1.toNatClampNeg) - (V.1 168 l2.toNatClampNeg)), .int ((V.1 169 l1.toNatClampNeg) - (V.1 169 l2.toNatClampNeg)), .int (V.1 146 65), .int (V.1 146 66)]) (V1 := V5) dX12_between_34 l_X12_520 y0X12_by ysX12_by rfl (Nat.le_of_ble_eq_true rfl) (by decide) (Nat.le_of_ble_eq_true rfl) rfl rfl rfl (t_X12_by hG ⟨rfl, rfl⟩ g6) ?_
  exact sv_iret (pc := 37) dX12_between_37 rfl h hP
def ncX12_originally : Nat := 21902120618809664513330546426111247784732718246704660214113181844774694777942960687435265066
theorem kcX12_originally : CK cX12_originally ncX12_originally 38 := ⟨by decide +kernel, by decide +kernel⟩
theorem dX12_originally_0 : decode cX12_originally 0 = .ok (.aload_n 0, 1) := dl_o42 kcX12_originally (by decide +kernel)
theorem dX12_originally_1 : decode cX12_originally 1 = .ok (.getfield 70, 3) := dl_o180 kcX12_originally (by decide +kernel)
theorem dX12_originally_4 : decode cX12_originally 4 = .ok (.iload_n 1, 1) := dl_o27 kcX12_originally (by decide +kernel)
theorem dX12_originally_5 : decode cX12_originally 5 = .ok (.iaload, 1) := dl_o46 kcX12_originally (by decide +kernel)
theorem dX12_originally_6 : decode cX12_originally 6 = .ok (.aload_n 0, 1) := dl_o42 kcX12_originally (by decide +kernel)
theorem dX12_originally_7 : decode cX12_originally 7 = .ok (.getfield 70, 3) := dl_o180 kcX12_originally (by decide +kernel)
theorem dX12_originally_10 : decode cX12_originally 10 = .ok (.iload_n 2, 1) := dl_o28 kcX12_originally (by decide +kernel)
theorem dX12_originally_11 : decode cX12_originally 11 = .ok (.iaload, 1) := dl_o46 kcX12_originally (by decide +kernel)
theorem dX12_originally_12 : decode cX12_originally 12 = .ok (.isub, 1) := dl_o100 kcX12_originally (by decide +kernel)
theorem dX12_originally_13 : decode cX12_originally 13 = .ok (.aload_n 0, 1) := dl_o42 kcX12_originally (by decide +kernel)
theorem dX12_originally_14 : decode cX12_originally 14 = .ok (.getfield 73, 3) := dl_o180 kcX12_originally (by decide +kernel)
theorem dX12_originally_17 : decode cX12_originally 17 = .ok (.iload_n 1, 1) := dl_o27 kcX12_originally (by decide +kernel)
theorem dX12_originally_18 : decode cX12_originally 18 = .ok (.iaload, 1) := dl_o46 kcX12_originally (by decide +kernel)
theorem dX12_originally_19 : decode cX12_originally 19 = .ok (.aload_n 0, 1) := dl_o42 kcX12_originally (by decide +kernel)
theorem dX12_originally_20 : decode cX12_originally 20 = .ok (.getfield 73, 3) := dl_o180 kcX12_originally (by decide +kernel)
theorem dX12_originally_23 : decode cX12_originally 23 = .ok (.iload_n 2, 1) := dl_o28 kcX12_originally (by decide +kernel)
theorem dX12_originally_24 : decode cX12_originally 24 = .ok (.iaload, 1) := dl_o46 kcX12_originally (by decide +kernel)
theorem dX12_originally_25 : decode cX12_originally 25 = .ok (.isub, 1) := dl_o100 kcX12_originally (by decide +kernel)
theorem dX12_originally_26 : decode cX12_originally 26 = .ok (.aload_n 0, 1) := dl_o42 kcX12_originally (by decide +kernel)
theorem dX12_originally_27 : decode cX12_originally 27 = .ok (.getfield 445, 3) := dl_o180 kcX12_originally (by decide +kernel)
theorem dX12_originally_30 : decode cX12_originally 30 = .ok (.aload_n 0, 1) := dl_o42 kcX12_originally (by decide +kernel)
theorem dX12_originally_31 : decode cX12_originally 31 = .ok (.getfield 448, 3) := dl_o180 kcX12_originally (by decide +kernel)
theorem dX12_originally_34 : decode cX12_originally 34 = .ok (.invokestatic 520, 3) := dl_o184 kcX12_originally (by decide +kernel)
theorem dX12_originally_37 : decode cX12_originally 37 = .ok (.ireturn, 1) := dl_o172 kcX12_originally (by decide +kernel)
def F_X12_originally (l1 : Int32) (l2 : Int32) (V : sv_V) : Option (Int32 × sv_V) := if sx_in l1 204 = true then if sx_in l2 204 = true then if sx_in l1 204 = true then if sx_in l2 204 = true then (F_X12_by ((V.1 166 l1.toNatClampNeg) - (V.1 166 l2.toNatClampNeg)) ((V.1 167 l1.toNatClampNeg) - (V.1 167 l2.toNatClampNeg)) (V.1 146 67) (V.1 146 68) V).bind (fun (x7, V5) => some (x7, V5)) else none else none else none else none
set_option maxRecDepth 20000 in
theorem t_X12_originally {g : sx_G} (hG : sx_Go g) {P : Option Value → sv_V → Prop} {r : Int32} {Vr : sv_V} (hP : P (some (.int r)) Vr) {l1 : Int32} {l2 : Int32} {V : sv_V} (h : F_X12_originally l1 l2 V = some (r, Vr)) : sv_N g qX12_originally 4 0 [(0, .ref 146), (1, .int l1), (2, .int l2)] [] V P := by
  unfold F_X12_originally at h
  refine sx_aload_n (pc := 0) dX12_originally_0 sx_m0 ?_
  refine sv_getA (pc := 1) hG dX12_originally_1 f_12_70 lay_146 rfl cr_146_46 ?_
  refine sx_iload_n (pc := 4) dX12_originally_4 sx_m1 ?_
  obtain ⟨g1, h⟩ := sx_grd h
  refine sv_iald (pc := 5) hG dX12_originally_5 lay_166 g1 ?_
  refine sx_aload_n (pc := 6) dX12_originally_6 sx_m0 ?_
  refine sv_getA (pc := 7) hG dX12_originally_7 f_12_70 lay_146 rfl cr_146_46 ?_
  refine sx_iload_n (pc := 10) dX12_originally_10 sx_m2 ?_
  obtain ⟨g2, h⟩ := sx_grd h
  refine sv_iald (pc := 11) hG dX12_originally_11 lay_166 g2 ?_
  refine sx_isub (pc := 12) dX12_originally_12 ?_
  refine sx_aload_n (pc := 13) dX12_originally_13 sx_m0 ?_
  refine sv_getA (pc := 14) hG dX12_originally_14 f_12_73 lay_146 rfl cr_146_47 ?_
  refine sx_iload_n (pc := 17) dX12_originally_17 sx_m1 ?_
  obtain ⟨g3, h⟩ := sx_grd h
  refine sv_iald (pc := 18) hG dX12_originally_18 lay_167 g3 ?_
  refine sx_aload_n (pc := 19) dX12_originally_19 sx_m0 ?_
  refine sv_getA (pc := 20) hG dX12_originally_20 f_12_73 lay_146 rfl cr_146_47 ?_
  refine sx_iload_n (pc := 23) dX12_originally_23 sx_m2 ?_
  obtain ⟨g4, h⟩ := sx_grd h
  refine sv_iald (pc := 24) hG dX12_originally_24 lay_167 g4 ?_
  refine sx_isub (pc := 25) dX12_originally_25 ?_
  refine sx_aload_n (pc := 26) dX12_originally_26 sx_m0 ?_
  refine sv_getI (pc := 27) hG dX12_originally_27 f_12_445 lay_146 rfl ?_
  refine sx_aload_n (pc := 30) dX12_originally_30 sx_m0 ?_
  refine sv_getI (pc := 31) hG dX12_originally_31 f_12_448 lay_146 rfl ?_
  obtain ⟨⟨x7, V5⟩, g6, h⟩ := sx_bnd h
  refine sv_cS (pc := 34) (y := qX12_by) (o := (some (.int x7))) (as := [.int ((V.1 166 l1.toNatClampNeg) - (V.1 166 l2.toNatClampNeg)), .int ((V.1 167 l1.toNatClampNeg) - (V.1 167 l2.toNatClampNeg)), .int (V.1 146 67), .int (V.1 146 68)]) (V1 := V5) dX12_originally_34 l_X12_520 y0X12_by ysX12_by rfl (Nat.le_of_ble_eq_true rfl) (by decide) (Nat.le_of_ble_eq_true rfl) rfl rfl rfl (t_X12_by hG ⟨rfl, rfl⟩ g6) ?_
  exact sv_iret (pc := 37) dX12_originally_37 rfl h hP
def ncX12_shiftBy : Nat := 102845068577553275363252676989727852107685006782500993973801812671771026649367518960570046787187334815213750716047742705155252020572957650386931215673659174325159505708963483611224782842974723695394718193438220381109613420642324100443602691034404563491940597486450547364663115986875434
theorem kcX12_shiftBy : CK cX12_shiftBy ncX12_shiftBy 118 := ⟨by decide +kernel, by decide +kernel⟩
theorem dX12_shiftBy_0 : decode cX12_shiftBy 0 = .ok (.aload_n 0, 1) := dl_o42 kcX12_shiftBy (by decide +kernel)
theorem dX12_shiftBy_1 : decode cX12_shiftBy 1 = .ok (.getfield 433, 3) := dl_o180 kcX12_shiftBy (by decide +kernel)
theorem dX12_shiftBy_4 : decode cX12_shiftBy 4 = .ok (.i2l, 1) := dl_o133 kcX12_shiftBy (by decide +kernel)
theorem dX12_shiftBy_5 : decode cX12_shiftBy 5 = .ok (.aload_n 0, 1) := dl_o42 kcX12_shiftBy (by decide +kernel)
theorem dX12_shiftBy_6 : decode cX12_shiftBy 6 = .ok (.getfield 439, 3) := dl_o180 kcX12_shiftBy (by decide +kernel)
theorem dX12_shiftBy_9 : decode cX12_shiftBy 9 = .ok (.i2l, 1) := dl_o133 kcX12_shiftBy (by decide +kernel)
theorem dX12_shiftBy_10 : decode cX12_shiftBy 10 = .ok (.lmul, 1) := dl_o105 kcX12_shiftBy (by decide +kernel)
theorem dX12_shiftBy_11 : decode cX12_shiftBy 11 = .ok (.aload_n 0, 1) := dl_o42 kcX12_shiftBy (by decide +kernel)
theorem dX12_shiftBy_12 : decode cX12_shiftBy 12 = .ok (.getfield 436, 3) := dl_o180 kcX12_shiftBy (by decide +kernel)
theorem dX12_shiftBy_15 : decode cX12_shiftBy 15 = .ok (.i2l, 1) := dl_o133 kcX12_shiftBy (by decide +kernel)
theorem dX12_shiftBy_16 : decode cX12_shiftBy 16 = .ok (.aload_n 0, 1) := dl_o42 kcX12_shiftBy (by decide +kernel)
theorem dX12_shiftBy_17 : decode cX12_shiftBy 17 = .ok (.getfield 442, 3) := dl_o180 kcX12_shiftBy (by decide +kernel)
theorem dX12_shiftBy_20 : decode cX12_shiftBy 20 = .ok (.i2l, 1) := dl_o133 kcX12_shiftBy (by decide +kernel)
theorem dX12_shiftBy_21 : decode cX12_shiftBy 21 = .ok (.lmul, 1) := dl_o105 kcX12_shiftBy (by decide +kernel)
theorem dX12_shiftBy_22 : decode cX12_shiftBy 22 = .ok (.ladd, 1) := dl_o97 kcX12_shiftBy (by decide +kernel)
theorem dX12_shiftBy_23 : decode cX12_shiftBy 23 = .ok (.ldc2_w 310, 3) := dl_o20 kcX12_shiftBy (by decide +kernel)
theorem dX12_shiftBy_26 : decode cX12_shiftBy 26 = .ok (.invokestatic 517, 3) := dl_o184 kcX12_shiftBy (by decide +kernel)
theorem dX12_shiftBy_29 : decode cX12_shiftBy 29 = .ok (.lstore 5, 2) := dl_o55 kcX12_shiftBy (by decide +kernel)
theorem dX12_shiftBy_31 : decode cX12_shiftBy 31 = .ok (.lload 5, 2) := dl_o22 kcX12_shiftBy (by decide +kernel)
theorem dX12_shiftBy_33 : decode cX12_shiftBy 33 = .ok (.invokestatic 198, 3) := dl_o184 kcX12_shiftBy (by decide +kernel)
theorem dX12_shiftBy_36 : decode cX12_shiftBy 36 = .ok (.ldc2_w 524, 3) := dl_o20 kcX12_shiftBy (by decide +kernel)
theorem dX12_shiftBy_39 : decode cX12_shiftBy 39 = .ok (.lcmp, 1) := dl_o148 kcX12_shiftBy (by decide +kernel)
theorem dX12_shiftBy_40 : decode cX12_shiftBy 40 = .ok (.ifCond .ge 9, 3) := dl_o156 kcX12_shiftBy 9 (by decide +kernel) (by decide +kernel)
theorem dX12_shiftBy_43 : decode cX12_shiftBy 43 = .ok (.ldc2_w 310, 3) := dl_o20 kcX12_shiftBy (by decide +kernel)
theorem dX12_shiftBy_46 : decode cX12_shiftBy 46 = .ok (.goto 5, 3) := dl_o167 kcX12_shiftBy 5 (by decide +kernel) (by decide +kernel)
theorem dX12_shiftBy_49 : decode cX12_shiftBy 49 = .ok (.lload 5, 2) := dl_o22 kcX12_shiftBy (by decide +kernel)
theorem dX12_shiftBy_51 : decode cX12_shiftBy 51 = .ok (.lstore 5, 2) := dl_o55 kcX12_shiftBy (by decide +kernel)
theorem dX12_shiftBy_53 : decode cX12_shiftBy 53 = .ok (.aload_n 0, 1) := dl_o42 kcX12_shiftBy (by decide +kernel)
theorem dX12_shiftBy_54 : decode cX12_shiftBy 54 = .ok (.getfield 76, 3) := dl_o180 kcX12_shiftBy (by decide +kernel)
theorem dX12_shiftBy_57 : decode cX12_shiftBy 57 = .ok (.iload_n 1, 1) := dl_o27 kcX12_shiftBy (by decide +kernel)
theorem dX12_shiftBy_58 : decode cX12_shiftBy 58 = .ok (.aload_n 0, 1) := dl_o42 kcX12_shiftBy (by decide +kernel)
theorem dX12_shiftBy_59 : decode cX12_shiftBy 59 = .ok (.getfield 76, 3) := dl_o180 kcX12_shiftBy (by decide +kernel)
theorem dX12_shiftBy_62 : decode cX12_shiftBy 62 = .ok (.iload_n 1, 1) := dl_o27 kcX12_shiftBy (by decide +kernel)
theorem dX12_shiftBy_63 : decode cX12_shiftBy 63 = .ok (.iaload, 1) := dl_o46 kcX12_shiftBy (by decide +kernel)
theorem dX12_shiftBy_64 : decode cX12_shiftBy 64 = .ok (.i2l, 1) := dl_o133 kcX12_shiftBy (by decide +kernel)
theorem dX12_shiftBy_65 : decode cX12_shiftBy 65 = .ok (.lload_n 2, 1) := dl_o32 kcX12_shiftBy (by decide +kernel)
theorem dX12_shiftBy_66 : decode cX12_shiftBy 66 = .ok (.aload_n 0, 1) := dl_o42 kcX12_shiftBy (by decide +kernel)
theorem dX12_shiftBy_67 : decode cX12_shiftBy 67 = .ok (.getfield 433, 3) := dl_o180 kcX12_shiftBy (by decide +kernel)
theorem dX12_shiftBy_70 : decode cX12_shiftBy 70 = .ok (.i2l, 1) := dl_o133 kcX12_shiftBy (by decide +kernel)
theorem dX12_shiftBy_71 : decode cX12_shiftBy 71 = .ok (.lmul, 1) := dl_o105 kcX12_shiftBy (by decide +kernel)
theorem dX12_shiftBy_72 : decode cX12_shiftBy 72 = .ok (.lload 5, 2) := dl_o22 kcX12_shiftBy (by decide +kernel)
theorem dX12_shiftBy_74 : decode cX12_shiftBy 74 = .ok (.invokestatic 194, 3) := dl_o184 kcX12_shiftBy (by decide +kernel)
theorem dX12_shiftBy_77 : decode cX12_shiftBy 77 = .ok (.ladd, 1) := dl_o97 kcX12_shiftBy (by decide +kernel)
theorem dX12_shiftBy_78 : decode cX12_shiftBy 78 = .ok (.l2i, 1) := dl_o136 kcX12_shiftBy (by decide +kernel)
theorem dX12_shiftBy_79 : decode cX12_shiftBy 79 = .ok (.iastore, 1) := dl_o79 kcX12_shiftBy (by decide +kernel)
theorem dX12_shiftBy_80 : decode cX12_shiftBy 80 = .ok (.aload_n 0, 1) := dl_o42 kcX12_shiftBy (by decide +kernel)
theorem dX12_shiftBy_81 : decode cX12_shiftBy 81 = .ok (.getfield 79, 3) := dl_o180 kcX12_shiftBy (by decide +kernel)
theorem dX12_shiftBy_84 : decode cX12_shiftBy 84 = .ok (.iload_n 1, 1) := dl_o27 kcX12_shiftBy (by decide +kernel)
theorem dX12_shiftBy_85 : decode cX12_shiftBy 85 = .ok (.aload_n 0, 1) := dl_o42 kcX12_shiftBy (by decide +kernel)
theorem dX12_shiftBy_86 : decode cX12_shiftBy 86 = .ok (.getfield 79, 3) := dl_o180 kcX12_shiftBy (by decide +kernel)
theorem dX12_shiftBy_89 : decode cX12_shiftBy 89 = .ok (.iload_n 1, 1) := dl_o27 kcX12_shiftBy (by decide +kernel)
theorem dX12_shiftBy_90 : decode cX12_shiftBy 90 = .ok (.iaload, 1) := dl_o46 kcX12_shiftBy (by decide +kernel)
theorem dX12_shiftBy_91 : decode cX12_shiftBy 91 = .ok (.i2l, 1) := dl_o133 kcX12_shiftBy (by decide +kernel)
theorem dX12_shiftBy_92 : decode cX12_shiftBy 92 = .ok (.lload_n 2, 1) := dl_o32 kcX12_shiftBy (by decide +kernel)
theorem dX12_shiftBy_93 : decode cX12_shiftBy 93 = .ok (.aload_n 0, 1) := dl_o42 kcX12_shiftBy (by decide +kernel)
theorem dX12_shiftBy_94 : decode cX12_shiftBy 94 = .ok (.getfield 436, 3) := dl_o180 kcX12_shiftBy (by decide +kernel)
theorem dX12_shiftBy_97 : decode cX12_shiftBy 97 = .ok (.i2l, 1) := dl_o133 kcX12_shiftBy (by decide +kernel)
theorem dX12_shiftBy_98 : decode cX12_shiftBy 98 = .ok (.lmul, 1) := dl_o105 kcX12_shiftBy (by decide +kernel)
theorem dX12_shiftBy_99 : decode cX12_shiftBy 99 = .ok (.lload 5, 2) := dl_o22 kcX12_shiftBy (by decide +kernel)
theorem dX12_shiftBy_101 : decode cX12_shiftBy 101 = .ok (.invokestatic 194, 3) := dl_o184 kcX12_shiftBy (by decide +kernel)
theorem dX12_shiftBy_104 : decode cX12_shiftBy 104 = .ok (.ladd, 1) := dl_o97 kcX12_shiftBy (by decide +kernel)
theorem dX12_shiftBy_105 : decode cX12_shiftBy 105 = .ok (.l2i, 1) := dl_o136 kcX12_shiftBy (by decide +kernel)
theorem dX12_shiftBy_106 : decode cX12_shiftBy 106 = .ok (.iastore, 1) := dl_o79 kcX12_shiftBy (by decide +kernel)
theorem dX12_shiftBy_107 : decode cX12_shiftBy 107 = .ok (.iload 4, 2) := dl_o21 kcX12_shiftBy (by decide +kernel)
theorem dX12_shiftBy_109 : decode cX12_shiftBy 109 = .ok (.ifCond .eq 8, 3) := dl_o153 kcX12_shiftBy 8 (by decide +kernel) (by decide +kernel)
theorem dX12_shiftBy_112 : decode cX12_shiftBy 112 = .ok (.aload_n 0, 1) := dl_o42 kcX12_shiftBy (by decide +kernel)
theorem dX12_shiftBy_113 : decode cX12_shiftBy 113 = .ok (.iload_n 1, 1) := dl_o27 kcX12_shiftBy (by decide +kernel)
theorem dX12_shiftBy_114 : decode cX12_shiftBy 114 = .ok (.invokevirtual 526, 3) := dl_o182 kcX12_shiftBy (by decide +kernel)
theorem dX12_shiftBy_117 : decode cX12_shiftBy 117 = .ok (.return_, 1) := dl_o177 kcX12_shiftBy (by decide +kernel)
def B_X12_shiftBy_51  (l1 : Int32) (l2 : Int64) (l4 : Int32) (s0 : Int64) (V : sv_V) : Option sv_V := if sx_in l1 204 = true then (F_X12_nearest (l2 * ((V.1 146 63).toInt64)) s0 V).bind (fun (x4, V2) => if sx_in l1 204 = true then sx_let (sv_I V2 168 l1.toNatClampNeg ((((V.1 168 l1.toNatClampNeg).toInt64) + x4).toInt32)) (fun V6 => if sx_in l1 204 = true then (F_X12_nearest (l2 * ((V6.1 146 64).toInt64)) s0 V6).bind (fun (x10, V8) => if sx_in l1 204 = true then sx_let (sv_I V8 169 l1.toNatClampNeg ((((V6.1 169 l1.toNatClampNeg).toInt64) + x10).toInt32)) (fun V12 => if l4 = 0 then (some V12) else ((F_X12_touch l1 V12).bind (fun V14 => some V14))) else none) else none) else none) else none
set_option maxRecDepth 20000 in
theorem tB_X12_shiftBy_51 {g : sx_G} (hG : sx_Go g) {P : Option Value → sv_V → Prop} {Vr : sv_V} (hP : P none Vr)   {l1 : Int32} {l2 : Int64} {l4 : Int32} {s0 : Int64} {V : sv_V} (h : B_X12_shiftBy_51  l1 l2 l4 s0 V = some Vr) : sv_N g qX12_shiftBy 3 51 [(0, .ref 146), (1, .int l1), (2, .long l2), (4, .int l4)] [.long s0] V P := by
  unfold B_X12_shiftBy_51 at h
  refine sx_lstore (pc := 51) (lo' := [(5, .long s0), (0, .ref 146), (1, .int l1), (2, .long l2), (4, .int l4)]) dX12_shiftBy_51 (by decide) rfl ?_
  refine sx_aload_n (pc := 53) dX12_shiftBy_53 sx_m1 ?_
  refine sv_getA (pc := 54) hG dX12_shiftBy_54 f_12_76 lay_146 rfl cr_146_48 ?_
  refine sx_iload_n (pc := 57) dX12_shiftBy_57 sx_m2 ?_
  refine sx_aload_n (pc := 58) dX12_shiftBy_58 sx_m1 ?_
  refine sv_getA (pc := 59) hG dX12_shiftBy_59 f_12_76 lay_146 rfl cr_146_48 ?_
  refine sx_iload_n (pc := 62) dX12_shiftBy_62 sx_m2 ?_
  obtain ⟨g1, h⟩ := sx_grd h
  refine sv_iald (pc := 63) hG dX12_shiftBy_63 lay_168 g1 ?_
  refine sx_i2l (pc := 64) dX12_shiftBy_64 ?_
  refine sx_lload_n (pc := 65) dX12_shiftBy_65 sx_m3 ?_
  refine sx_aload_n (pc := 66) dX12_shiftBy_66 sx_m1 ?_
  refine sv_getI (pc := 67) hG dX12_shiftBy_67 f_12_433 lay_146 rfl ?_
  refine sx_i2l (pc := 70) dX12_shiftBy_70 ?_
  refine sx_lmul (pc := 71) dX12_shiftBy_71 ?_
  refine sx_lload (pc := 72) dX12_shiftBy_72 sx_m0 ?_
  obtain ⟨⟨x4, V2⟩, g3, h⟩ := sx_bnd h
  refine sv_cS (pc := 74) (y := qX12_nearest) (o := (some (.long x4))) (as := [.long (l2 * ((V.1 146 63).toInt64)), .long s0]) (V1 := V2) dX12_shiftBy_74 l_X12_194 y0X12_nearest ysX12_nearest rfl (Nat.le_of_ble_eq_true rfl) (by decide) (Nat.le_of_ble_eq_true rfl) rfl rfl rfl (t_X12_nearest hG ⟨rfl, rfl⟩ g3) ?_
  refine sx_ladd (pc := 77) dX12_shiftBy_77 ?_
  refine sx_l2i (pc := 78) dX12_shiftBy_78 ?_
  obtain ⟨g5, h⟩ := sx_grd h
  obtain ⟨V6, hV6⟩ : ∃ z : sv_V, z = sv_I V2 168 l1.toNatClampNeg ((((V.1 168 l1.toNatClampNeg).toInt64) + x4).toInt32) := ⟨_, rfl⟩
  have h := sx_letE hV6 h
  refine sv_iast (pc := 79) hG dX12_shiftBy_79 lay_168 g5 hV6 ?_
  refine sx_aload_n (pc := 80) dX12_shiftBy_80 sx_m1 ?_
  refine sv_getA (pc := 81) hG dX12_shiftBy_81 f_12_79 lay_146 rfl cr_146_49 ?_
  refine sx_iload_n (pc := 84) dX12_shiftBy_84 sx_m2 ?_
  refine sx_aload_n (pc := 85) dX12_shiftBy_85 sx_m1 ?_
  refine sv_getA (pc := 86) hG dX12_shiftBy_86 f_12_79 lay_146 rfl cr_146_49 ?_
  refine sx_iload_n (pc := 89) dX12_shiftBy_89 sx_m2 ?_
  obtain ⟨g7, h⟩ := sx_grd h
  refine sv_iald (pc := 90) hG dX12_shiftBy_90 lay_169 g7 ?_
  refine sx_i2l (pc := 91) dX12_shiftBy_91 ?_
  refine sx_lload_n (pc := 92) dX12_shiftBy_92 sx_m3 ?_
  refine sx_aload_n (pc := 93) dX12_shiftBy_93 sx_m1 ?_
  refine sv_getI (pc := 94) hG dX12_shiftBy_94 f_12_436 lay_146 rfl ?_
  refine sx_i2l (pc := 97) dX12_shiftBy_97 ?_
  refine sx_lmul (pc := 98) dX12_shiftBy_98 ?_
  refine sx_lload (pc := 99) dX12_shiftBy_99 sx_m0 ?_
  obtain ⟨⟨x10, V8⟩, g9, h⟩ := sx_bnd h
  refine sv_cS (pc := 101) (y := qX12_nearest) (o := (some (.long x10))) (as := [.long (l2 * ((V6.1 146 64).toInt64)), .long s0]) (V1 := V8) dX12_shiftBy_101 l_X12_194 y0X12_nearest ysX12_nearest rfl (Nat.le_of_ble_eq_true rfl) (by decide) (Nat.le_of_ble_eq_true rfl) rfl rfl rfl (t_X12_nearest hG ⟨rfl, rfl⟩ g9) ?_
  refine sx_ladd (pc := 104) dX12_shiftBy_104 ?_
  refine sx_l2i (pc := 105) dX12_shiftBy_105 ?_
  obtain ⟨g11, h⟩ := sx_grd h
  obtain ⟨V12, hV12⟩ : ∃ z : sv_V, z = sv_I V8 169 l1.toNatClampNeg ((((V6.1 169 l1.toNatClampNeg).toInt64) + x10).toInt32) := ⟨_, rfl⟩
  have h := sx_letE hV12 h
  refine sv_iast (pc := 106) hG dX12_shiftBy_106 lay_169 g11 hV12 ?_
  refine sx_iload (pc := 107) dX12_shiftBy_107 sx_m4 ?_
  refine sx_if_eq (pc := 109) (tgt := 117) dX12_shiftBy_109 (by decide) (fun c13 => ?_) (fun c13 => ?_)
  · have h := sx_pos c13 h
    exact sv_vret (pc := 117) dX12_shiftBy_117 rfl h hP
  · have h := sx_neg c13 h
    refine sx_aload_n (pc := 112) dX12_shiftBy_112 sx_m1 ?_
    refine sx_iload_n (pc := 113) dX12_shiftBy_113 sx_m2 ?_
    obtain ⟨V14, g15, h⟩ := sx_bnd h
    refine sv_cV (pc := 114) (y := qX12_touch) (o := none) (as := [.int l1]) (V1 := V14) hG dX12_shiftBy_114 l_X12_526 y0X12_touch yvX12_touch rfl (Nat.le_of_ble_eq_true rfl) lay_146 kr_12 (by decide) (Nat.le_of_ble_eq_true rfl) rfl rfl rfl (t_X12_touch hG ⟨rfl, rfl⟩ g15) ?_
    exact sv_vret (pc := 117) dX12_shiftBy_117 rfl h hP
def F_X12_shiftBy (l1 : Int32) (l2 : Int64) (l4 : Int32) (V : sv_V) : Option sv_V := (F_X12_over ((((V.1 146 63).toInt64) * ((V.1 146 65).toInt64)) + (((V.1 146 64).toInt64) * ((V.1 146 66).toInt64))) (16384 : Int64) V).bind (fun (x18, V16) => (F_X12_sizeOf x18 V16).bind (fun (x21, V19) => if 0 ≤ (lg_cmp x21 (1024 : Int64)) then (B_X12_shiftBy_51  l1 l2 l4 x18 V19) else (B_X12_shiftBy_51  l1 l2 l4 (16384 : Int64) V19)))
set_option maxRecDepth 20000 in
theorem t_X12_shiftBy {g : sx_G} (hG : sx_Go g) {P : Option Value → sv_V → Prop} {Vr : sv_V} (hP : P none Vr) {l1 : Int32} {l2 : Int64} {l4 : Int32} {V : sv_V} (h : F_X12_shiftBy l1 l2 l4 V = some Vr) : sv_N g qX12_shiftBy 3 0 [(0, .ref 146), (1, .int l1), (2, .long l2), (4, .int l4)] [] V P := by
  unfold F_X12_shiftBy at h
  refine sx_aload_n (pc := 0) dX12_shiftBy_0 sx_m0 ?_
  refine sv_getI (pc := 1) hG dX12_shiftBy_1 f_12_433 lay_146 rfl ?_
  refine sx_i2l (pc := 4) dX12_shiftBy_4 ?_
  refine sx_aload_n (pc := 5) dX12_shiftBy_5 sx_m0 ?_
  refine sv_getI (pc := 6) hG dX12_shiftBy_6 f_12_439 lay_146 rfl ?_
  refine sx_i2l (pc := 9) dX12_shiftBy_9 ?_
  refine sx_lmul (pc := 10) dX12_shiftBy_10 ?_
  refine sx_aload_n (pc := 11) dX12_shiftBy_11 sx_m0 ?_
  refine sv_getI (pc := 12) hG dX12_shiftBy_12 f_12_436 lay_146 rfl ?_
  refine sx_i2l (pc := 15) dX12_shiftBy_15 ?_
  refine sx_aload_n (pc := 16) dX12_shiftBy_16 sx_m0 ?_
  refine sv_getI (pc := 17) hG dX12_shiftBy_17 f_12_442 lay_146 rfl ?_
  refine sx_i2l (pc := 20) dX12_shiftBy_20 ?_
  refine sx_lmul (pc := 21) dX12_shiftBy_21 ?_
  refine sx_ladd (pc := 22) dX12_shiftBy_22 ?_
  refine sx_ldc2 (pc := 23) dX12_shiftBy_23 k_X12_310 ?_
  obtain ⟨⟨x18, V16⟩, g17, h⟩ := sx_bnd h
  refine sv_cS (pc := 26) (y := qX12_over) (o := (some (.long x18))) (as := [.long ((((V.1 146 63).toInt64) * ((V.1 146 65).toInt64)) + (((V.1 146 64).toInt64) * ((V.1 146 66).toInt64))), .long (16384 : Int64)]) (V1 := V16) dX12_shiftBy_26 l_X12_517 y0X12_over ysX12_over rfl (Nat.le_of_ble_eq_true rfl) (by decide) (Nat.le_of_ble_eq_true rfl) rfl rfl rfl (t_X12_over hG ⟨rfl, rfl⟩ g17) ?_
  refine sx_lstore (pc := 29) (lo' := [(5, .long x18), (0, .ref 146), (1, .int l1), (2, .long l2), (4, .int l4)]) dX12_shiftBy_29 (by decide) rfl ?_
  refine sx_lload (pc := 31) dX12_shiftBy_31 sx_m0 ?_
  obtain ⟨⟨x21, V19⟩, g20, h⟩ := sx_bnd h
  refine sv_cS (pc := 33) (y := qX12_sizeOf) (o := (some (.long x21))) (as := [.long x18]) (V1 := V19) dX12_shiftBy_33 l_X12_198 y0X12_sizeOf ysX12_sizeOf rfl (Nat.le_of_ble_eq_true rfl) (by decide) (Nat.le_of_ble_eq_true rfl) rfl rfl rfl (t_X12_sizeOf hG ⟨rfl, rfl⟩ g20) ?_
  refine sx_ldc2 (pc := 36) dX12_shiftBy_36 k_X12_524 ?_
  refine sx_lcmp (pc := 39) dX12_shiftBy_39 ?_
  refine sx_if_ge (pc := 40) (tgt := 49) dX12_shiftBy_40 (by decide) (fun c22 => ?_) (fun c22 => ?_)
  · have h := sx_pos c22 h
    refine sx_lload (pc := 49) dX12_shiftBy_49 sx_m0 ?_
    refine sx_wk (sx_s1 sx_m1 (sx_s1 sx_m2 (sx_s1 sx_m3 (sx_s1 sx_m4 sx_s0)))) ?_
    exact tB_X12_shiftBy_51 hG hP  h
  · have h := sx_neg c22 h
    refine sx_ldc2 (pc := 43) dX12_shiftBy_43 k_X12_310 ?_
    refine sx_goto (pc := 46) (tgt := 51) dX12_shiftBy_46 (by decide) ?_
    refine sx_wk (sx_s1 sx_m1 (sx_s1 sx_m2 (sx_s1 sx_m3 (sx_s1 sx_m4 sx_s0)))) ?_
    exact tB_X12_shiftBy_51 hG hP  h
def ncX12_move : Nat := 12758982200093842218
theorem kcX12_move : CK cX12_move ncX12_move 8 := ⟨by decide +kernel, by decide +kernel⟩
theorem dX12_move_0 : decode cX12_move 0 = .ok (.aload_n 0, 1) := dl_o42 kcX12_move (by decide +kernel)
theorem dX12_move_1 : decode cX12_move 1 = .ok (.iload_n 1, 1) := dl_o27 kcX12_move (by decide +kernel)
theorem dX12_move_2 : decode cX12_move 2 = .ok (.lload_n 2, 1) := dl_o32 kcX12_move (by decide +kernel)
theorem dX12_move_3 : decode cX12_move 3 = .ok (.iconst 1, 1) := dl_o4 kcX12_move (by decide +kernel)
theorem dX12_move_4 : decode cX12_move 4 = .ok (.invokevirtual 529, 3) := dl_o182 kcX12_move (by decide +kernel)
theorem dX12_move_7 : decode cX12_move 7 = .ok (.return_, 1) := dl_o177 kcX12_move (by decide +kernel)
def F_X12_move (l1 : Int32) (l2 : Int64) (V : sv_V) : Option sv_V := (F_X12_shiftBy l1 l2 (1 : Int32) V).bind (fun V1 => some V1)
set_option maxRecDepth 20000 in
theorem t_X12_move {g : sx_G} (hG : sx_Go g) {P : Option Value → sv_V → Prop} {Vr : sv_V} (hP : P none Vr) {l1 : Int32} {l2 : Int64} {V : sv_V} (h : F_X12_move l1 l2 V = some Vr) : sv_N g qX12_move 4 0 [(0, .ref 146), (1, .int l1), (2, .long l2)] [] V P := by
  unfold F_X12_move at h
  refine sx_aload_n (pc := 0) dX12_move_0 sx_m0 ?_
  refine sx_iload_n (pc := 1) dX12_move_1 sx_m1 ?_
  refine sx_lload_n (pc := 2) dX12_move_2 sx_m2 ?_
  refine sx_iconst (pc := 3) (v := 1) dX12_move_3 (by decide) ?_
  obtain ⟨V1, g2, h⟩ := sx_bnd h
  refine sv_cV (pc := 4) (y := qX12_shiftBy) (o := none) (as := [.int l1, .long l2, .int (1 : Int32)]) (V1 := V1) hG dX12_move_4 l_X12_529 y0X12_shiftBy yvX12_shiftBy rfl (Nat.le_of_ble_eq_true rfl) lay_146 kr_12 (by decide) (Nat.le_of_ble_eq_true rfl) rfl rfl rfl (t_X12_shiftBy hG ⟨rfl, rfl⟩ g2) ?_
  exact sv_vret (pc := 7) dX12_move_7 rfl h hP
def ncX12_scaled : Nat := 252154816106486890340069868007945189903755367426591
theorem kcX12_scaled : CK cX12_scaled ncX12_scaled 21 := ⟨by decide +kernel, by decide +kernel⟩
theorem dX12_scaled_0 : decode cX12_scaled 0 = .ok (.lload_n 1, 1) := dl_o31 kcX12_scaled (by decide +kernel)
theorem dX12_scaled_1 : decode cX12_scaled 1 = .ok (.aload_n 0, 1) := dl_o42 kcX12_scaled (by decide +kernel)
theorem dX12_scaled_2 : decode cX12_scaled 2 = .ok (.getfield 621, 3) := dl_o180 kcX12_scaled (by decide +kernel)
theorem dX12_scaled_5 : decode cX12_scaled 5 = .ok (.i2l, 1) := dl_o133 kcX12_scaled (by decide +kernel)
theorem dX12_scaled_6 : decode cX12_scaled 6 = .ok (.lmul, 1) := dl_o105 kcX12_scaled (by decide +kernel)
theorem dX12_scaled_7 : decode cX12_scaled 7 = .ok (.ldc2_w 338, 3) := dl_o20 kcX12_scaled (by decide +kernel)
theorem dX12_scaled_10 : decode cX12_scaled 10 = .ok (.lmul, 1) := dl_o105 kcX12_scaled (by decide +kernel)
theorem dX12_scaled_11 : decode cX12_scaled 11 = .ok (.aload_n 0, 1) := dl_o42 kcX12_scaled (by decide +kernel)
theorem dX12_scaled_12 : decode cX12_scaled 12 = .ok (.getfield 302, 3) := dl_o180 kcX12_scaled (by decide +kernel)
theorem dX12_scaled_15 : decode cX12_scaled 15 = .ok (.i2l, 1) := dl_o133 kcX12_scaled (by decide +kernel)
theorem dX12_scaled_16 : decode cX12_scaled 16 = .ok (.invokestatic 517, 3) := dl_o184 kcX12_scaled (by decide +kernel)
theorem dX12_scaled_19 : decode cX12_scaled 19 = .ok (.l2i, 1) := dl_o136 kcX12_scaled (by decide +kernel)
theorem dX12_scaled_20 : decode cX12_scaled 20 = .ok (.ireturn, 1) := dl_o172 kcX12_scaled (by decide +kernel)
def F_X12_scaled (l1 : Int64) (V : sv_V) : Option (Int32 × sv_V) := (F_X12_over ((l1 * ((V.1 146 62).toInt64)) * (64 : Int64)) ((V.1 146 10).toInt64) V).bind (fun (x3, V1) => some (x3.toInt32, V1))
set_option maxRecDepth 20000 in
theorem t_X12_scaled {g : sx_G} (hG : sx_Go g) {P : Option Value → sv_V → Prop} {r : Int32} {Vr : sv_V} (hP : P (some (.int r)) Vr) {l1 : Int64} {V : sv_V} (h : F_X12_scaled l1 V = some (r, Vr)) : sv_N g qX12_scaled 3 0 [(0, .ref 146), (1, .long l1)] [] V P := by
  unfold F_X12_scaled at h
  refine sx_lload_n (pc := 0) dX12_scaled_0 sx_m1 ?_
  refine sx_aload_n (pc := 1) dX12_scaled_1 sx_m0 ?_
  refine sv_getI (pc := 2) hG dX12_scaled_2 f_12_621 lay_146 rfl ?_
  refine sx_i2l (pc := 5) dX12_scaled_5 ?_
  refine sx_lmul (pc := 6) dX12_scaled_6 ?_
  refine sx_ldc2 (pc := 7) dX12_scaled_7 k_X12_338 ?_
  refine sx_lmul (pc := 10) dX12_scaled_10 ?_
  refine sx_aload_n (pc := 11) dX12_scaled_11 sx_m0 ?_
  refine sv_getI (pc := 12) hG dX12_scaled_12 f_12_302 lay_146 rfl ?_
  refine sx_i2l (pc := 15) dX12_scaled_15 ?_
  obtain ⟨⟨x3, V1⟩, g2, h⟩ := sx_bnd h
  refine sv_cS (pc := 16) (y := qX12_over) (o := (some (.long x3))) (as := [.long ((l1 * ((V.1 146 62).toInt64)) * (64 : Int64)), .long ((V.1 146 10).toInt64)]) (V1 := V1) dX12_scaled_16 l_X12_517 y0X12_over ysX12_over rfl (Nat.le_of_ble_eq_true rfl) (by decide) (Nat.le_of_ble_eq_true rfl) rfl rfl rfl (t_X12_over hG ⟨rfl, rfl⟩ g2) ?_
  refine sx_l2i (pc := 19) dX12_scaled_19 ?_
  exact sv_iret (pc := 20) dX12_scaled_20 rfl h hP
def ncX12_stacks : Nat := 6043311007562499221801316687915309991778735430461285403608585541646558210753187126311190367141205189576768777259496696856684247092330147959945367589783269946502537151029897098612248567252370849126261311068812256248467536100142059071887085570698310447544811944520904117188589415487105340760163468650479424199484597884512800894213131543890196639757551989593967385878553622420671370242772571885884395758571114928255809861687692347704557837000968661993555062089809109541402674988256899621504012447296710754182632491782702317269942081617229252337300785373737263447528608314941297508402995834715650954456777270377179390510986765728623802814414108815372846143059365903064247173298752368336243886232867843311981408077658491200014002732993684274342227186508150096565541275372850980891198593802132267217916138126905748209545778127887865163901120274548891160335702222034257922117518073014133614655408510499467700785084979301325188459470580694613150000193844895790912904237339065639186620283780340542711502667071636064688312889834696729319208257156530937132384660952650747235257528733695661534053542243541026470110665402825032324762410480647535566978154291469676364996073426677175959670307219592964730636495855109295978569248500953902846535315894144102568224260687549435376640245515846089155515165464997838313167096657316056300634901621275
theorem kcX12_stacks : CK cX12_stacks ncX12_stacks 551 := ⟨by decide +kernel, by decide +kernel⟩
theorem dX12_stacks_0 : decode cX12_stacks 0 = .ok (.iload_n 1, 1) := dl_o27 kcX12_stacks (by decide +kernel)
theorem dX12_stacks_1 : decode cX12_stacks 1 = .ok (.tableswitch 544 32 47 #[79, 104, 127, 133, 188, 198, 198, 306, 544, 375, 444, 444, 460, 465, 470, 470], 79) := by decide +kernel
theorem dX12_stacks_80 : decode cX12_stacks 80 = .ok (.aload_n 0, 1) := dl_o42 kcX12_stacks (by decide +kernel)
theorem dX12_stacks_81 : decode cX12_stacks 81 = .ok (.iconst 1, 1) := dl_o4 kcX12_stacks (by decide +kernel)
theorem dX12_stacks_82 : decode cX12_stacks 82 = .ok (.invokevirtual 576, 3) := dl_o182 kcX12_stacks (by decide +kernel)
theorem dX12_stacks_85 : decode cX12_stacks 85 = .ok (.ifCond .eq 19, 3) := dl_o153 kcX12_stacks 19 (by decide +kernel) (by decide +kernel)
theorem dX12_stacks_88 : decode cX12_stacks 88 = .ok (.aload_n 0, 1) := dl_o42 kcX12_stacks (by decide +kernel)
theorem dX12_stacks_89 : decode cX12_stacks 89 = .ok (.aload_n 0, 1) := dl_o42 kcX12_stacks (by decide +kernel)
theorem dX12_stacks_90 : decode cX12_stacks 90 = .ok (.getfield 91, 3) := dl_o180 kcX12_stacks (by decide +kernel)
theorem dX12_stacks_93 : decode cX12_stacks 93 = .ok (.aload_n 0, 1) := dl_o42 kcX12_stacks (by decide +kernel)
theorem dX12_stacks_94 : decode cX12_stacks 94 = .ok (.getfield 418, 3) := dl_o180 kcX12_stacks (by decide +kernel)
theorem dX12_stacks_97 : decode cX12_stacks 97 = .ok (.iconst 1, 1) := dl_o4 kcX12_stacks (by decide +kernel)
theorem dX12_stacks_98 : decode cX12_stacks 98 = .ok (.isub, 1) := dl_o100 kcX12_stacks (by decide +kernel)
theorem dX12_stacks_99 : decode cX12_stacks 99 = .ok (.iaload, 1) := dl_o46 kcX12_stacks (by decide +kernel)
theorem dX12_stacks_100 : decode cX12_stacks 100 = .ok (.i2l, 1) := dl_o133 kcX12_stacks (by decide +kernel)
theorem dX12_stacks_101 : decode cX12_stacks 101 = .ok (.invokevirtual 564, 3) := dl_o182 kcX12_stacks (by decide +kernel)
theorem dX12_stacks_104 : decode cX12_stacks 104 = .ok (.return_, 1) := dl_o177 kcX12_stacks (by decide +kernel)
theorem dX12_stacks_105 : decode cX12_stacks 105 = .ok (.aload_n 0, 1) := dl_o42 kcX12_stacks (by decide +kernel)
theorem dX12_stacks_106 : decode cX12_stacks 106 = .ok (.dup, 1) := dl_o89 kcX12_stacks (by decide +kernel)
theorem dX12_stacks_107 : decode cX12_stacks 107 = .ok (.getfield 418, 3) := dl_o180 kcX12_stacks (by decide +kernel)
theorem dX12_stacks_110 : decode cX12_stacks 110 = .ok (.aload_n 0, 1) := dl_o42 kcX12_stacks (by decide +kernel)
theorem dX12_stacks_111 : decode cX12_stacks 111 = .ok (.iconst 1, 1) := dl_o4 kcX12_stacks (by decide +kernel)
theorem dX12_stacks_112 : decode cX12_stacks 112 = .ok (.invokevirtual 576, 3) := dl_o182 kcX12_stacks (by decide +kernel)
theorem dX12_stacks_115 : decode cX12_stacks 115 = .ok (.ifCond .eq 7, 3) := dl_o153 kcX12_stacks 7 (by decide +kernel) (by decide +kernel)
theorem dX12_stacks_118 : decode cX12_stacks 118 = .ok (.iconst 1, 1) := dl_o4 kcX12_stacks (by decide +kernel)
theorem dX12_stacks_119 : decode cX12_stacks 119 = .ok (.goto 4, 3) := dl_o167 kcX12_stacks 4 (by decide +kernel) (by decide +kernel)
theorem dX12_stacks_122 : decode cX12_stacks 122 = .ok (.iconst 0, 1) := dl_o3 kcX12_stacks (by decide +kernel)
theorem dX12_stacks_123 : decode cX12_stacks 123 = .ok (.isub, 1) := dl_o100 kcX12_stacks (by decide +kernel)
theorem dX12_stacks_124 : decode cX12_stacks 124 = .ok (.putfield 418, 3) := dl_o181 kcX12_stacks (by decide +kernel)
theorem dX12_stacks_127 : decode cX12_stacks 127 = .ok (.return_, 1) := dl_o177 kcX12_stacks (by decide +kernel)
theorem dX12_stacks_128 : decode cX12_stacks 128 = .ok (.aload_n 0, 1) := dl_o42 kcX12_stacks (by decide +kernel)
theorem dX12_stacks_129 : decode cX12_stacks 129 = .ok (.iconst 0, 1) := dl_o3 kcX12_stacks (by decide +kernel)
theorem dX12_stacks_130 : decode cX12_stacks 130 = .ok (.putfield 418, 3) := dl_o181 kcX12_stacks (by decide +kernel)
theorem dX12_stacks_133 : decode cX12_stacks 133 = .ok (.return_, 1) := dl_o177 kcX12_stacks (by decide +kernel)
theorem dX12_stacks_134 : decode cX12_stacks 134 = .ok (.aload_n 0, 1) := dl_o42 kcX12_stacks (by decide +kernel)
theorem dX12_stacks_135 : decode cX12_stacks 135 = .ok (.iconst 2, 1) := dl_o5 kcX12_stacks (by decide +kernel)
theorem dX12_stacks_136 : decode cX12_stacks 136 = .ok (.invokevirtual 576, 3) := dl_o182 kcX12_stacks (by decide +kernel)
theorem dX12_stacks_139 : decode cX12_stacks 139 = .ok (.ifCond .eq 49, 3) := dl_o153 kcX12_stacks 49 (by decide +kernel) (by decide +kernel)
theorem dX12_stacks_142 : decode cX12_stacks 142 = .ok (.aload_n 0, 1) := dl_o42 kcX12_stacks (by decide +kernel)
theorem dX12_stacks_143 : decode cX12_stacks 143 = .ok (.getfield 91, 3) := dl_o180 kcX12_stacks (by decide +kernel)
theorem dX12_stacks_146 : decode cX12_stacks 146 = .ok (.aload_n 0, 1) := dl_o42 kcX12_stacks (by decide +kernel)
theorem dX12_stacks_147 : decode cX12_stacks 147 = .ok (.getfield 418, 3) := dl_o180 kcX12_stacks (by decide +kernel)
theorem dX12_stacks_150 : decode cX12_stacks 150 = .ok (.iconst 1, 1) := dl_o4 kcX12_stacks (by decide +kernel)
theorem dX12_stacks_151 : decode cX12_stacks 151 = .ok (.isub, 1) := dl_o100 kcX12_stacks (by decide +kernel)
theorem dX12_stacks_152 : decode cX12_stacks 152 = .ok (.iaload, 1) := dl_o46 kcX12_stacks (by decide +kernel)
theorem dX12_stacks_153 : decode cX12_stacks 153 = .ok (.istore_n 2, 1) := dl_o61 kcX12_stacks (by decide +kernel)
theorem dX12_stacks_154 : decode cX12_stacks 154 = .ok (.aload_n 0, 1) := dl_o42 kcX12_stacks (by decide +kernel)
theorem dX12_stacks_155 : decode cX12_stacks 155 = .ok (.getfield 91, 3) := dl_o180 kcX12_stacks (by decide +kernel)
theorem dX12_stacks_158 : decode cX12_stacks 158 = .ok (.aload_n 0, 1) := dl_o42 kcX12_stacks (by decide +kernel)
theorem dX12_stacks_159 : decode cX12_stacks 159 = .ok (.getfield 418, 3) := dl_o180 kcX12_stacks (by decide +kernel)
theorem dX12_stacks_162 : decode cX12_stacks 162 = .ok (.iconst 1, 1) := dl_o4 kcX12_stacks (by decide +kernel)
theorem dX12_stacks_163 : decode cX12_stacks 163 = .ok (.isub, 1) := dl_o100 kcX12_stacks (by decide +kernel)
theorem dX12_stacks_164 : decode cX12_stacks 164 = .ok (.aload_n 0, 1) := dl_o42 kcX12_stacks (by decide +kernel)
theorem dX12_stacks_165 : decode cX12_stacks 165 = .ok (.getfield 91, 3) := dl_o180 kcX12_stacks (by decide +kernel)
theorem dX12_stacks_168 : decode cX12_stacks 168 = .ok (.aload_n 0, 1) := dl_o42 kcX12_stacks (by decide +kernel)
theorem dX12_stacks_169 : decode cX12_stacks 169 = .ok (.getfield 418, 3) := dl_o180 kcX12_stacks (by decide +kernel)
theorem dX12_stacks_172 : decode cX12_stacks 172 = .ok (.iconst 2, 1) := dl_o5 kcX12_stacks (by decide +kernel)
theorem dX12_stacks_173 : decode cX12_stacks 173 = .ok (.isub, 1) := dl_o100 kcX12_stacks (by decide +kernel)
theorem dX12_stacks_174 : decode cX12_stacks 174 = .ok (.iaload, 1) := dl_o46 kcX12_stacks (by decide +kernel)
theorem dX12_stacks_175 : decode cX12_stacks 175 = .ok (.iastore, 1) := dl_o79 kcX12_stacks (by decide +kernel)
theorem dX12_stacks_176 : decode cX12_stacks 176 = .ok (.aload_n 0, 1) := dl_o42 kcX12_stacks (by decide +kernel)
theorem dX12_stacks_177 : decode cX12_stacks 177 = .ok (.getfield 91, 3) := dl_o180 kcX12_stacks (by decide +kernel)
theorem dX12_stacks_180 : decode cX12_stacks 180 = .ok (.aload_n 0, 1) := dl_o42 kcX12_stacks (by decide +kernel)
theorem dX12_stacks_181 : decode cX12_stacks 181 = .ok (.getfield 418, 3) := dl_o180 kcX12_stacks (by decide +kernel)
theorem dX12_stacks_184 : decode cX12_stacks 184 = .ok (.iconst 2, 1) := dl_o5 kcX12_stacks (by decide +kernel)
theorem dX12_stacks_185 : decode cX12_stacks 185 = .ok (.isub, 1) := dl_o100 kcX12_stacks (by decide +kernel)
theorem dX12_stacks_186 : decode cX12_stacks 186 = .ok (.iload_n 2, 1) := dl_o28 kcX12_stacks (by decide +kernel)
theorem dX12_stacks_187 : decode cX12_stacks 187 = .ok (.iastore, 1) := dl_o79 kcX12_stacks (by decide +kernel)
theorem dX12_stacks_188 : decode cX12_stacks 188 = .ok (.return_, 1) := dl_o177 kcX12_stacks (by decide +kernel)
theorem dX12_stacks_189 : decode cX12_stacks 189 = .ok (.aload_n 0, 1) := dl_o42 kcX12_stacks (by decide +kernel)
theorem dX12_stacks_190 : decode cX12_stacks 190 = .ok (.aload_n 0, 1) := dl_o42 kcX12_stacks (by decide +kernel)
theorem dX12_stacks_191 : decode cX12_stacks 191 = .ok (.getfield 418, 3) := dl_o180 kcX12_stacks (by decide +kernel)
theorem dX12_stacks_194 : decode cX12_stacks 194 = .ok (.i2l, 1) := dl_o133 kcX12_stacks (by decide +kernel)
theorem dX12_stacks_195 : decode cX12_stacks 195 = .ok (.invokevirtual 564, 3) := dl_o182 kcX12_stacks (by decide +kernel)
theorem dX12_stacks_198 : decode cX12_stacks 198 = .ok (.return_, 1) := dl_o177 kcX12_stacks (by decide +kernel)
theorem dX12_stacks_199 : decode cX12_stacks 199 = .ok (.aload_n 0, 1) := dl_o42 kcX12_stacks (by decide +kernel)
theorem dX12_stacks_200 : decode cX12_stacks 200 = .ok (.iconst 1, 1) := dl_o4 kcX12_stacks (by decide +kernel)
theorem dX12_stacks_201 : decode cX12_stacks 201 = .ok (.invokevirtual 576, 3) := dl_o182 kcX12_stacks (by decide +kernel)
theorem dX12_stacks_204 : decode cX12_stacks 204 = .ok (.ifCond .eq 102, 3) := dl_o153 kcX12_stacks 102 (by decide +kernel) (by decide +kernel)
theorem dX12_stacks_207 : decode cX12_stacks 207 = .ok (.aload_n 0, 1) := dl_o42 kcX12_stacks (by decide +kernel)
theorem dX12_stacks_208 : decode cX12_stacks 208 = .ok (.invokevirtual 579, 3) := dl_o182 kcX12_stacks (by decide +kernel)
theorem dX12_stacks_211 : decode cX12_stacks 211 = .ok (.istore_n 2, 1) := dl_o61 kcX12_stacks (by decide +kernel)
theorem dX12_stacks_212 : decode cX12_stacks 212 = .ok (.iload_n 2, 1) := dl_o28 kcX12_stacks (by decide +kernel)
theorem dX12_stacks_213 : decode cX12_stacks 213 = .ok (.iconst 1, 1) := dl_o4 kcX12_stacks (by decide +kernel)
theorem dX12_stacks_214 : decode cX12_stacks 214 = .ok (.if_icmp .lt 11, 3) := dl_o161 kcX12_stacks 11 (by decide +kernel) (by decide +kernel)
theorem dX12_stacks_217 : decode cX12_stacks 217 = .ok (.iload_n 2, 1) := dl_o28 kcX12_stacks (by decide +kernel)
theorem dX12_stacks_218 : decode cX12_stacks 218 = .ok (.aload_n 0, 1) := dl_o42 kcX12_stacks (by decide +kernel)
theorem dX12_stacks_219 : decode cX12_stacks 219 = .ok (.getfield 418, 3) := dl_o180 kcX12_stacks (by decide +kernel)
theorem dX12_stacks_222 : decode cX12_stacks 222 = .ok (.if_icmp .le 9, 3) := dl_o164 kcX12_stacks 9 (by decide +kernel) (by decide +kernel)
theorem dX12_stacks_225 : decode cX12_stacks 225 = .ok (.aload_n 0, 1) := dl_o42 kcX12_stacks (by decide +kernel)
theorem dX12_stacks_226 : decode cX12_stacks 226 = .ok (.iconst 1, 1) := dl_o4 kcX12_stacks (by decide +kernel)
theorem dX12_stacks_227 : decode cX12_stacks 227 = .ok (.invokevirtual 421, 3) := dl_o182 kcX12_stacks (by decide +kernel)
theorem dX12_stacks_230 : decode cX12_stacks 230 = .ok (.return_, 1) := dl_o177 kcX12_stacks (by decide +kernel)
theorem dX12_stacks_231 : decode cX12_stacks 231 = .ok (.aload_n 0, 1) := dl_o42 kcX12_stacks (by decide +kernel)
theorem dX12_stacks_232 : decode cX12_stacks 232 = .ok (.getfield 91, 3) := dl_o180 kcX12_stacks (by decide +kernel)
theorem dX12_stacks_235 : decode cX12_stacks 235 = .ok (.aload_n 0, 1) := dl_o42 kcX12_stacks (by decide +kernel)
theorem dX12_stacks_236 : decode cX12_stacks 236 = .ok (.getfield 418, 3) := dl_o180 kcX12_stacks (by decide +kernel)
theorem dX12_stacks_239 : decode cX12_stacks 239 = .ok (.iload_n 2, 1) := dl_o28 kcX12_stacks (by decide +kernel)
theorem dX12_stacks_240 : decode cX12_stacks 240 = .ok (.isub, 1) := dl_o100 kcX12_stacks (by decide +kernel)
theorem dX12_stacks_241 : decode cX12_stacks 241 = .ok (.iaload, 1) := dl_o46 kcX12_stacks (by decide +kernel)
theorem dX12_stacks_242 : decode cX12_stacks 242 = .ok (.istore_n 3, 1) := dl_o62 kcX12_stacks (by decide +kernel)
theorem dX12_stacks_243 : decode cX12_stacks 243 = .ok (.iload_n 1, 1) := dl_o27 kcX12_stacks (by decide +kernel)
theorem dX12_stacks_244 : decode cX12_stacks 244 = .ok (.bipush 38, 2) := dl_o16 kcX12_stacks 38 (by decide +kernel) (by decide +kernel)
theorem dX12_stacks_246 : decode cX12_stacks 246 = .ok (.if_icmp .ne 54, 3) := dl_o160 kcX12_stacks 54 (by decide +kernel) (by decide +kernel)
theorem dX12_stacks_249 : decode cX12_stacks 249 = .ok (.aload_n 0, 1) := dl_o42 kcX12_stacks (by decide +kernel)
theorem dX12_stacks_250 : decode cX12_stacks 250 = .ok (.getfield 418, 3) := dl_o180 kcX12_stacks (by decide +kernel)
theorem dX12_stacks_253 : decode cX12_stacks 253 = .ok (.iload_n 2, 1) := dl_o28 kcX12_stacks (by decide +kernel)
theorem dX12_stacks_254 : decode cX12_stacks 254 = .ok (.isub, 1) := dl_o100 kcX12_stacks (by decide +kernel)
theorem dX12_stacks_255 : decode cX12_stacks 255 = .ok (.istore 4, 2) := dl_o54 kcX12_stacks (by decide +kernel)
theorem dX12_stacks_257 : decode cX12_stacks 257 = .ok (.iload 4, 2) := dl_o21 kcX12_stacks (by decide +kernel)
theorem dX12_stacks_259 : decode cX12_stacks 259 = .ok (.aload_n 0, 1) := dl_o42 kcX12_stacks (by decide +kernel)
theorem dX12_stacks_260 : decode cX12_stacks 260 = .ok (.getfield 418, 3) := dl_o180 kcX12_stacks (by decide +kernel)
theorem dX12_stacks_263 : decode cX12_stacks 263 = .ok (.iconst 1, 1) := dl_o4 kcX12_stacks (by decide +kernel)
theorem dX12_stacks_264 : decode cX12_stacks 264 = .ok (.isub, 1) := dl_o100 kcX12_stacks (by decide +kernel)
theorem dX12_stacks_265 : decode cX12_stacks 265 = .ok (.if_icmp .ge 25, 3) := dl_o162 kcX12_stacks 25 (by decide +kernel) (by decide +kernel)
theorem dX12_stacks_268 : decode cX12_stacks 268 = .ok (.aload_n 0, 1) := dl_o42 kcX12_stacks (by decide +kernel)
theorem dX12_stacks_269 : decode cX12_stacks 269 = .ok (.getfield 91, 3) := dl_o180 kcX12_stacks (by decide +kernel)
theorem dX12_stacks_272 : decode cX12_stacks 272 = .ok (.iload 4, 2) := dl_o21 kcX12_stacks (by decide +kernel)
theorem dX12_stacks_274 : decode cX12_stacks 274 = .ok (.aload_n 0, 1) := dl_o42 kcX12_stacks (by decide +kernel)
theorem dX12_stacks_275 : decode cX12_stacks 275 = .ok (.getfield 91, 3) := dl_o180 kcX12_stacks (by decide +kernel)
theorem dX12_stacks_278 : decode cX12_stacks 278 = .ok (.iload 4, 2) := dl_o21 kcX12_stacks (by decide +kernel)
theorem dX12_stacks_280 : decode cX12_stacks 280 = .ok (.iconst 1, 1) := dl_o4 kcX12_stacks (by decide +kernel)
theorem dX12_stacks_281 : decode cX12_stacks 281 = .ok (.iadd, 1) := dl_o96 kcX12_stacks (by decide +kernel)
theorem dX12_stacks_282 : decode cX12_stacks 282 = .ok (.iaload, 1) := dl_o46 kcX12_stacks (by decide +kernel)
theorem dX12_stacks_283 : decode cX12_stacks 283 = .ok (.iastore, 1) := dl_o79 kcX12_stacks (by decide +kernel)
theorem dX12_stacks_284 : decode cX12_stacks 284 = .ok (.iinc 4 1, 3) := by decide +kernel
theorem dX12_stacks_287 : decode cX12_stacks 287 = .ok (.goto (-30), 3) := dl_o167 kcX12_stacks 65506 (by decide +kernel) (by decide +kernel)
theorem dX12_stacks_290 : decode cX12_stacks 290 = .ok (.aload_n 0, 1) := dl_o42 kcX12_stacks (by decide +kernel)
theorem dX12_stacks_291 : decode cX12_stacks 291 = .ok (.dup, 1) := dl_o89 kcX12_stacks (by decide +kernel)
theorem dX12_stacks_292 : decode cX12_stacks 292 = .ok (.getfield 418, 3) := dl_o180 kcX12_stacks (by decide +kernel)
theorem dX12_stacks_295 : decode cX12_stacks 295 = .ok (.iconst 1, 1) := dl_o4 kcX12_stacks (by decide +kernel)
theorem dX12_stacks_296 : decode cX12_stacks 296 = .ok (.isub, 1) := dl_o100 kcX12_stacks (by decide +kernel)
theorem dX12_stacks_297 : decode cX12_stacks 297 = .ok (.putfield 418, 3) := dl_o181 kcX12_stacks (by decide +kernel)
theorem dX12_stacks_300 : decode cX12_stacks 300 = .ok (.aload_n 0, 1) := dl_o42 kcX12_stacks (by decide +kernel)
theorem dX12_stacks_301 : decode cX12_stacks 301 = .ok (.iload_n 3, 1) := dl_o29 kcX12_stacks (by decide +kernel)
theorem dX12_stacks_302 : decode cX12_stacks 302 = .ok (.i2l, 1) := dl_o133 kcX12_stacks (by decide +kernel)
theorem dX12_stacks_303 : decode cX12_stacks 303 = .ok (.invokevirtual 564, 3) := dl_o182 kcX12_stacks (by decide +kernel)
theorem dX12_stacks_306 : decode cX12_stacks 306 = .ok (.return_, 1) := dl_o177 kcX12_stacks (by decide +kernel)
theorem dX12_stacks_307 : decode cX12_stacks 307 = .ok (.aload_n 0, 1) := dl_o42 kcX12_stacks (by decide +kernel)
theorem dX12_stacks_308 : decode cX12_stacks 308 = .ok (.iconst 2, 1) := dl_o5 kcX12_stacks (by decide +kernel)
theorem dX12_stacks_309 : decode cX12_stacks 309 = .ok (.invokevirtual 576, 3) := dl_o182 kcX12_stacks (by decide +kernel)
theorem dX12_stacks_312 : decode cX12_stacks 312 = .ok (.ifCond .eq 63, 3) := dl_o153 kcX12_stacks 63 (by decide +kernel) (by decide +kernel)
theorem dX12_stacks_315 : decode cX12_stacks 315 = .ok (.aload_n 0, 1) := dl_o42 kcX12_stacks (by decide +kernel)
theorem dX12_stacks_316 : decode cX12_stacks 316 = .ok (.aload_n 0, 1) := dl_o42 kcX12_stacks (by decide +kernel)
theorem dX12_stacks_317 : decode cX12_stacks 317 = .ok (.getfield 460, 3) := dl_o180 kcX12_stacks (by decide +kernel)
theorem dX12_stacks_320 : decode cX12_stacks 320 = .ok (.aload_n 0, 1) := dl_o42 kcX12_stacks (by decide +kernel)
theorem dX12_stacks_321 : decode cX12_stacks 321 = .ok (.invokevirtual 579, 3) := dl_o182 kcX12_stacks (by decide +kernel)
theorem dX12_stacks_324 : decode cX12_stacks 324 = .ok (.invokevirtual 582, 3) := dl_o182 kcX12_stacks (by decide +kernel)
theorem dX12_stacks_327 : decode cX12_stacks 327 = .ok (.istore_n 2, 1) := dl_o61 kcX12_stacks (by decide +kernel)
theorem dX12_stacks_328 : decode cX12_stacks 328 = .ok (.aload_n 0, 1) := dl_o42 kcX12_stacks (by decide +kernel)
theorem dX12_stacks_329 : decode cX12_stacks 329 = .ok (.aload_n 0, 1) := dl_o42 kcX12_stacks (by decide +kernel)
theorem dX12_stacks_330 : decode cX12_stacks 330 = .ok (.getfield 463, 3) := dl_o180 kcX12_stacks (by decide +kernel)
theorem dX12_stacks_333 : decode cX12_stacks 333 = .ok (.aload_n 0, 1) := dl_o42 kcX12_stacks (by decide +kernel)
theorem dX12_stacks_334 : decode cX12_stacks 334 = .ok (.invokevirtual 579, 3) := dl_o182 kcX12_stacks (by decide +kernel)
theorem dX12_stacks_337 : decode cX12_stacks 337 = .ok (.invokevirtual 582, 3) := dl_o182 kcX12_stacks (by decide +kernel)
theorem dX12_stacks_340 : decode cX12_stacks 340 = .ok (.istore_n 3, 1) := dl_o62 kcX12_stacks (by decide +kernel)
theorem dX12_stacks_341 : decode cX12_stacks 341 = .ok (.aload_n 0, 1) := dl_o42 kcX12_stacks (by decide +kernel)
theorem dX12_stacks_342 : decode cX12_stacks 342 = .ok (.getfield 409, 3) := dl_o180 kcX12_stacks (by decide +kernel)
theorem dX12_stacks_345 : decode cX12_stacks 345 = .ok (.ifCond .ne 30, 3) := dl_o154 kcX12_stacks 30 (by decide +kernel) (by decide +kernel)
theorem dX12_stacks_348 : decode cX12_stacks 348 = .ok (.aload_n 0, 1) := dl_o42 kcX12_stacks (by decide +kernel)
theorem dX12_stacks_349 : decode cX12_stacks 349 = .ok (.iload_n 2, 1) := dl_o28 kcX12_stacks (by decide +kernel)
theorem dX12_stacks_350 : decode cX12_stacks 350 = .ok (.iload_n 3, 1) := dl_o29 kcX12_stacks (by decide +kernel)
theorem dX12_stacks_351 : decode cX12_stacks 351 = .ok (.invokevirtual 627, 3) := dl_o182 kcX12_stacks (by decide +kernel)
theorem dX12_stacks_354 : decode cX12_stacks 354 = .ok (.iconst 2, 1) := dl_o5 kcX12_stacks (by decide +kernel)
theorem dX12_stacks_355 : decode cX12_stacks 355 = .ok (.idiv, 1) := dl_o108 kcX12_stacks (by decide +kernel)
theorem dX12_stacks_356 : decode cX12_stacks 356 = .ok (.istore 4, 2) := dl_o54 kcX12_stacks (by decide +kernel)
theorem dX12_stacks_358 : decode cX12_stacks 358 = .ok (.aload_n 0, 1) := dl_o42 kcX12_stacks (by decide +kernel)
theorem dX12_stacks_359 : decode cX12_stacks 359 = .ok (.iload_n 3, 1) := dl_o29 kcX12_stacks (by decide +kernel)
theorem dX12_stacks_360 : decode cX12_stacks 360 = .ok (.iload 4, 2) := dl_o21 kcX12_stacks (by decide +kernel)
theorem dX12_stacks_362 : decode cX12_stacks 362 = .ok (.i2l, 1) := dl_o133 kcX12_stacks (by decide +kernel)
theorem dX12_stacks_363 : decode cX12_stacks 363 = .ok (.invokevirtual 630, 3) := dl_o182 kcX12_stacks (by decide +kernel)
theorem dX12_stacks_366 : decode cX12_stacks 366 = .ok (.aload_n 0, 1) := dl_o42 kcX12_stacks (by decide +kernel)
theorem dX12_stacks_367 : decode cX12_stacks 367 = .ok (.iload_n 2, 1) := dl_o28 kcX12_stacks (by decide +kernel)
theorem dX12_stacks_368 : decode cX12_stacks 368 = .ok (.iload 4, 2) := dl_o21 kcX12_stacks (by decide +kernel)
theorem dX12_stacks_370 : decode cX12_stacks 370 = .ok (.i2l, 1) := dl_o133 kcX12_stacks (by decide +kernel)
theorem dX12_stacks_371 : decode cX12_stacks 371 = .ok (.lneg, 1) := dl_o117 kcX12_stacks (by decide +kernel)
theorem dX12_stacks_372 : decode cX12_stacks 372 = .ok (.invokevirtual 630, 3) := dl_o182 kcX12_stacks (by decide +kernel)
theorem dX12_stacks_375 : decode cX12_stacks 375 = .ok (.return_, 1) := dl_o177 kcX12_stacks (by decide +kernel)
theorem dX12_stacks_376 : decode cX12_stacks 376 = .ok (.aload_n 0, 1) := dl_o42 kcX12_stacks (by decide +kernel)
theorem dX12_stacks_377 : decode cX12_stacks 377 = .ok (.iconst 1, 1) := dl_o4 kcX12_stacks (by decide +kernel)
theorem dX12_stacks_378 : decode cX12_stacks 378 = .ok (.invokevirtual 576, 3) := dl_o182 kcX12_stacks (by decide +kernel)
theorem dX12_stacks_381 : decode cX12_stacks 381 = .ok (.ifCond .eq 63, 3) := dl_o153 kcX12_stacks 63 (by decide +kernel) (by decide +kernel)
theorem dX12_stacks_384 : decode cX12_stacks 384 = .ok (.aload_n 0, 1) := dl_o42 kcX12_stacks (by decide +kernel)
theorem dX12_stacks_385 : decode cX12_stacks 385 = .ok (.aload_n 0, 1) := dl_o42 kcX12_stacks (by decide +kernel)
theorem dX12_stacks_386 : decode cX12_stacks 386 = .ok (.getfield 460, 3) := dl_o180 kcX12_stacks (by decide +kernel)
theorem dX12_stacks_389 : decode cX12_stacks 389 = .ok (.aload_n 0, 1) := dl_o42 kcX12_stacks (by decide +kernel)
theorem dX12_stacks_390 : decode cX12_stacks 390 = .ok (.invokevirtual 579, 3) := dl_o182 kcX12_stacks (by decide +kernel)
theorem dX12_stacks_393 : decode cX12_stacks 393 = .ok (.invokevirtual 582, 3) := dl_o182 kcX12_stacks (by decide +kernel)
theorem dX12_stacks_396 : decode cX12_stacks 396 = .ok (.istore_n 2, 1) := dl_o61 kcX12_stacks (by decide +kernel)
theorem dX12_stacks_397 : decode cX12_stacks 397 = .ok (.aload_n 0, 1) := dl_o42 kcX12_stacks (by decide +kernel)
theorem dX12_stacks_398 : decode cX12_stacks 398 = .ok (.getfield 409, 3) := dl_o180 kcX12_stacks (by decide +kernel)
theorem dX12_stacks_401 : decode cX12_stacks 401 = .ok (.ifCond .ne 43, 3) := dl_o154 kcX12_stacks 43 (by decide +kernel) (by decide +kernel)
theorem dX12_stacks_404 : decode cX12_stacks 404 = .ok (.aload_n 0, 1) := dl_o42 kcX12_stacks (by decide +kernel)
theorem dX12_stacks_405 : decode cX12_stacks 405 = .ok (.getfield 82, 3) := dl_o180 kcX12_stacks (by decide +kernel)
theorem dX12_stacks_408 : decode cX12_stacks 408 = .ok (.iload_n 2, 1) := dl_o28 kcX12_stacks (by decide +kernel)
theorem dX12_stacks_409 : decode cX12_stacks 409 = .ok (.aload_n 0, 1) := dl_o42 kcX12_stacks (by decide +kernel)
theorem dX12_stacks_410 : decode cX12_stacks 410 = .ok (.getfield 82, 3) := dl_o180 kcX12_stacks (by decide +kernel)
theorem dX12_stacks_413 : decode cX12_stacks 413 = .ok (.iload_n 2, 1) := dl_o28 kcX12_stacks (by decide +kernel)
theorem dX12_stacks_414 : decode cX12_stacks 414 = .ok (.iaload, 1) := dl_o46 kcX12_stacks (by decide +kernel)
theorem dX12_stacks_415 : decode cX12_stacks 415 = .ok (.aload_n 0, 1) := dl_o42 kcX12_stacks (by decide +kernel)
theorem dX12_stacks_416 : decode cX12_stacks 416 = .ok (.getfield 433, 3) := dl_o180 kcX12_stacks (by decide +kernel)
theorem dX12_stacks_419 : decode cX12_stacks 419 = .ok (.ifCond .eq 7, 3) := dl_o153 kcX12_stacks 7 (by decide +kernel) (by decide +kernel)
theorem dX12_stacks_422 : decode cX12_stacks 422 = .ok (.iconst 1, 1) := dl_o4 kcX12_stacks (by decide +kernel)
theorem dX12_stacks_423 : decode cX12_stacks 423 = .ok (.goto 4, 3) := dl_o167 kcX12_stacks 4 (by decide +kernel) (by decide +kernel)
theorem dX12_stacks_426 : decode cX12_stacks 426 = .ok (.iconst 0, 1) := dl_o3 kcX12_stacks (by decide +kernel)
theorem dX12_stacks_427 : decode cX12_stacks 427 = .ok (.aload_n 0, 1) := dl_o42 kcX12_stacks (by decide +kernel)
theorem dX12_stacks_428 : decode cX12_stacks 428 = .ok (.getfield 436, 3) := dl_o180 kcX12_stacks (by decide +kernel)
theorem dX12_stacks_431 : decode cX12_stacks 431 = .ok (.ifCond .eq 7, 3) := dl_o153 kcX12_stacks 7 (by decide +kernel) (by decide +kernel)
theorem dX12_stacks_434 : decode cX12_stacks 434 = .ok (.iconst 2, 1) := dl_o5 kcX12_stacks (by decide +kernel)
theorem dX12_stacks_435 : decode cX12_stacks 435 = .ok (.goto 4, 3) := dl_o167 kcX12_stacks 4 (by decide +kernel) (by decide +kernel)
theorem dX12_stacks_438 : decode cX12_stacks 438 = .ok (.iconst 0, 1) := dl_o3 kcX12_stacks (by decide +kernel)
theorem dX12_stacks_439 : decode cX12_stacks 439 = .ok (.ior, 1) := dl_o128 kcX12_stacks (by decide +kernel)
theorem dX12_stacks_440 : decode cX12_stacks 440 = .ok (.iconst (-1), 1) := dl_o2 kcX12_stacks (by decide +kernel)
theorem dX12_stacks_441 : decode cX12_stacks 441 = .ok (.ixor, 1) := dl_o130 kcX12_stacks (by decide +kernel)
theorem dX12_stacks_442 : decode cX12_stacks 442 = .ok (.iand, 1) := dl_o126 kcX12_stacks (by decide +kernel)
theorem dX12_stacks_443 : decode cX12_stacks 443 = .ok (.iastore, 1) := dl_o79 kcX12_stacks (by decide +kernel)
theorem dX12_stacks_444 : decode cX12_stacks 444 = .ok (.return_, 1) := dl_o177 kcX12_stacks (by decide +kernel)
theorem dX12_stacks_445 : decode cX12_stacks 445 = .ok (.aload_n 0, 1) := dl_o42 kcX12_stacks (by decide +kernel)
theorem dX12_stacks_446 : decode cX12_stacks 446 = .ok (.iload_n 1, 1) := dl_o27 kcX12_stacks (by decide +kernel)
theorem dX12_stacks_447 : decode cX12_stacks 447 = .ok (.bipush 42, 2) := dl_o16 kcX12_stacks 42 (by decide +kernel) (by decide +kernel)
theorem dX12_stacks_449 : decode cX12_stacks 449 = .ok (.if_icmp .ne 7, 3) := dl_o160 kcX12_stacks 7 (by decide +kernel) (by decide +kernel)
theorem dX12_stacks_452 : decode cX12_stacks 452 = .ok (.iconst 1, 1) := dl_o4 kcX12_stacks (by decide +kernel)
theorem dX12_stacks_453 : decode cX12_stacks 453 = .ok (.goto 4, 3) := dl_o167 kcX12_stacks 4 (by decide +kernel) (by decide +kernel)
theorem dX12_stacks_456 : decode cX12_stacks 456 = .ok (.iconst 0, 1) := dl_o3 kcX12_stacks (by decide +kernel)
theorem dX12_stacks_457 : decode cX12_stacks 457 = .ok (.invokevirtual 634, 3) := dl_o182 kcX12_stacks (by decide +kernel)
theorem dX12_stacks_460 : decode cX12_stacks 460 = .ok (.return_, 1) := dl_o177 kcX12_stacks (by decide +kernel)
theorem dX12_stacks_461 : decode cX12_stacks 461 = .ok (.aload_n 0, 1) := dl_o42 kcX12_stacks (by decide +kernel)
theorem dX12_stacks_462 : decode cX12_stacks 462 = .ok (.invokevirtual 638, 3) := dl_o182 kcX12_stacks (by decide +kernel)
theorem dX12_stacks_465 : decode cX12_stacks 465 = .ok (.return_, 1) := dl_o177 kcX12_stacks (by decide +kernel)
theorem dX12_stacks_466 : decode cX12_stacks 466 = .ok (.aload_n 0, 1) := dl_o42 kcX12_stacks (by decide +kernel)
theorem dX12_stacks_467 : decode cX12_stacks 467 = .ok (.invokevirtual 641, 3) := dl_o182 kcX12_stacks (by decide +kernel)
theorem dX12_stacks_470 : decode cX12_stacks 470 = .ok (.return_, 1) := dl_o177 kcX12_stacks (by decide +kernel)
theorem dX12_stacks_471 : decode cX12_stacks 471 = .ok (.aload_n 0, 1) := dl_o42 kcX12_stacks (by decide +kernel)
theorem dX12_stacks_472 : decode cX12_stacks 472 = .ok (.iconst 1, 1) := dl_o4 kcX12_stacks (by decide +kernel)
theorem dX12_stacks_473 : decode cX12_stacks 473 = .ok (.invokevirtual 576, 3) := dl_o182 kcX12_stacks (by decide +kernel)
theorem dX12_stacks_476 : decode cX12_stacks 476 = .ok (.ifCond .eq 68, 3) := dl_o153 kcX12_stacks 68 (by decide +kernel) (by decide +kernel)
theorem dX12_stacks_479 : decode cX12_stacks 479 = .ok (.aload_n 0, 1) := dl_o42 kcX12_stacks (by decide +kernel)
theorem dX12_stacks_480 : decode cX12_stacks 480 = .ok (.invokevirtual 579, 3) := dl_o182 kcX12_stacks (by decide +kernel)
theorem dX12_stacks_483 : decode cX12_stacks 483 = .ok (.istore_n 2, 1) := dl_o61 kcX12_stacks (by decide +kernel)
theorem dX12_stacks_484 : decode cX12_stacks 484 = .ok (.aload_n 0, 1) := dl_o42 kcX12_stacks (by decide +kernel)
theorem dX12_stacks_485 : decode cX12_stacks 485 = .ok (.aload_n 0, 1) := dl_o42 kcX12_stacks (by decide +kernel)
theorem dX12_stacks_486 : decode cX12_stacks 486 = .ok (.getfield 460, 3) := dl_o180 kcX12_stacks (by decide +kernel)
theorem dX12_stacks_489 : decode cX12_stacks 489 = .ok (.iload_n 2, 1) := dl_o28 kcX12_stacks (by decide +kernel)
theorem dX12_stacks_490 : decode cX12_stacks 490 = .ok (.invokevirtual 582, 3) := dl_o182 kcX12_stacks (by decide +kernel)
theorem dX12_stacks_493 : decode cX12_stacks 493 = .ok (.istore_n 3, 1) := dl_o62 kcX12_stacks (by decide +kernel)
theorem dX12_stacks_494 : decode cX12_stacks 494 = .ok (.aload_n 0, 1) := dl_o42 kcX12_stacks (by decide +kernel)
theorem dX12_stacks_495 : decode cX12_stacks 495 = .ok (.getfield 409, 3) := dl_o180 kcX12_stacks (by decide +kernel)
theorem dX12_stacks_498 : decode cX12_stacks 498 = .ok (.ifCond .ne 46, 3) := dl_o154 kcX12_stacks 46 (by decide +kernel) (by decide +kernel)
theorem dX12_stacks_501 : decode cX12_stacks 501 = .ok (.aload_n 0, 1) := dl_o42 kcX12_stacks (by decide +kernel)
theorem dX12_stacks_502 : decode cX12_stacks 502 = .ok (.iload_n 3, 1) := dl_o29 kcX12_stacks (by decide +kernel)
theorem dX12_stacks_503 : decode cX12_stacks 503 = .ok (.invokevirtual 644, 3) := dl_o182 kcX12_stacks (by decide +kernel)
theorem dX12_stacks_506 : decode cX12_stacks 506 = .ok (.istore 4, 2) := dl_o54 kcX12_stacks (by decide +kernel)
theorem dX12_stacks_508 : decode cX12_stacks 508 = .ok (.aload_n 0, 1) := dl_o42 kcX12_stacks (by decide +kernel)
theorem dX12_stacks_509 : decode cX12_stacks 509 = .ok (.iload_n 3, 1) := dl_o29 kcX12_stacks (by decide +kernel)
theorem dX12_stacks_510 : decode cX12_stacks 510 = .ok (.iload_n 1, 1) := dl_o27 kcX12_stacks (by decide +kernel)
theorem dX12_stacks_511 : decode cX12_stacks 511 = .ok (.bipush 47, 2) := dl_o16 kcX12_stacks 47 (by decide +kernel) (by decide +kernel)
theorem dX12_stacks_513 : decode cX12_stacks 513 = .ok (.if_icmp .ne 17, 3) := dl_o160 kcX12_stacks 17 (by decide +kernel) (by decide +kernel)
theorem dX12_stacks_516 : decode cX12_stacks 516 = .ok (.aload_n 0, 1) := dl_o42 kcX12_stacks (by decide +kernel)
theorem dX12_stacks_517 : decode cX12_stacks 517 = .ok (.iload 4, 2) := dl_o21 kcX12_stacks (by decide +kernel)
theorem dX12_stacks_519 : decode cX12_stacks 519 = .ok (.i2l, 1) := dl_o133 kcX12_stacks (by decide +kernel)
theorem dX12_stacks_520 : decode cX12_stacks 520 = .ok (.invokevirtual 647, 3) := dl_o182 kcX12_stacks (by decide +kernel)
theorem dX12_stacks_523 : decode cX12_stacks 523 = .ok (.iload 4, 2) := dl_o21 kcX12_stacks (by decide +kernel)
theorem dX12_stacks_525 : decode cX12_stacks 525 = .ok (.i2l, 1) := dl_o133 kcX12_stacks (by decide +kernel)
theorem dX12_stacks_526 : decode cX12_stacks 526 = .ok (.lsub, 1) := dl_o101 kcX12_stacks (by decide +kernel)
theorem dX12_stacks_527 : decode cX12_stacks 527 = .ok (.goto 4, 3) := dl_o167 kcX12_stacks 4 (by decide +kernel) (by decide +kernel)
theorem dX12_stacks_530 : decode cX12_stacks 530 = .ok (.lconst 0, 1) := dl_o9 kcX12_stacks (by decide +kernel)
theorem dX12_stacks_531 : decode cX12_stacks 531 = .ok (.invokevirtual 630, 3) := dl_o182 kcX12_stacks (by decide +kernel)
theorem dX12_stacks_534 : decode cX12_stacks 534 = .ok (.aload_n 0, 1) := dl_o42 kcX12_stacks (by decide +kernel)
theorem dX12_stacks_535 : decode cX12_stacks 535 = .ok (.iload_n 2, 1) := dl_o28 kcX12_stacks (by decide +kernel)
theorem dX12_stacks_536 : decode cX12_stacks 536 = .ok (.putfield 451, 3) := dl_o181 kcX12_stacks (by decide +kernel)
theorem dX12_stacks_539 : decode cX12_stacks 539 = .ok (.aload_n 0, 1) := dl_o42 kcX12_stacks (by decide +kernel)
theorem dX12_stacks_540 : decode cX12_stacks 540 = .ok (.iload_n 2, 1) := dl_o28 kcX12_stacks (by decide +kernel)
theorem dX12_stacks_541 : decode cX12_stacks 541 = .ok (.putfield 454, 3) := dl_o181 kcX12_stacks (by decide +kernel)
theorem dX12_stacks_544 : decode cX12_stacks 544 = .ok (.return_, 1) := dl_o177 kcX12_stacks (by decide +kernel)
theorem dX12_stacks_545 : decode cX12_stacks 545 = .ok (.aload_n 0, 1) := dl_o42 kcX12_stacks (by decide +kernel)
theorem dX12_stacks_546 : decode cX12_stacks 546 = .ok (.iload_n 1, 1) := dl_o27 kcX12_stacks (by decide +kernel)
theorem dX12_stacks_547 : decode cX12_stacks 547 = .ok (.invokevirtual 650, 3) := dl_o182 kcX12_stacks (by decide +kernel)
theorem dX12_stacks_550 : decode cX12_stacks 550 = .ok (.return_, 1) := dl_o177 kcX12_stacks (by decide +kernel)
def B_X12_stacks_225 (N : Nat)   (V : sv_V) : Option sv_V := (F_X12_fail (1 : Int32) V).bind (fun V1 => some V1)
set_option maxRecDepth 20000 in
theorem tB_X12_stacks_225 {g : sx_G} (hG : sx_Go g) {P : Option Value → sv_V → Prop} {Vr : sv_V} (hP : P none Vr) {N : Nat}    {V : sv_V} (h : B_X12_stacks_225 N   V = some Vr) : sv_N g qX12_stacks 5 225 [(0, .ref 146)] [] V P := by
  unfold B_X12_stacks_225 at h
  refine sx_aload_n (pc := 225) dX12_stacks_225 sx_m0 ?_
  refine sx_iconst (pc := 226) (v := 1) dX12_stacks_226 (by decide) ?_
  obtain ⟨V1, g2, h⟩ := sx_bnd h
  refine sv_cV (pc := 227) (y := qX12_fail) (o := none) (as := [.int (1 : Int32)]) (V1 := V1) hG dX12_stacks_227 l_X12_421 y0X12_fail yvX12_fail rfl (Nat.le_of_ble_eq_true rfl) lay_146 kr_12 (by decide) (Nat.le_of_ble_eq_true rfl) rfl rfl rfl (t_X12_fail hG ⟨rfl, rfl⟩ g2) ?_
  exact sv_vret (pc := 230) dX12_stacks_230 rfl h hP
def B_X12_stacks_300 (N : Nat)  (l3 : Int32) (V : sv_V) : Option sv_V := (F_X12_push l3.toInt64 V).bind (fun V3 => some V3)
set_option maxRecDepth 20000 in
theorem tB_X12_stacks_300 {g : sx_G} (hG : sx_Go g) {P : Option Value → sv_V → Prop} {Vr : sv_V} (hP : P none Vr) {N : Nat}   {l3 : Int32} {V : sv_V} (h : B_X12_stacks_300 N  l3 V = some Vr) : sv_N g qX12_stacks 5 300 [(0, .ref 146), (3, .int l3)] [] V P := by
  unfold B_X12_stacks_300 at h
  refine sx_aload_n (pc := 300) dX12_stacks_300 sx_m0 ?_
  refine sx_iload_n (pc := 301) dX12_stacks_301 sx_m1 ?_
  refine sx_i2l (pc := 302) dX12_stacks_302 ?_
  obtain ⟨V3, g4, h⟩ := sx_bnd h
  refine sv_cV (pc := 303) (y := qX12_push) (o := none) (as := [.long l3.toInt64]) (V1 := V3) hG dX12_stacks_303 l_X12_564 y0X12_push yvX12_push rfl (Nat.le_of_ble_eq_true rfl) lay_146 kr_12 (by decide) (Nat.le_of_ble_eq_true rfl) rfl rfl rfl (t_X12_push hG ⟨rfl, rfl⟩ g4) ?_
  exact sv_vret (pc := 306) dX12_stacks_306 rfl h hP
def B_X12_stacks_257 (N : Nat) (k257 : Int32 → Int32 → sv_V → Option sv_V) (l3 : Int32) (l4 : Int32) (V : sv_V) : Option sv_V := if ((V.1 146 56) - (1 : Int32)) ≤ l4 then (sx_let (sv_I V 146 56 ((V.1 146 56) - (1 : Int32))) (fun V6 => B_X12_stacks_300 N  l3 V6)) else (if sx_in (l4 + (1 : Int32)) 256 = true then if sx_in l4 256 = true then sx_let (sv_I V 173 l4.toNatClampNeg (V.1 173 (l4 + (1 : Int32)).toNatClampNeg)) (fun V9 => sx_let (l4 + 1) (fun x10 => k257 l3 x10 V9)) else none else none)
set_option maxRecDepth 20000 in
theorem tB_X12_stacks_257 {g : sx_G} (hG : sx_Go g) {P : Option Value → sv_V → Prop} {Vr : sv_V} (hP : P none Vr) {N : Nat} {k257 : Int32 → Int32 → sv_V → Option sv_V} (hk257 : ∀ (l3 : Int32) (l4 : Int32) (V : sv_V), k257 l3 l4 V = some Vr → sv_N g qX12_stacks 5 257 [(0, .ref 146), (3, .int l3), (4, .int l4)] [] V P) {l3 : Int32} {l4 : Int32} {V : sv_V} (h : B_X12_stacks_257 N k257 l3 l4 V = some Vr) : sv_N g qX12_stacks 5 257 [(0, .ref 146), (3, .int l3), (4, .int l4)] [] V P := by
  unfold B_X12_stacks_257 at h
  refine sx_iload (pc := 257) dX12_stacks_257 sx_m2 ?_
  refine sx_aload_n (pc := 259) dX12_stacks_259 sx_m0 ?_
  refine sv_getI (pc := 260) hG dX12_stacks_260 f_12_418 lay_146 rfl ?_
  refine sx_iconst (pc := 263) (v := 1) dX12_stacks_263 (by decide) ?_
  refine sx_isub (pc := 264) dX12_stacks_264 ?_
  refine sx_icmp_ge (pc := 265) (tgt := 290) dX12_stacks_265 (by decide) (fun c5 => ?_) (fun c5 => ?_)
  · have h := sx_pos c5 h
    refine sx_aload_n (pc := 290) dX12_stacks_290 sx_m0 ?_
    refine sx_dup (pc := 291) dX12_stacks_291 rfl ?_
    refine sv_getI (pc := 292) hG dX12_stacks_292 f_12_418 lay_146 rfl ?_
    refine sx_iconst (pc := 295) (v := 1) dX12_stacks_295 (by decide) ?_
    refine sx_isub (pc := 296) dX12_stacks_296 ?_
    obtain ⟨V6, hV6⟩ : ∃ z : sv_V, z = sv_I V 146 56 ((V.1 146 56) - (1 : Int32)) := ⟨_, rfl⟩
    have h := sx_letE hV6 h
    refine sv_putI (pc := 297) hG dX12_stacks_297 f_12_418 lay_146 rfl hV6 ?_
    refine sx_wk (sx_s1 sx_m0 (sx_s1 sx_m1 sx_s0)) ?_
    exact tB_X12_stacks_300 hG hP  h
  · have h := sx_neg c5 h
    refine sx_aload_n (pc := 268) dX12_stacks_268 sx_m0 ?_
    refine sv_getA (pc := 269) hG dX12_stacks_269 f_12_91 lay_146 rfl cr_146_55 ?_
    refine sx_iload (pc := 272) dX12_stacks_272 sx_m2 ?_
    refine sx_aload_n (pc := 274) dX12_stacks_274 sx_m0 ?_
    refine sv_getA (pc := 275) hG dX12_stacks_275 f_12_91 lay_146 rfl cr_146_55 ?_
    refine sx_iload (pc := 278) dX12_stacks_278 sx_m2 ?_
    refine sx_iconst (pc := 280) (v := 1) dX12_stacks_280 (by decide) ?_
    refine sx_iadd (pc := 281) dX12_stacks_281 ?_
    obtain ⟨g7, h⟩ := sx_grd h
    refine sv_iald (pc := 282) hG dX12_stacks_282 lay_173 g7 ?_
    obtain ⟨g8, h⟩ := sx_grd h
    obtain ⟨V9, hV9⟩ : ∃ z : sv_V, z = sv_I V 173 l4.toNatClampNeg (V.1 173 (l4 + (1 : Int32)).toNatClampNeg) := ⟨_, rfl⟩
    have h := sx_letE hV9 h
    refine sv_iast (pc := 283) hG dX12_stacks_283 lay_173 g8 hV9 ?_
    obtain ⟨x10, hx10⟩ : ∃ z : Int32, z = l4 + 1 := ⟨_, rfl⟩
    have h := sx_letE hx10 h
    refine sx_iinc (pc := 284) (v := x10) (lo' := [(4, .int x10), (0, .ref 146), (3, .int l3)]) dX12_stacks_284 sx_m2 (by rw [hx10]; rfl) (by decide) rfl ?_
    refine sx_goto (pc := 287) (tgt := 257) dX12_stacks_287 (by decide) ?_
    refine sx_wk (sx_s1 sx_m1 (sx_s1 sx_m2 (sx_s1 sx_m0 sx_s0))) ?_
    exact hk257 _ _ _ h
theorem tL_X12_stacks_257 {g : sx_G} (hG : sx_Go g) {P : Option Value → sv_V → Prop} {Vr : sv_V} (hP : P none Vr) {N : Nat}   : ∀ (n : Nat) (l3 : Int32) (l4 : Int32) (V : sv_V), sx_lp3 (B_X12_stacks_257 N ) n l3 l4 V = some Vr → sv_N g qX12_stacks 5 257 [(0, .ref 146), (3, .int l3), (4, .int l4)] [] V P :=
  sx_lp3_ind (fun k0 ih _ _ V h => tB_X12_stacks_257 hG hP ih h)
def B_X12_stacks_199 (N : Nat)  (l1 : Int32) (V : sv_V) : Option sv_V := (F_X12_has (1 : Int32) V).bind (fun (x13, V11) => if x13 = 0 then (some V11) else ((F_X12_pop  V11).bind (fun (x17, V15) => if x17 < (1 : Int32) then (B_X12_stacks_225 N   V15) else (if x17 ≤ (V15.1 146 56) then (if sx_in ((V15.1 146 56) - x17) 256 = true then sx_let (V15.1 173 ((V15.1 146 56) - x17).toNatClampNeg) (fun x21 => if l1 = (38 : Int32) then (sx_let ((V15.1 146 56) - x17) (fun x23 => sx_lp3 (B_X12_stacks_257 N ) N x21 x23 V15)) else (B_X12_stacks_300 N  x21 V15)) else none) else (B_X12_stacks_225 N   V15)))))
set_option maxRecDepth 20000 in
theorem tB_X12_stacks_199 {g : sx_G} (hG : sx_Go g) {P : Option Value → sv_V → Prop} {Vr : sv_V} (hP : P none Vr) {N : Nat}   {l1 : Int32} {V : sv_V} (h : B_X12_stacks_199 N  l1 V = some Vr) : sv_N g qX12_stacks 5 199 [(0, .ref 146), (1, .int l1)] [] V P := by
  unfold B_X12_stacks_199 at h
  refine sx_aload_n (pc := 199) dX12_stacks_199 sx_m0 ?_
  refine sx_iconst (pc := 200) (v := 1) dX12_stacks_200 (by decide) ?_
  obtain ⟨⟨x13, V11⟩, g12, h⟩ := sx_bnd h
  refine sv_cV (pc := 201) (y := qX12_has) (o := (some (.int x13))) (as := [.int (1 : Int32)]) (V1 := V11) hG dX12_stacks_201 l_X12_576 y0X12_has yvX12_has rfl (Nat.le_of_ble_eq_true rfl) lay_146 kr_12 (by decide) (Nat.le_of_ble_eq_true rfl) rfl rfl rfl (t_X12_has hG ⟨rfl, rfl⟩ g12) ?_
  refine sx_if_eq (pc := 204) (tgt := 306) dX12_stacks_204 (by decide) (fun c14 => ?_) (fun c14 => ?_)
  · have h := sx_pos c14 h
    exact sv_vret (pc := 306) dX12_stacks_306 rfl h hP
  · have h := sx_neg c14 h
    refine sx_aload_n (pc := 207) dX12_stacks_207 sx_m0 ?_
    obtain ⟨⟨x17, V15⟩, g16, h⟩ := sx_bnd h
    refine sv_cV (pc := 208) (y := qX12_pop) (o := (some (.int x17))) (as := []) (V1 := V15) hG dX12_stacks_208 l_X12_579 y0X12_pop yvX12_pop rfl (Nat.le_of_ble_eq_true rfl) lay_146 kr_12 (by decide) (Nat.le_of_ble_eq_true rfl) rfl rfl rfl (t_X12_pop hG ⟨rfl, rfl⟩ g16) ?_
    refine sx_istore_n (pc := 211) (lo' := [(2, .int x17), (0, .ref 146), (1, .int l1)]) dX12_stacks_211 (by decide) rfl ?_
    refine sx_iload_n (pc := 212) dX12_stacks_212 sx_m0 ?_
    refine sx_iconst (pc := 213) (v := 1) dX12_stacks_213 (by decide) ?_
    refine sx_icmp_lt (pc := 214) (tgt := 225) dX12_stacks_214 (by decide) (fun c18 => ?_) (fun c18 => ?_)
    · have h := sx_pos c18 h
      refine sx_wk (sx_s1 sx_m1 sx_s0) ?_
      exact tB_X12_stacks_225 hG hP  h
    · have h := sx_neg c18 h
      refine sx_iload_n (pc := 217) dX12_stacks_217 sx_m0 ?_
      refine sx_aload_n (pc := 218) dX12_stacks_218 sx_m1 ?_
      refine sv_getI (pc := 219) hG dX12_stacks_219 f_12_418 lay_146 rfl ?_
      refine sx_icmp_le (pc := 222) (tgt := 231) dX12_stacks_222 (by decide) (fun c19 => ?_) (fun c19 => ?_)
      · have h := sx_pos c19 h
        refine sx_aload_n (pc := 231) dX12_stacks_231 sx_m1 ?_
        refine sv_getA (pc := 232) hG dX12_stacks_232 f_12_91 lay_146 rfl cr_146_55 ?_
        refine sx_aload_n (pc := 235) dX12_stacks_235 sx_m1 ?_
        refine sv_getI (pc := 236) hG dX12_stacks_236 f_12_418 lay_146 rfl ?_
        refine sx_iload_n (pc := 239) dX12_stacks_239 sx_m0 ?_
        refine sx_isub (pc := 240) dX12_stacks_240 ?_
        obtain ⟨g20, h⟩ := sx_grd h
        refine sv_iald (pc := 241) hG dX12_stacks_241 lay_173 g20 ?_
        refine sv_tI (fun x21 hx21 => ?_)
        have h := sx_letE hx21 h
        refine sx_istore_n (pc := 242) (lo' := [(3, .int x21), (2, .int x17), (0, .ref 146), (1, .int l1)]) dX12_stacks_242 (by decide) rfl ?_
        refine sx_iload_n (pc := 243) dX12_stacks_243 sx_m3 ?_
        refine sx_bipush (pc := 244) (v := 38) dX12_stacks_244 (by decide) ?_
        refine sx_icmp_ne (pc := 246) (tgt := 300) dX12_stacks_246 (by decide) (fun c22 => ?_) (fun c22 => ?_)
        · have h := sx_neg c22 h
          refine sx_wk (sx_s1 sx_m2 (sx_s1 sx_m0 sx_s0)) ?_
          exact tB_X12_stacks_300 hG hP  h
        · have h := sx_pos c22 h
          refine sx_aload_n (pc := 249) dX12_stacks_249 sx_m2 ?_
          refine sv_getI (pc := 250) hG dX12_stacks_250 f_12_418 lay_146 rfl ?_
          refine sx_iload_n (pc := 253) dX12_stacks_253 sx_m1 ?_
          refine sx_isub (pc := 254) dX12_stacks_254 ?_
          refine sv_tI (fun x23 hx23 => ?_)
          have h := sx_letE hx23 h
          refine sx_istore (pc := 255) (lo' := [(4, .int x23), (3, .int x21), (2, .int x17), (0, .ref 146), (1, .int l1)]) dX12_stacks_255 (by decide) rfl ?_
          refine sx_wk (sx_s1 sx_m3 (sx_s1 sx_m1 (sx_s1 sx_m0 sx_s0))) ?_
          exact tL_X12_stacks_257 hG hP  N _ _ _ h
      · have h := sx_neg c19 h
        refine sx_wk (sx_s1 sx_m1 sx_s0) ?_
        exact tB_X12_stacks_225 hG hP  h
def B_X12_stacks_427 (N : Nat)  (s1 : Int32) (s2 : Int32) (s3 : Int32) (V : sv_V) : Option sv_V := if (V.1 146 64) = 0 then (if sx_in s1 204 = true then sx_let (sv_I V 170 s1.toNatClampNeg (s2 &&& ((s3 ||| (0 : Int32)) ^^^ (-1 : Int32)))) (fun V26 => some V26) else none) else (if sx_in s1 204 = true then sx_let (sv_I V 170 s1.toNatClampNeg (s2 &&& ((s3 ||| (2 : Int32)) ^^^ (-1 : Int32)))) (fun V28 => some V28) else none)
set_option maxRecDepth 20000 in
theorem tB_X12_stacks_427 {g : sx_G} (hG : sx_Go g) {P : Option Value → sv_V → Prop} {Vr : sv_V} (hP : P none Vr) {N : Nat}   {s1 : Int32} {s2 : Int32} {s3 : Int32} {V : sv_V} (h : B_X12_stacks_427 N  s1 s2 s3 V = some Vr) : sv_N g qX12_stacks 5 427 [(0, .ref 146)] [.int s3, .int s2, .int s1, .ref 170] V P := by
  unfold B_X12_stacks_427 at h
  refine sx_aload_n (pc := 427) dX12_stacks_427 sx_m0 ?_
  refine sv_getI (pc := 428) hG dX12_stacks_428 f_12_436 lay_146 rfl ?_
  refine sx_if_eq (pc := 431) (tgt := 438) dX12_stacks_431 (by decide) (fun c24 => ?_) (fun c24 => ?_)
  · have h := sx_pos c24 h
    refine sx_iconst (pc := 438) (v := 0) dX12_stacks_438 (by decide) ?_
    refine sx_ior (pc := 439) dX12_stacks_439 ?_
    refine sx_iconst (pc := 440) (v := (-1)) dX12_stacks_440 (by decide) ?_
    refine sx_ixor (pc := 441) dX12_stacks_441 ?_
    refine sx_iand (pc := 442) dX12_stacks_442 ?_
    obtain ⟨g25, h⟩ := sx_grd h
    obtain ⟨V26, hV26⟩ : ∃ z : sv_V, z = sv_I V 170 s1.toNatClampNeg (s2 &&& ((s3 ||| (0 : Int32)) ^^^ (-1 : Int32))) := ⟨_, rfl⟩
    have h := sx_letE hV26 h
    refine sv_iast (pc := 443) hG dX12_stacks_443 lay_170 g25 hV26 ?_
    exact sv_vret (pc := 444) dX12_stacks_444 rfl h hP
  · have h := sx_neg c24 h
    refine sx_iconst (pc := 434) (v := 2) dX12_stacks_434 (by decide) ?_
    refine sx_goto (pc := 435) (tgt := 439) dX12_stacks_435 (by decide) ?_
    refine sx_ior (pc := 439) dX12_stacks_439 ?_
    refine sx_iconst (pc := 440) (v := (-1)) dX12_stacks_440 (by decide) ?_
    refine sx_ixor (pc := 441) dX12_stacks_441 ?_
    refine sx_iand (pc := 442) dX12_stacks_442 ?_
    obtain ⟨g27, h⟩ := sx_grd h
    obtain ⟨V28, hV28⟩ : ∃ z : sv_V, z = sv_I V 170 s1.toNatClampNeg (s2 &&& ((s3 ||| (2 : Int32)) ^^^ (-1 : Int32))) := ⟨_, rfl⟩
    have h := sx_letE hV28 h
    refine sv_iast (pc := 443) hG dX12_stacks_443 lay_170 g27 hV28 ?_
    exact sv_vret (pc := 444) dX12_stacks_444 rfl h hP
def B_X12_stacks_457 (N : Nat)  (s1 : Int32) (V : sv_V) : Option sv_V := (F_X12_callFunction s1 V).bind (fun V29 => some V29)
set_option maxRecDepth 20000 in
theorem tB_X12_stacks_457 {g : sx_G} (hG : sx_Go g) {P : Option Value → sv_V → Prop} {Vr : sv_V} (hP : P none Vr) {N : Nat}   {s1 : Int32} {V : sv_V} (h : B_X12_stacks_457 N  s1 V = some Vr) : sv_N g qX12_stacks 5 457 [] [.int s1, .ref 146] V P := by
  unfold B_X12_stacks_457 at h
  obtain ⟨V29, g30, h⟩ := sx_bnd h
  refine sv_cV (pc := 457) (y := qX12_callFunction) (o := none) (as := [.int s1]) (V1 := V29) hG dX12_stacks_457 l_X12_634 y0X12_callFunction yvX12_callFunction rfl (Nat.le_of_ble_eq_true rfl) lay_146 kr_12 (by decide) (Nat.le_of_ble_eq_true rfl) rfl rfl rfl (t_X12_callFunction hG ⟨rfl, rfl⟩ g30) ?_
  exact sv_vret (pc := 460) dX12_stacks_460 rfl h hP
def B_X12_stacks_445 (N : Nat)  (l1 : Int32) (V : sv_V) : Option sv_V := if l1 = (42 : Int32) then (B_X12_stacks_457 N  (1 : Int32) V) else (B_X12_stacks_457 N  (0 : Int32) V)
set_option maxRecDepth 20000 in
theorem tB_X12_stacks_445 {g : sx_G} (hG : sx_Go g) {P : Option Value → sv_V → Prop} {Vr : sv_V} (hP : P none Vr) {N : Nat}   {l1 : Int32} {V : sv_V} (h : B_X12_stacks_445 N  l1 V = some Vr) : sv_N g qX12_stacks 5 445 [(0, .ref 146), (1, .int l1)] [] V P := by
  unfold B_X12_stacks_445 at h
  refine sx_aload_n (pc := 445) dX12_stacks_445 sx_m0 ?_
  refine sx_iload_n (pc := 446) dX12_stacks_446 sx_m1 ?_
  refine sx_bipush (pc := 447) (v := 42) dX12_stacks_447 (by decide) ?_
  refine sx_icmp_ne (pc := 449) (tgt := 456) dX12_stacks_449 (by decide) (fun c31 => ?_) (fun c31 => ?_)
  · have h := sx_neg c31 h
    refine sx_iconst (pc := 456) (v := 0) dX12_stacks_456 (by decide) ?_
    refine sx_wk sx_s0 ?_
    exact tB_X12_stacks_457 hG hP  h
  · have h := sx_pos c31 h
    refine sx_iconst (pc := 452) (v := 1) dX12_stacks_452 (by decide) ?_
    refine sx_goto (pc := 453) (tgt := 457) dX12_stacks_453 (by decide) ?_
    refine sx_wk sx_s0 ?_
    exact tB_X12_stacks_457 hG hP  h
def B_X12_stacks_531 (N : Nat)  (l2 : Int32) (s1 : Int32) (s2 : Int64) (V : sv_V) : Option sv_V := (F_X12_move s1 s2 V).bind (fun V32 => sx_let (sv_I V32 146 69 l2) (fun V34 => sx_let (sv_I V34 146 70 l2) (fun V35 => some V35)))
set_option maxRecDepth 20000 in
theorem tB_X12_stacks_531 {g : sx_G} (hG : sx_Go g) {P : Option Value → sv_V → Prop} {Vr : sv_V} (hP : P none Vr) {N : Nat}   {l2 : Int32} {s1 : Int32} {s2 : Int64} {V : sv_V} (h : B_X12_stacks_531 N  l2 s1 s2 V = some Vr) : sv_N g qX12_stacks 5 531 [(0, .ref 146), (2, .int l2)] [.long s2, .int s1, .ref 146] V P := by
  unfold B_X12_stacks_531 at h
  obtain ⟨V32, g33, h⟩ := sx_bnd h
  refine sv_cV (pc := 531) (y := qX12_move) (o := none) (as := [.int s1, .long s2]) (V1 := V32) hG dX12_stacks_531 l_X12_630 y0X12_move yvX12_move rfl (Nat.le_of_ble_eq_true rfl) lay_146 kr_12 (by decide) (Nat.le_of_ble_eq_true rfl) rfl rfl rfl (t_X12_move hG ⟨rfl, rfl⟩ g33) ?_
  refine sx_aload_n (pc := 534) dX12_stacks_534 sx_m0 ?_
  refine sx_iload_n (pc := 535) dX12_stacks_535 sx_m1 ?_
  obtain ⟨V34, hV34⟩ : ∃ z : sv_V, z = sv_I V32 146 69 l2 := ⟨_, rfl⟩
  have h := sx_letE hV34 h
  refine sv_putI (pc := 536) hG dX12_stacks_536 f_12_451 lay_146 rfl hV34 ?_
  refine sx_aload_n (pc := 539) dX12_stacks_539 sx_m0 ?_
  refine sx_iload_n (pc := 540) dX12_stacks_540 sx_m1 ?_
  obtain ⟨V35, hV35⟩ : ∃ z : sv_V, z = sv_I V34 146 70 l2 := ⟨_, rfl⟩
  have h := sx_letE hV35 h
  refine sv_putI (pc := 541) hG dX12_stacks_541 f_12_454 lay_146 rfl hV35 ?_
  exact sv_vret (pc := 544) dX12_stacks_544 rfl h hP
def B_X12_stacks_471 (N : Nat)  (l1 : Int32) (V : sv_V) : Option sv_V := (F_X12_has (1 : Int32) V).bind (fun (x38, V36) => if x38 = 0 then (some V36) else ((F_X12_pop  V36).bind (fun (x42, V40) => (F_X12_pointOf (V40.1 146 72) x42 V40).bind (fun (x45, V43) => if (V43.1 146 59) = 0 then ((F_X12_longOf x45 V43).bind (fun (x49, V47) => if l1 = (47 : Int32) then ((F_X12_rounded x49.toInt64 V47).bind (fun (x53, V51) => B_X12_stacks_531 N  x42 x45 (x53 - x49.toInt64) V51)) else (B_X12_stacks_531 N  x42 x45 (0 : Int64) V47))) else (some V43)))))
set_option maxRecDepth 20000 in
theorem tB_X12_stacks_471 {g : sx_G} (hG : sx_Go g) {P : Option Value → sv_V → Prop} {Vr : sv_V} (hP : P none Vr) {N : Nat}   {l1 : Int32} {V : sv_V} (h : B_X12_stacks_471 N  l1 V = some Vr) : sv_N g qX12_stacks 5 471 [(0, .ref 146), (1, .int l1)] [] V P := by
  unfold B_X12_stacks_471 at h
  refine sx_aload_n (pc := 471) dX12_stacks_471 sx_m0 ?_
  refine sx_iconst (pc := 472) (v := 1) dX12_stacks_472 (by decide) ?_
  obtain ⟨⟨x38, V36⟩, g37, h⟩ := sx_bnd h
  refine sv_cV (pc := 473) (y := qX12_has) (o := (some (.int x38))) (as := [.int (1 : Int32)]) (V1 := V36) hG dX12_stacks_473 l_X12_576 y0X12_has yvX12_has rfl (Nat.le_of_ble_eq_true rfl) lay_146 kr_12 (by decide) (Nat.le_of_ble_eq_true rfl) rfl rfl rfl (t_X12_has hG ⟨rfl, rfl⟩ g37) ?_
  refine sx_if_eq (pc := 476) (tgt := 544) dX12_stacks_476 (by decide) (fun c39 => ?_) (fun c39 => ?_)
  · have h := sx_pos c39 h
    exact sv_vret (pc := 544) dX12_stacks_544 rfl h hP
  · have h := sx_neg c39 h
    refine sx_aload_n (pc := 479) dX12_stacks_479 sx_m0 ?_
    obtain ⟨⟨x42, V40⟩, g41, h⟩ := sx_bnd h
    refine sv_cV (pc := 480) (y := qX12_pop) (o := (some (.int x42))) (as := []) (V1 := V40) hG dX12_stacks_480 l_X12_579 y0X12_pop yvX12_pop rfl (Nat.le_of_ble_eq_true rfl) lay_146 kr_12 (by decide) (Nat.le_of_ble_eq_true rfl) rfl rfl rfl (t_X12_pop hG ⟨rfl, rfl⟩ g41) ?_
    refine sx_istore_n (pc := 483) (lo' := [(2, .int x42), (0, .ref 146), (1, .int l1)]) dX12_stacks_483 (by decide) rfl ?_
    refine sx_aload_n (pc := 484) dX12_stacks_484 sx_m1 ?_
    refine sx_aload_n (pc := 485) dX12_stacks_485 sx_m1 ?_
    refine sv_getI (pc := 486) hG dX12_stacks_486 f_12_460 lay_146 rfl ?_
    refine sx_iload_n (pc := 489) dX12_stacks_489 sx_m0 ?_
    obtain ⟨⟨x45, V43⟩, g44, h⟩ := sx_bnd h
    refine sv_cV (pc := 490) (y := qX12_pointOf) (o := (some (.int x45))) (as := [.int (V40.1 146 72), .int x42]) (V1 := V43) hG dX12_stacks_490 l_X12_582 y0X12_pointOf yvX12_pointOf rfl (Nat.le_of_ble_eq_true rfl) lay_146 kr_12 (by decide) (Nat.le_of_ble_eq_true rfl) rfl rfl rfl (t_X12_pointOf hG ⟨rfl, rfl⟩ g44) ?_
    refine sx_istore_n (pc := 493) (lo' := [(3, .int x45), (2, .int x42), (0, .ref 146), (1, .int l1)]) dX12_stacks_493 (by decide) rfl ?_
    refine sx_aload_n (pc := 494) dX12_stacks_494 sx_m2 ?_
    refine sv_getI (pc := 495) hG dX12_stacks_495 f_12_409 lay_146 rfl ?_
    refine sx_if_ne (pc := 498) (tgt := 544) dX12_stacks_498 (by decide) (fun c46 => ?_) (fun c46 => ?_)
    · have h := sx_neg c46 h
      exact sv_vret (pc := 544) dX12_stacks_544 rfl h hP
    · have h := sx_pos c46 h
      refine sx_aload_n (pc := 501) dX12_stacks_501 sx_m2 ?_
      refine sx_iload_n (pc := 502) dX12_stacks_502 sx_m0 ?_
      obtain ⟨⟨x49, V47⟩, g48, h⟩ := sx_bnd h
      refine sv_cV (pc := 503) (y := qX12_longOf) (o := (some (.int x49))) (as := [.int x45]) (V1 := V47) hG dX12_stacks_503 l_X12_644 y0X12_longOf yvX12_longOf rfl (Nat.le_of_ble_eq_true rfl) lay_146 kr_12 (by decide) (Nat.le_of_ble_eq_true rfl) rfl rfl rfl (t_X12_longOf hG ⟨rfl, rfl⟩ g48) ?_
      refine sx_istore (pc := 506) (lo' := [(4, .int x49), (3, .int x45), (2, .int x42), (0, .ref 146), (1, .int l1)]) dX12_stacks_506 (by decide) rfl ?_
      refine sx_aload_n (pc := 508) dX12_stacks_508 sx_m3 ?_
      refine sx_iload_n (pc := 509) dX12_stacks_509 sx_m1 ?_
      refine sx_iload_n (pc := 510) dX12_stacks_510 sx_m4 ?_
      refine sx_bipush (pc := 511) (v := 47) dX12_stacks_511 (by decide) ?_
      refine sx_icmp_ne (pc := 513) (tgt := 530) dX12_stacks_513 (by decide) (fun c50 => ?_) (fun c50 => ?_)
      · have h := sx_neg c50 h
        refine sx_lconst (pc := 530) (v := 0) dX12_stacks_530 rfl ?_
        refine sx_wk (sx_s1 sx_m3 (sx_s1 sx_m2 sx_s0)) ?_
        exact tB_X12_stacks_531 hG hP  h
      · have h := sx_pos c50 h
        refine sx_aload_n (pc := 516) dX12_stacks_516 sx_m3 ?_
        refine sx_iload (pc := 517) dX12_stacks_517 sx_m0 ?_
        refine sx_i2l (pc := 519) dX12_stacks_519 ?_
        obtain ⟨⟨x53, V51⟩, g52, h⟩ := sx_bnd h
        refine sv_cV (pc := 520) (y := qX12_rounded) (o := (some (.long x53))) (as := [.long x49.toInt64]) (V1 := V51) hG dX12_stacks_520 l_X12_647 y0X12_rounded yvX12_rounded rfl (Nat.le_of_ble_eq_true rfl) lay_146 kr_12 (by decide) (Nat.le_of_ble_eq_true rfl) rfl rfl rfl (t_X12_rounded hG ⟨rfl, rfl⟩ g52) ?_
        refine sx_iload (pc := 523) dX12_stacks_523 sx_m0 ?_
        refine sx_i2l (pc := 525) dX12_stacks_525 ?_
        refine sx_lsub (pc := 526) dX12_stacks_526 ?_
        refine sx_goto (pc := 527) (tgt := 531) dX12_stacks_527 (by decide) ?_
        refine sx_wk (sx_s1 sx_m3 (sx_s1 sx_m2 sx_s0)) ?_
        exact tB_X12_stacks_531 hG hP  h
def B_X12_stacks_545 (N : Nat)  (l1 : Int32) (V : sv_V) : Option sv_V := (F_X12_unknown l1 V).bind (fun V54 => some V54)
set_option maxRecDepth 20000 in
theorem tB_X12_stacks_545 {g : sx_G} (hG : sx_Go g) {P : Option Value → sv_V → Prop} {Vr : sv_V} (hP : P none Vr) {N : Nat}   {l1 : Int32} {V : sv_V} (h : B_X12_stacks_545 N  l1 V = some Vr) : sv_N g qX12_stacks 5 545 [(0, .ref 146), (1, .int l1)] [] V P := by
  unfold B_X12_stacks_545 at h
  refine sx_aload_n (pc := 545) dX12_stacks_545 sx_m0 ?_
  refine sx_iload_n (pc := 546) dX12_stacks_546 sx_m1 ?_
  obtain ⟨V54, g55, h⟩ := sx_bnd h
  refine sv_cV (pc := 547) (y := qX12_unknown) (o := none) (as := [.int l1]) (V1 := V54) hG dX12_stacks_547 l_X12_650 y0X12_unknown yvX12_unknown rfl (Nat.le_of_ble_eq_true rfl) lay_146 kr_12 (by decide) (Nat.le_of_ble_eq_true rfl) rfl rfl rfl (t_X12_unknown hG ⟨rfl, rfl⟩ g55) ?_
  exact sv_vret (pc := 550) dX12_stacks_550 rfl h hP
def F_X12_stacks (N : Nat) (l1 : Int32) (V : sv_V) : Option sv_V := if l1 = 32 then ((F_X12_has (1 : Int32) V).bind (fun (x59, V57) => if x59 = 0 then (some V57) else (if sx_in ((V57.1 146 56) - (1 : Int32)) 256 = true then (F_X12_push ((V57.1 173 ((V57.1 146 56) - (1 : Int32)).toNatClampNeg).toInt64) V57).bind (fun V62 => some V62) else none))) else (if l1 = 33 then ((F_X12_has (1 : Int32) V).bind (fun (x67, V65) => if x67 = 0 then (sx_let (sv_I V65 146 56 ((V.1 146 56) - (0 : Int32))) (fun V69 => some V69)) else (sx_let (sv_I V65 146 56 ((V.1 146 56) - (1 : Int32))) (fun V70 => some V70)))) else (if l1 = 34 then (sx_let (sv_I V 146 56 (0 : Int32)) (fun V72 => some V72)) else (if l1 = 35 then ((F_X12_has (2 : Int32) V).bind (fun (x76, V74) => if x76 = 0 then (some V74) else (if sx_in ((V74.1 146 56) - (1 : Int32)) 256 = true then sx_let (V74.1 173 ((V74.1 146 56) - (1 : Int32)).toNatClampNeg) (fun x79 => if sx_in ((V74.1 146 56) - (2 : Int32)) 256 = true then if sx_in ((V74.1 146 56) - (1 : Int32)) 256 = true then sx_let (sv_I V74 173 ((V74.1 146 56) - (1 : Int32)).toNatClampNeg (V74.1 173 ((V74.1 146 56) - (2 : Int32)).toNatClampNeg)) (fun V82 => if sx_in ((V82.1 146 56) - (2 : Int32)) 256 = true then sx_let (sv_I V82 173 ((V82.1 146 56) - (2 : Int32)).toNatClampNeg x79) (fun V84 => some V84) else none) else none else none) else none))) else (if l1 = 36 then ((F_X12_push ((V.1 146 56).toInt64) V).bind (fun V86 => some V86)) else (if l1 = 37 then (B_X12_stacks_199 N  l1 V) else (if l1 = 38 then (B_X12_stacks_199 N  l1 V) else (if l1 = 39 then ((F_X12_has (2 : Int32) V).bind (fun (x93, V91) => if x93 = 0 then (some V91) else ((F_X12_pop  V91).bind (fun (x97, V95) => (F_X12_pointOf (V91.1 146 72) x97 V95).bind (fun (x100, V98) => (F_X12_pop  V98).bind (fun (x103, V101) => (F_X12_pointOf (V98.1 146 73) x103 V101).bind (fun (x106, V104) => if (V104.1 146 59) = 0 then ((F_X12_between x100 x106 V104).bind (fun (x110, V108) => sx_let (x110 / (2 : Int32)) (fun x111 => (F_X12_move x106 x111.toInt64 V108).bind (fun V112 => (F_X12_move x100 (-x111.toInt64) V112).bind (fun V114 => some V114))))) else (some V104)))))))) else (if l1 = 40 then (B_X12_stacks_545 N  l1 V) else (if l1 = 41 then ((F_X12_has (1 : Int32) V).bind (fun (x120, V118) => if x120 = 0 then (some V118) else ((F_X12_pop  V118).bind (fun (x124, V122) => (F_X12_pointOf (V118.1 146 72) x124 V122).bind (fun (x127, V125) => if (V125.1 146 59) = 0 then (if sx_in x127 204 = true then if (V125.1 146 63) = 0 then (B_X12_stacks_427 N  x127 (V125.1 170 x127.toNatClampNeg) (0 : Int32) V125) else (B_X12_stacks_427 N  x127 (V125.1 170 x127.toNatClampNeg) (1 : Int32) V125) else none) else (some V125)))))) else (if l1 = 42 then (B_X12_stacks_445 N  l1 V) else (if l1 = 43 then (B_X12_stacks_445 N  l1 V) else (if l1 = 44 then ((F_X12_defineFunction N  V).bind (fun V134 => some V134)) else (if l1 = 45 then ((F_X12_endFunction  V).bind (fun V137 => some V137)) else (if l1 = 46 then (B_X12_stacks_471 N  l1 V) else (if l1 = 47 then (B_X12_stacks_471 N  l1 V) else (B_X12_stacks_545 N  l1 V))))))))))))))))
set_option maxRecDepth 20000 in
theorem t_X12_stacks {g : sx_G} (hG : sx_Go g) {P : Option Value → sv_V → Prop} {Vr : sv_V} (hP : P none Vr) {N : Nat} {l1 : Int32} {V : sv_V} (h : F_X12_stacks N l1 V = some Vr) : sv_N g qX12_stacks 5 0 [(0, .ref 146), (1, .int l1)] [] V P := by
  unfold F_X12_stacks at h
  refine sx_iload_n (pc := 0) dX12_stacks_0 sx_m1 ?_
  by_cases c56 : l1 = 32
  · have h := sx_pos c56 h
    refine sx_tabI (pc := 1) (off := 79) (tgt := 80) dX12_stacks_1 (by rw [c56]; decide) (by rw [c56]; decide) (by rw [c56]; rfl) (by decide) ?_
    refine sx_aload_n (pc := 80) dX12_stacks_80 sx_m0 ?_
    refine sx_iconst (pc := 81) (v := 1) dX12_stacks_81 (by decide) ?_
    obtain ⟨⟨x59, V57⟩, g58, h⟩ := sx_bnd h
    refine sv_cV (pc := 82) (y := qX12_has) (o := (some (.int x59))) (as := [.int (1 : Int32)]) (V1 := V57) hG dX12_stacks_82 l_X12_576 y0X12_has yvX12_has rfl (Nat.le_of_ble_eq_true rfl) lay_146 kr_12 (by decide) (Nat.le_of_ble_eq_true rfl) rfl rfl rfl (t_X12_has hG ⟨rfl, rfl⟩ g58) ?_
    refine sx_if_eq (pc := 85) (tgt := 104) dX12_stacks_85 (by decide) (fun c60 => ?_) (fun c60 => ?_)
    · have h := sx_pos c60 h
      exact sv_vret (pc := 104) dX12_stacks_104 rfl h hP
    · have h := sx_neg c60 h
      refine sx_aload_n (pc := 88) dX12_stacks_88 sx_m0 ?_
      refine sx_aload_n (pc := 89) dX12_stacks_89 sx_m0 ?_
      refine sv_getA (pc := 90) hG dX12_stacks_90 f_12_91 lay_146 rfl cr_146_55 ?_
      refine sx_aload_n (pc := 93) dX12_stacks_93 sx_m0 ?_
      refine sv_getI (pc := 94) hG dX12_stacks_94 f_12_418 lay_146 rfl ?_
      refine sx_iconst (pc := 97) (v := 1) dX12_stacks_97 (by decide) ?_
      refine sx_isub (pc := 98) dX12_stacks_98 ?_
      obtain ⟨g61, h⟩ := sx_grd h
      refine sv_iald (pc := 99) hG dX12_stacks_99 lay_173 g61 ?_
      refine sx_i2l (pc := 100) dX12_stacks_100 ?_
      obtain ⟨V62, g63, h⟩ := sx_bnd h
      refine sv_cV (pc := 101) (y := qX12_push) (o := none) (as := [.long ((V57.1 173 ((V57.1 146 56) - (1 : Int32)).toNatClampNeg).toInt64)]) (V1 := V62) hG dX12_stacks_101 l_X12_564 y0X12_push yvX12_push rfl (Nat.le_of_ble_eq_true rfl) lay_146 kr_12 (by decide) (Nat.le_of_ble_eq_true rfl) rfl rfl rfl (t_X12_push hG ⟨rfl, rfl⟩ g63) ?_
      exact sv_vret (pc := 104) dX12_stacks_104 rfl h hP
  have h := sx_neg c56 h
  by_cases c64 : l1 = 33
  · have h := sx_pos c64 h
    refine sx_tabI (pc := 1) (off := 104) (tgt := 105) dX12_stacks_1 (by rw [c64]; decide) (by rw [c64]; decide) (by rw [c64]; rfl) (by decide) ?_
    refine sx_aload_n (pc := 105) dX12_stacks_105 sx_m0 ?_
    refine sx_dup (pc := 106) dX12_stacks_106 rfl ?_
    refine sv_getI (pc := 107) hG dX12_stacks_107 f_12_418 lay_146 rfl ?_
    refine sx_aload_n (pc := 110) dX12_stacks_110 sx_m0 ?_
    refine sx_iconst (pc := 111) (v := 1) dX12_stacks_111 (by decide) ?_
    obtain ⟨⟨x67, V65⟩, g66, h⟩ := sx_bnd h
    refine sv_cV (pc := 112) (y := qX12_has) (o := (some (.int x67))) (as := [.int (1 : Int32)]) (V1 := V65) hG dX12_stacks_112 l_X12_576 y0X12_has yvX12_has rfl (Nat.le_of_ble_eq_true rfl) lay_146 kr_12 (by decide) (Nat.le_of_ble_eq_true rfl) rfl rfl rfl (t_X12_has hG ⟨rfl, rfl⟩ g66) ?_
    refine sx_if_eq (pc := 115) (tgt := 122) dX12_stacks_115 (by decide) (fun c68 => ?_) (fun c68 => ?_)
    · have h := sx_pos c68 h
      refine sx_iconst (pc := 122) (v := 0) dX12_stacks_122 (by decide) ?_
      refine sx_isub (pc := 123) dX12_stacks_123 ?_
      obtain ⟨V69, hV69⟩ : ∃ z : sv_V, z = sv_I V65 146 56 ((V.1 146 56) - (0 : Int32)) := ⟨_, rfl⟩
      have h := sx_letE hV69 h
      refine sv_putI (pc := 124) hG dX12_stacks_124 f_12_418 lay_146 rfl hV69 ?_
      exact sv_vret (pc := 127) dX12_stacks_127 rfl h hP
    · have h := sx_neg c68 h
      refine sx_iconst (pc := 118) (v := 1) dX12_stacks_118 (by decide) ?_
      refine sx_goto (pc := 119) (tgt := 123) dX12_stacks_119 (by decide) ?_
      refine sx_isub (pc := 123) dX12_stacks_123 ?_
      obtain ⟨V70, hV70⟩ : ∃ z : sv_V, z = sv_I V65 146 56 ((V.1 146 56) - (1 : Int32)) := ⟨_, rfl⟩
      have h := sx_letE hV70 h
      refine sv_putI (pc := 124) hG dX12_stacks_124 f_12_418 lay_146 rfl hV70 ?_
      exact sv_vret (pc := 127) dX12_stacks_127 rfl h hP
  have h := sx_neg c64 h
  by_cases c71 : l1 = 34
  · have h := sx_pos c71 h
    refine sx_tabI (pc := 1) (off := 127) (tgt := 128) dX12_stacks_1 (by rw [c71]; decide) (by rw [c71]; decide) (by rw [c71]; rfl) (by decide) ?_
    refine sx_aload_n (pc := 128) dX12_stacks_128 sx_m0 ?_
    refine sx_iconst (pc := 129) (v := 0) dX12_stacks_129 (by decide) ?_
    obtain ⟨V72, hV72⟩ : ∃ z : sv_V, z = sv_I V 146 56 (0 : Int32) := ⟨_, rfl⟩
    have h := sx_letE hV72 h
    refine sv_putI (pc := 130) hG dX12_stacks_130 f_12_418 lay_146 rfl hV72 ?_
    exact sv_vret (pc := 133) dX12_stacks_133 rfl h hP
  have h := sx_neg c71 h
  by_cases c73 : l1 = 35
  · have h := sx_pos c73 h
    refine sx_tabI (pc := 1) (off := 133) (tgt := 134) dX12_stacks_1 (by rw [c73]; decide) (by rw [c73]; decide) (by rw [c73]; rfl) (by decide) ?_
    refine sx_aload_n (pc := 134) dX12_stacks_134 sx_m0 ?_
    refine sx_iconst (pc := 135) (v := 2) dX12_stacks_135 (by decide) ?_
    obtain ⟨⟨x76, V74⟩, g75, h⟩ := sx_bnd h
    refine sv_cV (pc := 136) (y := qX12_has) (o := (some (.int x76))) (as := [.int (2 : Int32)]) (V1 := V74) hG dX12_stacks_136 l_X12_576 y0X12_has yvX12_has rfl (Nat.le_of_ble_eq_true rfl) lay_146 kr_12 (by decide) (Nat.le_of_ble_eq_true rfl) rfl rfl rfl (t_X12_has hG ⟨rfl, rfl⟩ g75) ?_
    refine sx_if_eq (pc := 139) (tgt := 188) dX12_stacks_139 (by decide) (fun c77 => ?_) (fun c77 => ?_)
    · have h := sx_pos c77 h
      exact sv_vret (pc := 188) dX12_stacks_188 rfl h hP
    · have h := sx_neg c77 h
      refine sx_aload_n (pc := 142) dX12_stacks_142 sx_m0 ?_
      refine sv_getA (pc := 143) hG dX12_stacks_143 f_12_91 lay_146 rfl cr_146_55 ?_
      refine sx_aload_n (pc := 146) dX12_stacks_146 sx_m0 ?_
      refine sv_getI (pc := 147) hG dX12_stacks_147 f_12_418 lay_146 rfl ?_
      refine sx_iconst (pc := 150) (v := 1) dX12_stacks_150 (by decide) ?_
      refine sx_isub (pc := 151) dX12_stacks_151 ?_
      obtain ⟨g78, h⟩ := sx_grd h
      refine sv_iald (pc := 152) hG dX12_stacks_152 lay_173 g78 ?_
      refine sv_tI (fun x79 hx79 => ?_)
      have h := sx_letE hx79 h
      refine sx_istore_n (pc := 153) (lo' := [(2, .int x79), (0, .ref 146), (1, .int l1)]) dX12_stacks_153 (by decide) rfl ?_
      refine sx_aload_n (pc := 154) dX12_stacks_154 sx_m1 ?_
      refine sv_getA (pc := 155) hG dX12_stacks_155 f_12_91 lay_146 rfl cr_146_55 ?_
      refine sx_aload_n (pc := 158) dX12_stacks_158 sx_m1 ?_
      refine sv_getI (pc := 159) hG dX12_stacks_159 f_12_418 lay_146 rfl ?_
      refine sx_iconst (pc := 162) (v := 1) dX12_stacks_162 (by decide) ?_
      refine sx_isub (pc := 163) dX12_stacks_163 ?_
      refine sx_aload_n (pc := 164) dX12_stacks_164 sx_m1 ?_
      refine sv_getA (pc := 165) hG dX12_stacks_165 f_12_91 lay_146 rfl cr_146_55 ?_
      refine sx_aload_n (pc := 168) dX12_stacks_168 sx_m1 ?_
      refine sv_getI (pc := 169) hG dX12_stacks_169 f_12_418 lay_146 rfl ?_
      refine sx_iconst (pc := 172) (v := 2) dX12_stacks_172 (by decide) ?_
      refine sx_isub (pc := 173) dX12_stacks_173 ?_
      obtain ⟨g80, h⟩ := sx_grd h
      refine sv_iald (pc := 174) hG dX12_stacks_174 lay_173 g80 ?_
      obtain ⟨g81, h⟩ := sx_grd h
      obtain ⟨V82, hV82⟩ : ∃ z : sv_V, z = sv_I V74 173 ((V74.1 146 56) - (1 : Int32)).toNatClampNeg (V74.1 173 ((V74.1 146 56) - (2 : Int32)).toNatClampNeg) := ⟨_, rfl⟩
      have h := sx_letE hV82 h
      refine sv_iast (pc := 175) hG dX12_stacks_175 lay_173 g81 hV82 ?_
      refine sx_aload_n (pc := 176) dX12_stacks_176 sx_m1 ?_
      refine sv_getA (pc := 177) hG dX12_stacks_177 f_12_91 lay_146 rfl cr_146_55 ?_
      refine sx_aload_n (pc := 180) dX12_stacks_180 sx_m1 ?_
      refine sv_getI (pc := 181) hG dX12_stacks_181 f_12_418 lay_146 rfl ?_
      refine sx_iconst (pc := 184) (v := 2) dX12_stacks_184 (by decide) ?_
      refine sx_isub (pc := 185) dX12_stacks_185 ?_
      refine sx_iload_n (pc := 186) dX12_stacks_186 sx_m0 ?_
      obtain ⟨g83, h⟩ := sx_grd h
      obtain ⟨V84, hV84⟩ : ∃ z : sv_V, z = sv_I V82 173 ((V82.1 146 56) - (2 : Int32)).toNatClampNeg x79 := ⟨_, rfl⟩
      have h := sx_letE hV84 h
      refine sv_iast (pc := 187) hG dX12_stacks_187 lay_173 g83 hV84 ?_
      exact sv_vret (pc := 188) dX12_stacks_188 rfl h hP
  have h := sx_neg c73 h
  by_cases c85 : l1 = 36
  · have h := sx_pos c85 h
    refine sx_tabI (pc := 1) (off := 188) (tgt := 189) dX12_stacks_1 (by rw [c85]; decide) (by rw [c85]; decide) (by rw [c85]; rfl) (by decide) ?_
    refine sx_aload_n (pc := 189) dX12_stacks_189 sx_m0 ?_
    refine sx_aload_n (pc := 190) dX12_stacks_190 sx_m0 ?_
    refine sv_getI (pc := 191) hG dX12_stacks_191 f_12_418 lay_146 rfl ?_
    refine sx_i2l (pc := 194) dX12_stacks_194 ?_
    obtain ⟨V86, g87, h⟩ := sx_bnd h
    refine sv_cV (pc := 195) (y := qX12_push) (o := none) (as := [.long ((V.1 146 56).toInt64)]) (V1 := V86) hG dX12_stacks_195 l_X12_564 y0X12_push yvX12_push rfl (Nat.le_of_ble_eq_true rfl) lay_146 kr_12 (by decide) (Nat.le_of_ble_eq_true rfl) rfl rfl rfl (t_X12_push hG ⟨rfl, rfl⟩ g87) ?_
    exact sv_vret (pc := 198) dX12_stacks_198 rfl h hP
  have h := sx_neg c85 h
  by_cases c88 : l1 = 37
  · have h := sx_pos c88 h
    refine sx_tabI (pc := 1) (off := 198) (tgt := 199) dX12_stacks_1 (by rw [c88]; decide) (by rw [c88]; decide) (by rw [c88]; rfl) (by decide) ?_
    refine sx_wk (sx_s1 sx_m0 (sx_s1 sx_m1 sx_s0)) ?_
    exact tB_X12_stacks_199 hG hP  h
  have h := sx_neg c88 h
  by_cases c89 : l1 = 38
  · have h := sx_pos c89 h
    refine sx_tabI (pc := 1) (off := 198) (tgt := 199) dX12_stacks_1 (by rw [c89]; decide) (by rw [c89]; decide) (by rw [c89]; rfl) (by decide) ?_
    refine sx_wk (sx_s1 sx_m0 (sx_s1 sx_m1 sx_s0)) ?_
    exact tB_X12_stacks_199 hG hP  h
  have h := sx_neg c89 h
  by_cases c90 : l1 = 39
  · have h := sx_pos c90 h
    refine sx_tabI (pc := 1) (off := 306) (tgt := 307) dX12_stacks_1 (by rw [c90]; decide) (by rw [c90]; decide) (by rw [c90]; rfl) (by decide) ?_
    refine sx_aload_n (pc := 307) dX12_stacks_307 sx_m0 ?_
    refine sx_iconst (pc := 308) (v := 2) dX12_stacks_308 (by decide) ?_
    obtain ⟨⟨x93, V91⟩, g92, h⟩ := sx_bnd h
    refine sv_cV (pc := 309) (y := qX12_has) (o := (some (.int x93))) (as := [.int (2 : Int32)]) (V1 := V91) hG dX12_stacks_309 l_X12_576 y0X12_has yvX12_has rfl (Nat.le_of_ble_eq_true rfl) lay_146 kr_12 (by decide) (Nat.le_of_ble_eq_true rfl) rfl rfl rfl (t_X12_has hG ⟨rfl, rfl⟩ g92) ?_
    refine sx_if_eq (pc := 312) (tgt := 375) dX12_stacks_312 (by decide) (fun c94 => ?_) (fun c94 => ?_)
    · have h := sx_pos c94 h
      exact sv_vret (pc := 375) dX12_stacks_375 rfl h hP
    · have h := sx_neg c94 h
      refine sx_aload_n (pc := 315) dX12_stacks_315 sx_m0 ?_
      refine sx_aload_n (pc := 316) dX12_stacks_316 sx_m0 ?_
      refine sv_getI (pc := 317) hG dX12_stacks_317 f_12_460 lay_146 rfl ?_
      refine sx_aload_n (pc := 320) dX12_stacks_320 sx_m0 ?_
      obtain ⟨⟨x97, V95⟩, g96, h⟩ := sx_bnd h
      refine sv_cV (pc := 321) (y := qX12_pop) (o := (some (.int x97))) (as := []) (V1 := V95) hG dX12_stacks_321 l_X12_579 y0X12_pop yvX12_pop rfl (Nat.le_of_ble_eq_true rfl) lay_146 kr_12 (by decide) (Nat.le_of_ble_eq_true rfl) rfl rfl rfl (t_X12_pop hG ⟨rfl, rfl⟩ g96) ?_
      obtain ⟨⟨x100, V98⟩, g99, h⟩ := sx_bnd h
      refine sv_cV (pc := 324) (y := qX12_pointOf) (o := (some (.int x100))) (as := [.int (V91.1 146 72), .int x97]) (V1 := V98) hG dX12_stacks_324 l_X12_582 y0X12_pointOf yvX12_pointOf rfl (Nat.le_of_ble_eq_true rfl) lay_146 kr_12 (by decide) (Nat.le_of_ble_eq_true rfl) rfl rfl rfl (t_X12_pointOf hG ⟨rfl, rfl⟩ g99) ?_
      refine sx_istore_n (pc := 327) (lo' := [(2, .int x100), (0, .ref 146), (1, .int l1)]) dX12_stacks_327 (by decide) rfl ?_
      refine sx_aload_n (pc := 328) dX12_stacks_328 sx_m1 ?_
      refine sx_aload_n (pc := 329) dX12_stacks_329 sx_m1 ?_
      refine sv_getI (pc := 330) hG dX12_stacks_330 f_12_463 lay_146 rfl ?_
      refine sx_aload_n (pc := 333) dX12_stacks_333 sx_m1 ?_
      obtain ⟨⟨x103, V101⟩, g102, h⟩ := sx_bnd h
      refine sv_cV (pc := 334) (y := qX12_pop) (o := (some (.int x103))) (as := []) (V1 := V101) hG dX12_stacks_334 l_X12_579 y0X12_pop yvX12_pop rfl (Nat.le_of_ble_eq_true rfl) lay_146 kr_12 (by decide) (Nat.le_of_ble_eq_true rfl) rfl rfl rfl (t_X12_pop hG ⟨rfl, rfl⟩ g102) ?_
      obtain ⟨⟨x106, V104⟩, g105, h⟩ := sx_bnd h
      refine sv_cV (pc := 337) (y := qX12_pointOf) (o := (some (.int x106))) (as := [.int (V98.1 146 73), .int x103]) (V1 := V104) hG dX12_stacks_337 l_X12_582 y0X12_pointOf yvX12_pointOf rfl (Nat.le_of_ble_eq_true rfl) lay_146 kr_12 (by decide) (Nat.le_of_ble_eq_true rfl) rfl rfl rfl (t_X12_pointOf hG ⟨rfl, rfl⟩ g105) ?_
      refine sx_istore_n (pc := 340) (lo' := [(3, .int x106), (2, .int x100), (0, .ref 146), (1, .int l1)]) dX12_stacks_340 (by decide) rfl ?_
      refine sx_aload_n (pc := 341) dX12_stacks_341 sx_m2 ?_
      refine sv_getI (pc := 342) hG dX12_stacks_342 f_12_409 lay_146 rfl ?_
      refine sx_if_ne (pc := 345) (tgt := 375) dX12_stacks_345 (by decide) (fun c107 => ?_) (fun c107 => ?_)
      · have h := sx_neg c107 h
        exact sv_vret (pc := 375) dX12_stacks_375 rfl h hP
      · have h := sx_pos c107 h
        refine sx_aload_n (pc := 348) dX12_stacks_348 sx_m2 ?_
        refine sx_iload_n (pc := 349) dX12_stacks_349 sx_m1 ?_
        refine sx_iload_n (pc := 350) dX12_stacks_350 sx_m0 ?_
        obtain ⟨⟨x110, V108⟩, g109, h⟩ := sx_bnd h
        refine sv_cV (pc := 351) (y := qX12_between) (o := (some (.int x110))) (as := [.int x100, .int x106]) (V1 := V108) hG dX12_stacks_351 l_X12_627 y0X12_between yvX12_between rfl (Nat.le_of_ble_eq_true rfl) lay_146 kr_12 (by decide) (Nat.le_of_ble_eq_true rfl) rfl rfl rfl (t_X12_between hG ⟨rfl, rfl⟩ g109) ?_
        refine sx_iconst (pc := 354) (v := 2) dX12_stacks_354 (by decide) ?_
        refine sx_idiv (pc := 355) dX12_stacks_355 (by decide) ?_
        refine sv_tI (fun x111 hx111 => ?_)
        have h := sx_letE hx111 h
        refine sx_istore (pc := 356) (lo' := [(4, .int x111), (3, .int x106), (2, .int x100), (0, .ref 146), (1, .int l1)]) dX12_stacks_356 (by decide) rfl ?_
        refine sx_aload_n (pc := 358) dX12_stacks_358 sx_m3 ?_
        refine sx_iload_n (pc := 359) dX12_stacks_359 sx_m1 ?_
        refine sx_iload (pc := 360) dX12_stacks_360 sx_m0 ?_
        refine sx_i2l (pc := 362) dX12_stacks_362 ?_
        obtain ⟨V112, g113, h⟩ := sx_bnd h
        refine sv_cV (pc := 363) (y := qX12_move) (o := none) (as := [.int x106, .long x111.toInt64]) (V1 := V112) hG dX12_stacks_363 l_X12_630 y0X12_move yvX12_move rfl (Nat.le_of_ble_eq_true rfl) lay_146 kr_12 (by decide) (Nat.le_of_ble_eq_true rfl) rfl rfl rfl (t_X12_move hG ⟨rfl, rfl⟩ g113) ?_
        refine sx_aload_n (pc := 366) dX12_stacks_366 sx_m3 ?_
        refine sx_iload_n (pc := 367) dX12_stacks_367 sx_m2 ?_
        refine sx_iload (pc := 368) dX12_stacks_368 sx_m0 ?_
        refine sx_i2l (pc := 370) dX12_stacks_370 ?_
        refine sx_lneg (pc := 371) dX12_stacks_371 ?_
        obtain ⟨V114, g115, h⟩ := sx_bnd h
        refine sv_cV (pc := 372) (y := qX12_move) (o := none) (as := [.int x100, .long (-x111.toInt64)]) (V1 := V114) hG dX12_stacks_372 l_X12_630 y0X12_move yvX12_move rfl (Nat.le_of_ble_eq_true rfl) lay_146 kr_12 (by decide) (Nat.le_of_ble_eq_true rfl) rfl rfl rfl (t_X12_move hG ⟨rfl, rfl⟩ g115) ?_
        exact sv_vret (pc := 375) dX12_stacks_375 rfl h hP
  have h := sx_neg c90 h
  by_cases c116 : l1 = 40
  · have h := sx_pos c116 h
    refine sx_tabI (pc := 1) (off := 544) (tgt := 545) dX12_stacks_1 (by rw [c116]; decide) (by rw [c116]; decide) (by rw [c116]; rfl) (by decide) ?_
    refine sx_wk (sx_s1 sx_m0 (sx_s1 sx_m1 sx_s0)) ?_
    exact tB_X12_stacks_545 hG hP  h
  have h := sx_neg c116 h
  by_cases c117 : l1 = 41
  · have h := sx_pos c117 h
    refine sx_tabI (pc := 1) (off := 375) (tgt := 376) dX12_stacks_1 (by rw [c117]; decide) (by rw [c117]; decide) (by rw [c117]; rfl) (by decide) ?_
    refine sx_aload_n (pc := 376) dX12_stacks_376 sx_m0 ?_
    refine sx_iconst (pc := 377) (v := 1) dX12_stacks_377 (by decide) ?_
    obtain ⟨⟨x120, V118⟩, g119, h⟩ := sx_bnd h
    refine sv_cV (pc := 378) (y := qX12_has) (o := (some (.int x120))) (as := [.int (1 : Int32)]) (V1 := V118) hG dX12_stacks_378 l_X12_576 y0X12_has yvX12_has rfl (Nat.le_of_ble_eq_true rfl) lay_146 kr_12 (by decide) (Nat.le_of_ble_eq_true rfl) rfl rfl rfl (t_X12_has hG ⟨rfl, rfl⟩ g119) ?_
    refine sx_if_eq (pc := 381) (tgt := 444) dX12_stacks_381 (by decide) (fun c121 => ?_) (fun c121 => ?_)
    · have h := sx_pos c121 h
      exact sv_vret (pc := 444) dX12_stacks_444 rfl h hP
    · have h := sx_neg c121 h
      refine sx_aload_n (pc := 384) dX12_stacks_384 sx_m0 ?_
      refine sx_aload_n (pc := 385) dX12_stacks_385 sx_m0 ?_
      refine sv_getI (pc := 386) hG dX12_stacks_386 f_12_460 lay_146 rfl ?_
      refine sx_aload_n (pc := 389) dX12_stacks_389 sx_m0 ?_
      obtain ⟨⟨x124, V122⟩, g123, h⟩ := sx_bnd h
      refine sv_cV (pc := 390) (y := qX12_pop) (o := (some (.int x124))) (as := []) (V1 := V122) hG dX12_stacks_390 l_X12_579 y0X12_pop yvX12_pop rfl (Nat.le_of_ble_eq_true rfl) lay_146 kr_12 (by decide) (Nat.le_of_ble_eq_true rfl) rfl rfl rfl (t_X12_pop hG ⟨rfl, rfl⟩ g123) ?_
      obtain ⟨⟨x127, V125⟩, g126, h⟩ := sx_bnd h
      refine sv_cV (pc := 393) (y := qX12_pointOf) (o := (some (.int x127))) (as := [.int (V118.1 146 72), .int x124]) (V1 := V125) hG dX12_stacks_393 l_X12_582 y0X12_pointOf yvX12_pointOf rfl (Nat.le_of_ble_eq_true rfl) lay_146 kr_12 (by decide) (Nat.le_of_ble_eq_true rfl) rfl rfl rfl (t_X12_pointOf hG ⟨rfl, rfl⟩ g126) ?_
      refine sx_istore_n (pc := 396) (lo' := [(2, .int x127), (0, .ref 146), (1, .int l1)]) dX12_stacks_396 (by decide) rfl ?_
      refine sx_aload_n (pc := 397) dX12_stacks_397 sx_m1 ?_
      refine sv_getI (pc := 398) hG dX12_stacks_398 f_12_409 lay_146 rfl ?_
      refine sx_if_ne (pc := 401) (tgt := 444) dX12_stacks_401 (by decide) (fun c128 => ?_) (fun c128 => ?_)
      · have h := sx_neg c128 h
        exact sv_vret (pc := 444) dX12_stacks_444 rfl h hP
      · have h := sx_pos c128 h
        refine sx_aload_n (pc := 404) dX12_stacks_404 sx_m1 ?_
        refine sv_getA (pc := 405) hG dX12_stacks_405 f_12_82 lay_146 rfl cr_146_50 ?_
        refine sx_iload_n (pc := 408) dX12_stacks_408 sx_m0 ?_
        refine sx_aload_n (pc := 409) dX12_stacks_409 sx_m1 ?_
        refine sv_getA (pc := 410) hG dX12_stacks_410 f_12_82 lay_146 rfl cr_146_50 ?_
        refine sx_iload_n (pc := 413) dX12_stacks_413 sx_m0 ?_
        obtain ⟨g129, h⟩ := sx_grd h
        refine sv_iald (pc := 414) hG dX12_stacks_414 lay_170 g129 ?_
        refine sx_aload_n (pc := 415) dX12_stacks_415 sx_m1 ?_
        refine sv_getI (pc := 416) hG dX12_stacks_416 f_12_433 lay_146 rfl ?_
        refine sx_if_eq (pc := 419) (tgt := 426) dX12_stacks_419 (by decide) (fun c130 => ?_) (fun c130 => ?_)
        · have h := sx_pos c130 h
          refine sx_iconst (pc := 426) (v := 0) dX12_stacks_426 (by decide) ?_
          refine sx_wk (sx_s1 sx_m1 sx_s0) ?_
          exact tB_X12_stacks_427 hG hP  h
        · have h := sx_neg c130 h
          refine sx_iconst (pc := 422) (v := 1) dX12_stacks_422 (by decide) ?_
          refine sx_goto (pc := 423) (tgt := 427) dX12_stacks_423 (by decide) ?_
          refine sx_wk (sx_s1 sx_m1 sx_s0) ?_
          exact tB_X12_stacks_427 hG hP  h
  have h := sx_neg c117 h
  by_cases c131 : l1 = 42
  · have h := sx_pos c131 h
    refine sx_tabI (pc := 1) (off := 444) (tgt := 445) dX12_stacks_1 (by rw [c131]; decide) (by rw [c131]; decide) (by rw [c131]; rfl) (by decide) ?_
    refine sx_wk (sx_s1 sx_m0 (sx_s1 sx_m1 sx_s0)) ?_
    exact tB_X12_stacks_445 hG hP  h
  have h := sx_neg c131 h
  by_cases c132 : l1 = 43
  · have h := sx_pos c132 h
    refine sx_tabI (pc := 1) (off := 444) (tgt := 445) dX12_stacks_1 (by rw [c132]; decide) (by rw [c132]; decide) (by rw [c132]; rfl) (by decide) ?_
    refine sx_wk (sx_s1 sx_m0 (sx_s1 sx_m1 sx_s0)) ?_
    exact tB_X12_stacks_445 hG hP  h
  have h := sx_neg c132 h
  by_cases c133 : l1 = 44
  · have h := sx_pos c133 h
    refine sx_tabI (pc := 1) (off := 460) (tgt := 461) dX12_stacks_1 (by rw [c133]; decide) (by rw [c133]; decide) (by rw [c133]; rfl) (by decide) ?_
    refine sx_aload_n (pc := 461) dX12_stacks_461 sx_m0 ?_
    obtain ⟨V134, g135, h⟩ := sx_bnd h
    refine sv_cV (pc := 462) (y := qX12_defineFunction) (o := none) (as := []) (V1 := V134) hG dX12_stacks_462 l_X12_638 y0X12_defineFunction yvX12_defineFunction rfl (Nat.le_of_ble_eq_true rfl) lay_146 kr_12 (by decide) (Nat.le_of_ble_eq_true rfl) rfl rfl rfl (t_X12_defineFunction hG ⟨rfl, rfl⟩ g135) ?_
    exact sv_vret (pc := 465) dX12_stacks_465 rfl h hP
  have h := sx_neg c133 h
  by_cases c136 : l1 = 45
  · have h := sx_pos c136 h
    refine sx_tabI (pc := 1) (off := 465) (tgt := 466) dX12_stacks_1 (by rw [c136]; decide) (by rw [c136]; decide) (by rw [c136]; rfl) (by decide) ?_
    refine sx_aload_n (pc := 466) dX12_stacks_466 sx_m0 ?_
    obtain ⟨V137, g138, h⟩ := sx_bnd h
    refine sv_cV (pc := 467) (y := qX12_endFunction) (o := none) (as := []) (V1 := V137) hG dX12_stacks_467 l_X12_641 y0X12_endFunction yvX12_endFunction rfl (Nat.le_of_ble_eq_true rfl) lay_146 kr_12 (by decide) (Nat.le_of_ble_eq_true rfl) rfl rfl rfl (t_X12_endFunction hG ⟨rfl, rfl⟩ g138) ?_
    exact sv_vret (pc := 470) dX12_stacks_470 rfl h hP
  have h := sx_neg c136 h
  by_cases c139 : l1 = 46
  · have h := sx_pos c139 h
    refine sx_tabI (pc := 1) (off := 470) (tgt := 471) dX12_stacks_1 (by rw [c139]; decide) (by rw [c139]; decide) (by rw [c139]; rfl) (by decide) ?_
    refine sx_wk (sx_s1 sx_m0 (sx_s1 sx_m1 sx_s0)) ?_
    exact tB_X12_stacks_471 hG hP  h
  have h := sx_neg c139 h
  by_cases c140 : l1 = 47
  · have h := sx_pos c140 h
    refine sx_tabI (pc := 1) (off := 470) (tgt := 471) dX12_stacks_1 (by rw [c140]; decide) (by rw [c140]; decide) (by rw [c140]; rfl) (by decide) ?_
    refine sx_wk (sx_s1 sx_m0 (sx_s1 sx_m1 sx_s0)) ?_
    exact tB_X12_stacks_471 hG hP  h
  have h := sx_neg c140 h
  refine sx_tabO (pc := 1) (tgt := 545) dX12_stacks_1 (by have ec56 := lv_neT (a := 32) c56 rfl; have ec64 := lv_neT (a := 33) c64 rfl; have ec71 := lv_neT (a := 34) c71 rfl; have ec73 := lv_neT (a := 35) c73 rfl; have ec85 := lv_neT (a := 36) c85 rfl; have ec88 := lv_neT (a := 37) c88 rfl; have ec89 := lv_neT (a := 38) c89 rfl; have ec90 := lv_neT (a := 39) c90 rfl; have ec116 := lv_neT (a := 40) c116 rfl; have ec117 := lv_neT (a := 41) c117 rfl; have ec131 := lv_neT (a := 42) c131 rfl; have ec132 := lv_neT (a := 43) c132 rfl; have ec133 := lv_neT (a := 44) c133 rfl; have ec136 := lv_neT (a := 45) c136 rfl; have ec139 := lv_neT (a := 46) c139 rfl; have ec140 := lv_neT (a := 47) c140 rfl; omega) (by decide) ?_
  refine sx_wk (sx_s1 sx_m0 (sx_s1 sx_m1 sx_s0)) ?_
  exact tB_X12_stacks_545 hG hP  h
def ncX12_setCvt : Nat := 7681552338618413597155651618418915159375384692216041432927094146603686210525671885926591674145517760356188219294217070823117030698
theorem kcX12_setCvt : CK cX12_setCvt ncX12_setCvt 54 := ⟨by decide +kernel, by decide +kernel⟩
theorem dX12_setCvt_0 : decode cX12_setCvt 0 = .ok (.aload_n 0, 1) := dl_o42 kcX12_setCvt (by decide +kernel)
theorem dX12_setCvt_1 : decode cX12_setCvt 1 = .ok (.iconst 2, 1) := dl_o5 kcX12_setCvt (by decide +kernel)
theorem dX12_setCvt_2 : decode cX12_setCvt 2 = .ok (.invokevirtual 576, 3) := dl_o182 kcX12_setCvt (by decide +kernel)
theorem dX12_setCvt_5 : decode cX12_setCvt 5 = .ok (.ifCond .ne 4, 3) := dl_o154 kcX12_setCvt 4 (by decide +kernel) (by decide +kernel)
theorem dX12_setCvt_8 : decode cX12_setCvt 8 = .ok (.return_, 1) := dl_o177 kcX12_setCvt (by decide +kernel)
theorem dX12_setCvt_9 : decode cX12_setCvt 9 = .ok (.aload_n 0, 1) := dl_o42 kcX12_setCvt (by decide +kernel)
theorem dX12_setCvt_10 : decode cX12_setCvt 10 = .ok (.invokevirtual 579, 3) := dl_o182 kcX12_setCvt (by decide +kernel)
theorem dX12_setCvt_13 : decode cX12_setCvt 13 = .ok (.istore_n 2, 1) := dl_o61 kcX12_setCvt (by decide +kernel)
theorem dX12_setCvt_14 : decode cX12_setCvt 14 = .ok (.aload_n 0, 1) := dl_o42 kcX12_setCvt (by decide +kernel)
theorem dX12_setCvt_15 : decode cX12_setCvt 15 = .ok (.invokevirtual 579, 3) := dl_o182 kcX12_setCvt (by decide +kernel)
theorem dX12_setCvt_18 : decode cX12_setCvt 18 = .ok (.istore_n 3, 1) := dl_o62 kcX12_setCvt (by decide +kernel)
theorem dX12_setCvt_19 : decode cX12_setCvt 19 = .ok (.aload_n 0, 1) := dl_o42 kcX12_setCvt (by decide +kernel)
theorem dX12_setCvt_20 : decode cX12_setCvt 20 = .ok (.iload_n 3, 1) := dl_o29 kcX12_setCvt (by decide +kernel)
theorem dX12_setCvt_21 : decode cX12_setCvt 21 = .ok (.invokevirtual 677, 3) := dl_o182 kcX12_setCvt (by decide +kernel)
theorem dX12_setCvt_24 : decode cX12_setCvt 24 = .ok (.istore 4, 2) := dl_o54 kcX12_setCvt (by decide +kernel)
theorem dX12_setCvt_26 : decode cX12_setCvt 26 = .ok (.aload_n 0, 1) := dl_o42 kcX12_setCvt (by decide +kernel)
theorem dX12_setCvt_27 : decode cX12_setCvt 27 = .ok (.getfield 409, 3) := dl_o180 kcX12_setCvt (by decide +kernel)
theorem dX12_setCvt_30 : decode cX12_setCvt 30 = .ok (.ifCond .ne 23, 3) := dl_o154 kcX12_setCvt 23 (by decide +kernel) (by decide +kernel)
theorem dX12_setCvt_33 : decode cX12_setCvt 33 = .ok (.aload_n 0, 1) := dl_o42 kcX12_setCvt (by decide +kernel)
theorem dX12_setCvt_34 : decode cX12_setCvt 34 = .ok (.getfield 64, 3) := dl_o180 kcX12_setCvt (by decide +kernel)
theorem dX12_setCvt_37 : decode cX12_setCvt 37 = .ok (.iload_n 3, 1) := dl_o29 kcX12_setCvt (by decide +kernel)
theorem dX12_setCvt_38 : decode cX12_setCvt 38 = .ok (.iload_n 1, 1) := dl_o27 kcX12_setCvt (by decide +kernel)
theorem dX12_setCvt_39 : decode cX12_setCvt 39 = .ok (.ifCond .eq 12, 3) := dl_o153 kcX12_setCvt 12 (by decide +kernel) (by decide +kernel)
theorem dX12_setCvt_42 : decode cX12_setCvt 42 = .ok (.aload_n 0, 1) := dl_o42 kcX12_setCvt (by decide +kernel)
theorem dX12_setCvt_43 : decode cX12_setCvt 43 = .ok (.iload_n 2, 1) := dl_o28 kcX12_setCvt (by decide +kernel)
theorem dX12_setCvt_44 : decode cX12_setCvt 44 = .ok (.i2l, 1) := dl_o133 kcX12_setCvt (by decide +kernel)
theorem dX12_setCvt_45 : decode cX12_setCvt 45 = .ok (.invokevirtual 611, 3) := dl_o182 kcX12_setCvt (by decide +kernel)
theorem dX12_setCvt_48 : decode cX12_setCvt 48 = .ok (.goto 4, 3) := dl_o167 kcX12_setCvt 4 (by decide +kernel) (by decide +kernel)
theorem dX12_setCvt_51 : decode cX12_setCvt 51 = .ok (.iload_n 2, 1) := dl_o28 kcX12_setCvt (by decide +kernel)
theorem dX12_setCvt_52 : decode cX12_setCvt 52 = .ok (.iastore, 1) := dl_o79 kcX12_setCvt (by decide +kernel)
theorem dX12_setCvt_53 : decode cX12_setCvt 53 = .ok (.return_, 1) := dl_o177 kcX12_setCvt (by decide +kernel)
def F_X12_setCvt (l1 : Int32) (V : sv_V) : Option sv_V := (F_X12_has (2 : Int32) V).bind (fun (x3, V1) => if x3 = 0 then (some V1) else ((F_X12_pop  V1).bind (fun (x7, V5) => (F_X12_pop  V5).bind (fun (x10, V8) => (F_X12_cvtOf x10 V8).bind (fun (x13, V11) => if (V11.1 146 59) = 0 then (if l1 = 0 then (if sx_in x10 256 = true then sx_let (sv_I V11 164 x10.toNatClampNeg x7) (fun V17 => some V17) else none) else ((F_X12_scaled x7.toInt64 V11).bind (fun (x20, V18) => if sx_in x10 256 = true then sx_let (sv_I V18 164 x10.toNatClampNeg x20) (fun V22 => some V22) else none))) else (some V11))))))
set_option maxRecDepth 20000 in
theorem t_X12_setCvt {g : sx_G} (hG : sx_Go g) {P : Option Value → sv_V → Prop} {Vr : sv_V} (hP : P none Vr) {l1 : Int32} {V : sv_V} (h : F_X12_setCvt l1 V = some Vr) : sv_N g qX12_setCvt 4 0 [(0, .ref 146), (1, .int l1)] [] V P := by
  unfold F_X12_setCvt at h
  refine sx_aload_n (pc := 0) dX12_setCvt_0 sx_m0 ?_
  refine sx_iconst (pc := 1) (v := 2) dX12_setCvt_1 (by decide) ?_
  obtain ⟨⟨x3, V1⟩, g2, h⟩ := sx_bnd h
  refine sv_cV (pc := 2) (y := qX12_has) (o := (some (.int x3))) (as := [.int (2 : Int32)]) (V1 := V1) hG dX12_setCvt_2 l_X12_576 y0X12_has yvX12_has rfl (Nat.le_of_ble_eq_true rfl) lay_146 kr_12 (by decide) (Nat.le_of_ble_eq_true rfl) rfl rfl rfl (t_X12_has hG ⟨rfl, rfl⟩ g2) ?_
  refine sx_if_ne (pc := 5) (tgt := 9) dX12_setCvt_5 (by decide) (fun c4 => ?_) (fun c4 => ?_)
  · have h := sx_neg c4 h
    refine sx_aload_n (pc := 9) dX12_setCvt_9 sx_m0 ?_
    obtain ⟨⟨x7, V5⟩, g6, h⟩ := sx_bnd h
    refine sv_cV (pc := 10) (y := qX12_pop) (o := (some (.int x7))) (as := []) (V1 := V5) hG dX12_setCvt_10 l_X12_579 y0X12_pop yvX12_pop rfl (Nat.le_of_ble_eq_true rfl) lay_146 kr_12 (by decide) (Nat.le_of_ble_eq_true rfl) rfl rfl rfl (t_X12_pop hG ⟨rfl, rfl⟩ g6) ?_
    refine sx_istore_n (pc := 13) (lo' := [(2, .int x7), (0, .ref 146), (1, .int l1)]) dX12_setCvt_13 (by decide) rfl ?_
    refine sx_aload_n (pc := 14) dX12_setCvt_14 sx_m1 ?_
    obtain ⟨⟨x10, V8⟩, g9, h⟩ := sx_bnd h
    refine sv_cV (pc := 15) (y := qX12_pop) (o := (some (.int x10))) (as := []) (V1 := V8) hG dX12_setCvt_15 l_X12_579 y0X12_pop yvX12_pop rfl (Nat.le_of_ble_eq_true rfl) lay_146 kr_12 (by decide) (Nat.le_of_ble_eq_true rfl) rfl rfl rfl (t_X12_pop hG ⟨rfl, rfl⟩ g9) ?_
    refine sx_istore_n (pc := 18) (lo' := [(3, .int x10), (2, .int x7), (0, .ref 146), (1, .int l1)]) dX12_setCvt_18 (by decide) rfl ?_
    refine sx_aload_n (pc := 19) dX12_setCvt_19 sx_m2 ?_
    refine sx_iload_n (pc := 20) dX12_setCvt_20 sx_m0 ?_
    obtain ⟨⟨x13, V11⟩, g12, h⟩ := sx_bnd h
    refine sv_cV (pc := 21) (y := qX12_cvtOf) (o := (some (.int x13))) (as := [.int x10]) (V1 := V11) hG dX12_setCvt_21 l_X12_677 y0X12_cvtOf yvX12_cvtOf rfl (Nat.le_of_ble_eq_true rfl) lay_146 kr_12 (by decide) (Nat.le_of_ble_eq_true rfl) rfl rfl rfl (t_X12_cvtOf hG ⟨rfl, rfl⟩ g12) ?_
    refine sx_istore (pc := 24) (lo' := [(4, .int x13), (3, .int x10), (2, .int x7), (0, .ref 146), (1, .int l1)]) dX12_setCvt_24 (by decide) rfl ?_
    refine sx_aload_n (pc := 26) dX12_setCvt_26 sx_m3 ?_
    refine sv_getI (pc := 27) hG dX12_setCvt_27 f_12_409 lay_146 rfl ?_
    refine sx_if_ne (pc := 30) (tgt := 53) dX12_setCvt_30 (by decide) (fun c14 => ?_) (fun c14 => ?_)
    · have h := sx_neg c14 h
      exact sv_vret (pc := 53) dX12_setCvt_53 rfl h hP
    · have h := sx_pos c14 h
      refine sx_aload_n (pc := 33) dX12_setCvt_33 sx_m3 ?_
      refine sv_getA (pc := 34) hG dX12_setCvt_34 f_12_64 lay_146 rfl cr_146_44 ?_
      refine sx_iload_n (pc := 37) dX12_setCvt_37 sx_m1 ?_
      refine sx_iload_n (pc := 38) dX12_setCvt_38 sx_m4 ?_
      refine sx_if_eq (pc := 39) (tgt := 51) dX12_setCvt_39 (by decide) (fun c15 => ?_) (fun c15 => ?_)
      · have h := sx_pos c15 h
        refine sx_iload_n (pc := 51) dX12_setCvt_51 sx_m2 ?_
        obtain ⟨g16, h⟩ := sx_grd h
        obtain ⟨V17, hV17⟩ : ∃ z : sv_V, z = sv_I V11 164 x10.toNatClampNeg x7 := ⟨_, rfl⟩
        have h := sx_letE hV17 h
        refine sv_iast (pc := 52) hG dX12_setCvt_52 lay_164 g16 hV17 ?_
        exact sv_vret (pc := 53) dX12_setCvt_53 rfl h hP
      · have h := sx_neg c15 h
        refine sx_aload_n (pc := 42) dX12_setCvt_42 sx_m3 ?_
        refine sx_iload_n (pc := 43) dX12_setCvt_43 sx_m2 ?_
        refine sx_i2l (pc := 44) dX12_setCvt_44 ?_
        obtain ⟨⟨x20, V18⟩, g19, h⟩ := sx_bnd h
        refine sv_cV (pc := 45) (y := qX12_scaled) (o := (some (.int x20))) (as := [.long x7.toInt64]) (V1 := V18) hG dX12_setCvt_45 l_X12_611 y0X12_scaled yvX12_scaled rfl (Nat.le_of_ble_eq_true rfl) lay_146 kr_12 (by decide) (Nat.le_of_ble_eq_true rfl) rfl rfl rfl (t_X12_scaled hG ⟨rfl, rfl⟩ g19) ?_
        refine sx_goto (pc := 48) (tgt := 52) dX12_setCvt_48 (by decide) ?_
        obtain ⟨g21, h⟩ := sx_grd h
        obtain ⟨V22, hV22⟩ : ∃ z : sv_V, z = sv_I V18 164 x10.toNatClampNeg x20 := ⟨_, rfl⟩
        have h := sx_letE hV22 h
        refine sv_iast (pc := 52) hG dX12_setCvt_52 lay_164 g21 hV22 ?_
        exact sv_vret (pc := 53) dX12_setCvt_53 rfl h hP
  · have h := sx_pos c4 h
    exact sv_vret (pc := 8) dX12_setCvt_8 rfl h hP
end
