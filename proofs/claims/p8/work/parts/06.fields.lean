/-! what the tables say: classes, fields, methods, links, constants -/
theorem sx_inw {wl : List Cond} (ps : List Nat) (h : wl = ps.filterMap (fun i => tables_1[i]?)) (hg : wl.all goodWord = true) : ∀ w ∈ wl, w ∈ lw_good := by
  intro w hw
  have h1 := List.all_eq_true.mp hg w hw
  rw [h] at hw
  obtain ⟨i, -, hi⟩ := List.mem_filterMap.mp hw
  exact lw_in (List.mem_of_getElem? hi) h1
set_option maxRecDepth 100000 in
theorem iw_0 : ∀ w ∈ u_ws RX0 TX0 10, w ∈ lw_good := sx_inw [465, 467, 469, 471, 473, 475, 477, 479, 481, 483] (by decide +kernel) (by decide +kernel)
theorem kc_0 : sx_Kc 0 (RX0, TX0, 10) := ⟨rfl, tyX0_ok, nmX0, iw_0, by decide +kernel⟩
theorem kr_0 : ∀ r, vwCl[0]? = some r → r.1 = RX0 := fun r h => by cases h; rfl
set_option maxRecDepth 100000 in
theorem iw_1 : ∀ w ∈ u_ws RX1 TX1 3, w ∈ lw_good := sx_inw [608, 610, 612] (by decide +kernel) (by decide +kernel)
theorem kc_1 : sx_Kc 1 (RX1, TX1, 3) := ⟨rfl, tyX1_ok, nmX1, iw_1, by decide +kernel⟩
theorem kr_1 : ∀ r, vwCl[1]? = some r → r.1 = RX1 := fun r h => by cases h; rfl
set_option maxRecDepth 100000 in
theorem iw_2 : ∀ w ∈ u_ws RX2 TX2 17, w ∈ lw_good := sx_inw [90, 92, 94, 96, 98, 100, 102, 104, 106, 108, 110, 112, 114, 116, 118, 120, 122] (by decide +kernel) (by decide +kernel)
theorem kc_2 : sx_Kc 2 (RX2, TX2, 17) := ⟨rfl, tyX2_ok, nmX2, iw_2, by decide +kernel⟩
theorem kr_2 : ∀ r, vwCl[2]? = some r → r.1 = RX2 := fun r h => by cases h; rfl
set_option maxRecDepth 100000 in
theorem iw_3 : ∀ w ∈ u_ws RX3 TX3 15, w ∈ lw_good := sx_inw [235, 237, 239, 241, 243, 245, 247, 249, 251, 253, 255, 257, 259, 261, 263] (by decide +kernel) (by decide +kernel)
theorem kc_3 : sx_Kc 3 (RX3, TX3, 15) := ⟨rfl, tyX3_ok, nmX3, iw_3, by decide +kernel⟩
theorem kr_3 : ∀ r, vwCl[3]? = some r → r.1 = RX3 := fun r h => by cases h; rfl
set_option maxRecDepth 100000 in
theorem iw_4 : ∀ w ∈ u_ws RX4 TX4 2, w ∈ lw_good := sx_inw [274, 276] (by decide +kernel) (by decide +kernel)
theorem kc_4 : sx_Kc 4 (RX4, TX4, 2) := ⟨rfl, tyX4_ok, nmX4, iw_4, by decide +kernel⟩
theorem kr_4 : ∀ r, vwCl[4]? = some r → r.1 = RX4 := fun r h => by cases h; rfl
set_option maxRecDepth 100000 in
theorem iw_5 : ∀ w ∈ u_ws RX5 TX5 17, w ∈ lw_good := sx_inw [512, 514, 516, 518, 520, 522, 524, 526, 528, 530, 532, 534, 536, 538, 540, 542, 544] (by decide +kernel) (by decide +kernel)
theorem kc_5 : sx_Kc 5 (RX5, TX5, 17) := ⟨rfl, tyX5_ok, nmX5, iw_5, by decide +kernel⟩
theorem kr_5 : ∀ r, vwCl[5]? = some r → r.1 = RX5 := fun r h => by cases h; rfl
set_option maxRecDepth 100000 in
theorem iw_6 : ∀ w ∈ u_ws RX6 TX6 13, w ∈ lw_good := sx_inw [569, 571, 573, 575, 577, 579, 581, 583, 585, 587, 589, 591, 593] (by decide +kernel) (by decide +kernel)
theorem kc_6 : sx_Kc 6 (RX6, TX6, 13) := ⟨rfl, tyX6_ok, nmX6, iw_6, by decide +kernel⟩
theorem kr_6 : ∀ r, vwCl[6]? = some r → r.1 = RX6 := fun r h => by cases h; rfl
set_option maxRecDepth 100000 in
theorem iw_7 : ∀ w ∈ u_ws RX7 TX7 6, w ∈ lw_good := sx_inw [311, 313, 315, 317, 319, 321] (by decide +kernel) (by decide +kernel)
theorem kc_7 : sx_Kc 7 (RX7, TX7, 6) := ⟨rfl, tyX7_ok, nmX7, iw_7, by decide +kernel⟩
theorem kr_7 : ∀ r, vwCl[7]? = some r → r.1 = RX7 := fun r h => by cases h; rfl
set_option maxRecDepth 100000 in
theorem iw_8 : ∀ w ∈ u_ws RX8 TX8 12, w ∈ lw_good := sx_inw [187, 189, 191, 193, 195, 197, 199, 201, 203, 205, 207, 209] (by decide +kernel) (by decide +kernel)
theorem kc_8 : sx_Kc 8 (RX8, TX8, 12) := ⟨rfl, tyX8_ok, nmX8, iw_8, by decide +kernel⟩
theorem kr_8 : ∀ r, vwCl[8]? = some r → r.1 = RX8 := fun r h => by cases h; rfl
set_option maxRecDepth 100000 in
theorem iw_9 : ∀ w ∈ u_ws RX9 TX9 14, w ∈ lw_good := sx_inw [410, 412, 414, 416, 418, 420, 422, 424, 426, 428, 430, 432, 434, 436] (by decide +kernel) (by decide +kernel)
theorem kc_9 : sx_Kc 9 (RX9, TX9, 14) := ⟨rfl, tyX9_ok, nmX9, iw_9, by decide +kernel⟩
theorem kr_9 : ∀ r, vwCl[9]? = some r → r.1 = RX9 := fun r h => by cases h; rfl
set_option maxRecDepth 100000 in
theorem iw_10 : ∀ w ∈ u_ws RX10 TX10 13, w ∈ lw_good := sx_inw [345, 347, 349, 351, 353, 355, 357, 359, 361, 363, 365, 367, 369] (by decide +kernel) (by decide +kernel)
theorem kc_10 : sx_Kc 10 (RX10, TX10, 13) := ⟨rfl, tyX10_ok, nmX10, iw_10, by decide +kernel⟩
theorem kr_10 : ∀ r, vwCl[10]? = some r → r.1 = RX10 := fun r h => by cases h; rfl
set_option maxRecDepth 100000 in
theorem iw_11 : ∀ w ∈ u_ws RX11 TX11 8, w ∈ lw_good := sx_inw [623, 625, 627, 629, 631, 633, 635, 637] (by decide +kernel) (by decide +kernel)
theorem kc_11 : sx_Kc 11 (RX11, TX11, 8) := ⟨rfl, tyX11_ok, nmX11, iw_11, by decide +kernel⟩
theorem kr_11 : ∀ r, vwCl[11]? = some r → r.1 = RX11 := fun r h => by cases h; rfl
/-- every second word from the first on, n of them -/
def sx_ev : Nat → List Cond → List Cond
  | n + 1, a :: _ :: r => a :: sx_ev n r
  | n + 1, [a] => [a]
  | _, _ => []
theorem sx_ev_mem {w : Cond} : ∀ (n : Nat) (l : List Cond), w ∈ sx_ev n l → w ∈ l := by
  intro n
  induction n with
  | zero => intro l h; cases l with
    | nil => exact h
    | cons a r => cases h
  | succ n ih =>
    intro l h
    match l with
    | [] => exact h
    | [a] => exact h
    | a :: b :: r =>
      rcases List.mem_cons.mp h with h | h
      · rw [h]; exact List.mem_cons_self
      · exact List.mem_cons_of_mem _ (List.mem_cons_of_mem _ (ih r h))
theorem sx_inw2 {wl : List Cond} (n k : Nat) (h : wl = sx_ev n (tables_1.drop k)) (hg : wl.all goodWord = true) : ∀ w ∈ wl, w ∈ lw_good := by
  intro w hw
  have h1 := List.all_eq_true.mp hg w hw
  rw [h] at hw
  exact lw_in (List.mem_of_mem_drop (sx_ev_mem _ _ hw)) h1
set_option maxRecDepth 100000 in
set_option maxRecDepth 100000 in
theorem iw_12 : ∀ w ∈ u_ws RX12 TX12 146, w ∈ lw_good := sx_inw2 146 1747 (by decide +kernel) (by decide +kernel)
theorem kc_12 : sx_Kc 12 (RX12, TX12, 146) := ⟨rfl, tyX12_ok, nmX12, iw_12, by decide +kernel⟩
theorem kr_12 : ∀ r, vwCl[12]? = some r → r.1 = RX12 := fun r h => by cases h; rfl
theorem f_2_9 : sx_F RX2 9 2 0 true := ⟨_, kc_2, by decide, (lw_in (tk_1 (List.mem_of_getElem? (i := 37) rfl)) rfl), rfl⟩
theorem f_2_42 : sx_F RX2 42 2 1 false := ⟨_, kc_2, by decide, (lw_in (tk_1 (List.mem_of_getElem? (i := 38) rfl)) rfl), rfl⟩
theorem f_4_70 : sx_F RX4 70 2 1 false := ⟨_, kc_2, by decide, (lw_in (tk_1 (List.mem_of_getElem? (i := 39) rfl)) rfl), rfl⟩
theorem f_11_98 : sx_F RX11 98 2 1 false := ⟨_, kc_2, by decide, (lw_in (tk_1 (List.mem_of_getElem? (i := 40) rfl)) rfl), rfl⟩
theorem f_2_46 : sx_F RX2 46 2 2 false := ⟨_, kc_2, by decide, (lw_in (tk_1 (List.mem_of_getElem? (i := 41) rfl)) rfl), rfl⟩
theorem f_11_67 : sx_F RX11 67 2 2 false := ⟨_, kc_2, by decide, (lw_in (tk_1 (List.mem_of_getElem? (i := 42) rfl)) rfl), rfl⟩
theorem f_2_19 : sx_F RX2 19 2 3 true := ⟨_, kc_2, by decide, (lw_in (tk_1 (List.mem_of_getElem? (i := 43) rfl)) rfl), rfl⟩
theorem f_7_48 : sx_F RX7 48 2 3 true := ⟨_, kc_2, by decide, (lw_in (tk_1 (List.mem_of_getElem? (i := 44) rfl)) rfl), rfl⟩
theorem f_6_80 : sx_F RX6 80 2 3 true := ⟨_, kc_2, by decide, (lw_in (tk_1 (List.mem_of_getElem? (i := 45) rfl)) rfl), rfl⟩
theorem f_4_115 : sx_F RX4 115 2 3 true := ⟨_, kc_2, by decide, (lw_in (tk_1 (List.mem_of_getElem? (i := 46) rfl)) rfl), rfl⟩
theorem f_2_22 : sx_F RX2 22 2 4 true := ⟨_, kc_2, by decide, (lw_in (tk_1 (List.mem_of_getElem? (i := 47) rfl)) rfl), rfl⟩
theorem f_7_33 : sx_F RX7 33 2 4 true := ⟨_, kc_2, by decide, (lw_in (tk_1 (List.mem_of_getElem? (i := 48) rfl)) rfl), rfl⟩
theorem f_6_85 : sx_F RX6 85 2 4 true := ⟨_, kc_2, by decide, (lw_in (tk_1 (List.mem_of_getElem? (i := 49) rfl)) rfl), rfl⟩
theorem f_11_92 : sx_F RX11 92 2 4 true := ⟨_, kc_2, by decide, (lw_in (tk_1 (List.mem_of_getElem? (i := 50) rfl)) rfl), rfl⟩
theorem f_4_118 : sx_F RX4 118 2 4 true := ⟨_, kc_2, by decide, (lw_in (tk_1 (List.mem_of_getElem? (i := 51) rfl)) rfl), rfl⟩
theorem f_4_80 : sx_F RX4 80 2 5 false := ⟨_, kc_2, by decide, (lw_in (tk_1 (List.mem_of_getElem? (i := 52) rfl)) rfl), rfl⟩
theorem f_11_83 : sx_F RX11 83 2 5 false := ⟨_, kc_2, by decide, (lw_in (tk_1 (List.mem_of_getElem? (i := 53) rfl)) rfl), rfl⟩
theorem f_7_57 : sx_F RX7 57 2 6 false := ⟨_, kc_2, by decide, (lw_in (tk_1 (List.mem_of_getElem? (i := 54) rfl)) rfl), rfl⟩
theorem f_5_70 : sx_F RX5 70 2 6 false := ⟨_, kc_2, by decide, (lw_in (tk_1 (List.mem_of_getElem? (i := 55) rfl)) rfl), rfl⟩
theorem f_11_74 : sx_F RX11 74 2 6 false := ⟨_, kc_2, by decide, (lw_in (tk_1 (List.mem_of_getElem? (i := 56) rfl)) rfl), rfl⟩
theorem f_4_125 : sx_F RX4 125 2 6 false := ⟨_, kc_2, by decide, (lw_in (tk_1 (List.mem_of_getElem? (i := 57) rfl)) rfl), rfl⟩
theorem f_3_31 : sx_F RX3 31 2 7 false := ⟨_, kc_2, by decide, (lw_in (tk_1 (List.mem_of_getElem? (i := 58) rfl)) rfl), rfl⟩
theorem f_11_71 : sx_F RX11 71 2 7 false := ⟨_, kc_2, by decide, (lw_in (tk_1 (List.mem_of_getElem? (i := 59) rfl)) rfl), rfl⟩
theorem f_2_54 : sx_F RX2 54 2 7 false := ⟨_, kc_2, by decide, (lw_in (tk_1 (List.mem_of_getElem? (i := 60) rfl)) rfl), rfl⟩
theorem f_4_138 : sx_F RX4 138 2 7 false := ⟨_, kc_2, by decide, (lw_in (tk_1 (List.mem_of_getElem? (i := 61) rfl)) rfl), rfl⟩
theorem f_11_77 : sx_F RX11 77 2 8 false := ⟨_, kc_2, by decide, (lw_in (tk_1 (List.mem_of_getElem? (i := 62) rfl)) rfl), rfl⟩
theorem f_2_57 : sx_F RX2 57 2 8 false := ⟨_, kc_2, by decide, (lw_in (tk_1 (List.mem_of_getElem? (i := 63) rfl)) rfl), rfl⟩
theorem f_4_153 : sx_F RX4 153 2 8 false := ⟨_, kc_2, by decide, (lw_in (tk_1 (List.mem_of_getElem? (i := 64) rfl)) rfl), rfl⟩
theorem f_11_80 : sx_F RX11 80 2 9 false := ⟨_, kc_2, by decide, (lw_in (tk_1 (List.mem_of_getElem? (i := 65) rfl)) rfl), rfl⟩
theorem f_4_131 : sx_F RX4 131 2 9 false := ⟨_, kc_2, by decide, (lw_in (tk_1 (List.mem_of_getElem? (i := 66) rfl)) rfl), rfl⟩
theorem f_2_28 : sx_F RX2 28 2 10 true := ⟨_, kc_2, by decide, (lw_in (tk_1 (List.mem_of_getElem? (i := 67) rfl)) rfl), rfl⟩
theorem f_7_64 : sx_F RX7 64 2 10 true := ⟨_, kc_2, by decide, (lw_in (tk_1 (List.mem_of_getElem? (i := 68) rfl)) rfl), rfl⟩
theorem f_5_166 : sx_F RX5 166 2 10 true := ⟨_, kc_2, by decide, (lw_in (tk_1 (List.mem_of_getElem? (i := 69) rfl)) rfl), rfl⟩
theorem f_4_150 : sx_F RX4 150 2 10 true := ⟨_, kc_2, by decide, (lw_in (tk_1 (List.mem_of_getElem? (i := 70) rfl)) rfl), rfl⟩
theorem f_3_154 : sx_F RX3 154 2 10 true := ⟨_, kc_2, by decide, (lw_in (tk_1 (List.mem_of_getElem? (i := 71) rfl)) rfl), rfl⟩
theorem f_11_86 : sx_F RX11 86 2 11 false := ⟨_, kc_2, by decide, (lw_in (tk_1 (List.mem_of_getElem? (i := 72) rfl)) rfl), rfl⟩
theorem f_2_72 : sx_F RX2 72 2 11 false := ⟨_, kc_2, by decide, (lw_in (tk_1 (List.mem_of_getElem? (i := 73) rfl)) rfl), rfl⟩
theorem f_4_184 : sx_F RX4 184 2 11 false := ⟨_, kc_2, by decide, (lw_in (tk_1 (List.mem_of_getElem? (i := 74) rfl)) rfl), rfl⟩
theorem f_2_82 : sx_F RX2 82 2 12 false := ⟨_, kc_2, by decide, (lw_in (tk_1 (List.mem_of_getElem? (i := 75) rfl)) rfl), rfl⟩
theorem f_4_181 : sx_F RX4 181 2 12 false := ⟨_, kc_2, by decide, (lw_in (tk_1 (List.mem_of_getElem? (i := 76) rfl)) rfl), rfl⟩
theorem f_2_98 : sx_F RX2 98 2 13 false := ⟨_, kc_2, by decide, (lw_in (tk_1 (List.mem_of_getElem? (i := 77) rfl)) rfl), rfl⟩
theorem f_4_187 : sx_F RX4 187 2 13 false := ⟨_, kc_2, by decide, (lw_in (tk_1 (List.mem_of_getElem? (i := 78) rfl)) rfl), rfl⟩
theorem f_11_95 : sx_F RX11 95 2 14 false := ⟨_, kc_2, by decide, (lw_in (tk_1 (List.mem_of_getElem? (i := 79) rfl)) rfl), rfl⟩
theorem f_2_88 : sx_F RX2 88 2 14 false := ⟨_, kc_2, by decide, (lw_in (tk_1 (List.mem_of_getElem? (i := 80) rfl)) rfl), rfl⟩
theorem f_4_190 : sx_F RX4 190 2 14 false := ⟨_, kc_2, by decide, (lw_in (tk_1 (List.mem_of_getElem? (i := 81) rfl)) rfl), rfl⟩
theorem f_11_89 : sx_F RX11 89 2 15 false := ⟨_, kc_2, by decide, (lw_in (tk_1 (List.mem_of_getElem? (i := 82) rfl)) rfl), rfl⟩
theorem f_2_69 : sx_F RX2 69 2 15 false := ⟨_, kc_2, by decide, (lw_in (tk_1 (List.mem_of_getElem? (i := 83) rfl)) rfl), rfl⟩
theorem f_4_204 : sx_F RX4 204 2 15 false := ⟨_, kc_2, by decide, (lw_in (tk_1 (List.mem_of_getElem? (i := 84) rfl)) rfl), rfl⟩
theorem f_2_33 : sx_F RX2 33 2 16 true := ⟨_, kc_2, by decide, (lw_in (tk_1 (List.mem_of_getElem? (i := 85) rfl)) rfl), rfl⟩
theorem f_3_45 : sx_F RX3 45 2 16 true := ⟨_, kc_2, by decide, (lw_in (tk_1 (List.mem_of_getElem? (i := 86) rfl)) rfl), rfl⟩
theorem f_6_111 : sx_F RX6 111 2 16 true := ⟨_, kc_2, by decide, (lw_in (tk_1 (List.mem_of_getElem? (i := 87) rfl)) rfl), rfl⟩
theorem f_11_126 : sx_F RX11 126 2 16 true := ⟨_, kc_2, by decide, (lw_in (tk_1 (List.mem_of_getElem? (i := 88) rfl)) rfl), rfl⟩
theorem f_4_161 : sx_F RX4 161 2 16 true := ⟨_, kc_2, by decide, (lw_in (tk_1 (List.mem_of_getElem? (i := 89) rfl)) rfl), rfl⟩
theorem f_8_21 : sx_F RX8 21 8 0 true := ⟨_, kc_8, by decide, (lw_in (tk_1 (List.mem_of_getElem? (i := 139) rfl)) rfl), rfl⟩
theorem f_10_66 : sx_F RX10 66 8 0 true := ⟨_, kc_8, by decide, (lw_in (tk_1 (List.mem_of_getElem? (i := 140) rfl)) rfl), rfl⟩
theorem f_6_190 : sx_F RX6 190 8 0 true := ⟨_, kc_8, by decide, (lw_in (tk_1 (List.mem_of_getElem? (i := 141) rfl)) rfl), rfl⟩
theorem f_3_111 : sx_F RX3 111 8 0 true := ⟨_, kc_8, by decide, (lw_in (tk_1 (List.mem_of_getElem? (i := 142) rfl)) rfl), rfl⟩
theorem f_11_155 : sx_F RX11 155 8 0 true := ⟨_, kc_8, by decide, (lw_in (tk_1 (List.mem_of_getElem? (i := 143) rfl)) rfl), rfl⟩
theorem f_5_198 : sx_F RX5 198 8 0 true := ⟨_, kc_8, by decide, (lw_in (tk_1 (List.mem_of_getElem? (i := 144) rfl)) rfl), rfl⟩
theorem f_8_24 : sx_F RX8 24 8 1 true := ⟨_, kc_8, by decide, (lw_in (tk_1 (List.mem_of_getElem? (i := 145) rfl)) rfl), rfl⟩
theorem f_10_88 : sx_F RX10 88 8 1 true := ⟨_, kc_8, by decide, (lw_in (tk_1 (List.mem_of_getElem? (i := 146) rfl)) rfl), rfl⟩
theorem f_6_193 : sx_F RX6 193 8 1 true := ⟨_, kc_8, by decide, (lw_in (tk_1 (List.mem_of_getElem? (i := 147) rfl)) rfl), rfl⟩
theorem f_3_118 : sx_F RX3 118 8 1 true := ⟨_, kc_8, by decide, (lw_in (tk_1 (List.mem_of_getElem? (i := 148) rfl)) rfl), rfl⟩
theorem f_11_158 : sx_F RX11 158 8 1 true := ⟨_, kc_8, by decide, (lw_in (tk_1 (List.mem_of_getElem? (i := 149) rfl)) rfl), rfl⟩
theorem f_5_201 : sx_F RX5 201 8 1 true := ⟨_, kc_8, by decide, (lw_in (tk_1 (List.mem_of_getElem? (i := 150) rfl)) rfl), rfl⟩
theorem f_8_27 : sx_F RX8 27 8 2 true := ⟨_, kc_8, by decide, (lw_in (tk_1 (List.mem_of_getElem? (i := 151) rfl)) rfl), rfl⟩
theorem f_11_219 : sx_F RX11 219 8 2 true := ⟨_, kc_8, by decide, (lw_in (tk_1 (List.mem_of_getElem? (i := 152) rfl)) rfl), rfl⟩
theorem f_5_204 : sx_F RX5 204 8 2 true := ⟨_, kc_8, by decide, (lw_in (tk_1 (List.mem_of_getElem? (i := 153) rfl)) rfl), rfl⟩
theorem f_8_30 : sx_F RX8 30 8 3 true := ⟨_, kc_8, by decide, (lw_in (tk_1 (List.mem_of_getElem? (i := 154) rfl)) rfl), rfl⟩
theorem f_11_222 : sx_F RX11 222 8 3 true := ⟨_, kc_8, by decide, (lw_in (tk_1 (List.mem_of_getElem? (i := 155) rfl)) rfl), rfl⟩
theorem f_5_207 : sx_F RX5 207 8 3 true := ⟨_, kc_8, by decide, (lw_in (tk_1 (List.mem_of_getElem? (i := 156) rfl)) rfl), rfl⟩
theorem f_8_33 : sx_F RX8 33 8 4 true := ⟨_, kc_8, by decide, (lw_in (tk_1 (List.mem_of_getElem? (i := 157) rfl)) rfl), rfl⟩
theorem f_5_220 : sx_F RX5 220 8 4 true := ⟨_, kc_8, by decide, (lw_in (tk_1 (List.mem_of_getElem? (i := 158) rfl)) rfl), rfl⟩
theorem f_8_36 : sx_F RX8 36 8 5 true := ⟨_, kc_8, by decide, (lw_in (tk_1 (List.mem_of_getElem? (i := 159) rfl)) rfl), rfl⟩
theorem f_10_78 : sx_F RX10 78 8 5 true := ⟨_, kc_8, by decide, (lw_in (tk_1 (List.mem_of_getElem? (i := 160) rfl)) rfl), rfl⟩
theorem f_3_108 : sx_F RX3 108 8 5 true := ⟨_, kc_8, by decide, (lw_in (tk_1 (List.mem_of_getElem? (i := 161) rfl)) rfl), rfl⟩
theorem f_6_249 : sx_F RX6 249 8 5 true := ⟨_, kc_8, by decide, (lw_in (tk_1 (List.mem_of_getElem? (i := 162) rfl)) rfl), rfl⟩
theorem f_11_161 : sx_F RX11 161 8 5 true := ⟨_, kc_8, by decide, (lw_in (tk_1 (List.mem_of_getElem? (i := 163) rfl)) rfl), rfl⟩
theorem f_5_477 : sx_F RX5 477 8 5 true := ⟨_, kc_8, by decide, (lw_in (tk_1 (List.mem_of_getElem? (i := 164) rfl)) rfl), rfl⟩
theorem f_8_9 : sx_F RX8 9 8 6 true := ⟨_, kc_8, by decide, (lw_in (tk_1 (List.mem_of_getElem? (i := 165) rfl)) rfl), rfl⟩
theorem f_10_50 : sx_F RX10 50 8 6 true := ⟨_, kc_8, by decide, (lw_in (tk_1 (List.mem_of_getElem? (i := 166) rfl)) rfl), rfl⟩
theorem f_3_93 : sx_F RX3 93 8 6 true := ⟨_, kc_8, by decide, (lw_in (tk_1 (List.mem_of_getElem? (i := 167) rfl)) rfl), rfl⟩
theorem f_6_252 : sx_F RX6 252 8 6 true := ⟨_, kc_8, by decide, (lw_in (tk_1 (List.mem_of_getElem? (i := 168) rfl)) rfl), rfl⟩
theorem f_5_486 : sx_F RX5 486 8 6 true := ⟨_, kc_8, by decide, (lw_in (tk_1 (List.mem_of_getElem? (i := 169) rfl)) rfl), rfl⟩
theorem f_8_15 : sx_F RX8 15 8 7 true := ⟨_, kc_8, by decide, (lw_in (tk_1 (List.mem_of_getElem? (i := 170) rfl)) rfl), rfl⟩
theorem f_6_115 : sx_F RX6 115 8 7 true := ⟨_, kc_8, by decide, (lw_in (tk_1 (List.mem_of_getElem? (i := 171) rfl)) rfl), rfl⟩
theorem f_8_18 : sx_F RX8 18 8 8 true := ⟨_, kc_8, by decide, (lw_in (tk_1 (List.mem_of_getElem? (i := 172) rfl)) rfl), rfl⟩
theorem f_6_181 : sx_F RX6 181 8 8 true := ⟨_, kc_8, by decide, (lw_in (tk_1 (List.mem_of_getElem? (i := 173) rfl)) rfl), rfl⟩
theorem f_8_43 : sx_F RX8 43 8 9 false := ⟨_, kc_8, by decide, (lw_in (tk_1 (List.mem_of_getElem? (i := 174) rfl)) rfl), rfl⟩
theorem f_10_63 : sx_F RX10 63 8 9 false := ⟨_, kc_8, by decide, (lw_in (tk_1 (List.mem_of_getElem? (i := 175) rfl)) rfl), rfl⟩
theorem f_3_60 : sx_F RX3 60 8 9 false := ⟨_, kc_8, by decide, (lw_in (tk_1 (List.mem_of_getElem? (i := 176) rfl)) rfl), rfl⟩
theorem f_6_136 : sx_F RX6 136 8 9 false := ⟨_, kc_8, by decide, (lw_in (tk_1 (List.mem_of_getElem? (i := 177) rfl)) rfl), rfl⟩
theorem f_11_150 : sx_F RX11 150 8 9 false := ⟨_, kc_8, by decide, (lw_in (tk_1 (List.mem_of_getElem? (i := 178) rfl)) rfl), rfl⟩
theorem f_5_474 : sx_F RX5 474 8 9 false := ⟨_, kc_8, by decide, (lw_in (tk_1 (List.mem_of_getElem? (i := 179) rfl)) rfl), rfl⟩
theorem f_10_41 : sx_F RX10 41 8 10 false := ⟨_, kc_8, by decide, (lw_in (tk_1 (List.mem_of_getElem? (i := 180) rfl)) rfl), rfl⟩
theorem f_8_46 : sx_F RX8 46 8 10 false := ⟨_, kc_8, by decide, (lw_in (tk_1 (List.mem_of_getElem? (i := 181) rfl)) rfl), rfl⟩
theorem f_6_167 : sx_F RX6 167 8 10 false := ⟨_, kc_8, by decide, (lw_in (tk_1 (List.mem_of_getElem? (i := 182) rfl)) rfl), rfl⟩
theorem f_3_99 : sx_F RX3 99 8 10 false := ⟨_, kc_8, by decide, (lw_in (tk_1 (List.mem_of_getElem? (i := 183) rfl)) rfl), rfl⟩
theorem f_11_188 : sx_F RX11 188 8 10 false := ⟨_, kc_8, by decide, (lw_in (tk_1 (List.mem_of_getElem? (i := 184) rfl)) rfl), rfl⟩
theorem f_5_480 : sx_F RX5 480 8 10 false := ⟨_, kc_8, by decide, (lw_in (tk_1 (List.mem_of_getElem? (i := 185) rfl)) rfl), rfl⟩
theorem f_8_39 : sx_F RX8 39 8 11 false := ⟨_, kc_8, by decide, (lw_in (tk_1 (List.mem_of_getElem? (i := 186) rfl)) rfl), rfl⟩
theorem f_3_27 : sx_F RX3 27 3 0 true := ⟨_, kc_3, by decide, (lw_in (tk_1 (List.mem_of_getElem? (i := 212) rfl)) rfl), rfl⟩
theorem f_3_14 : sx_F RX3 14 3 1 true := ⟨_, kc_3, by decide, (lw_in (tk_1 (List.mem_of_getElem? (i := 213) rfl)) rfl), rfl⟩
theorem f_3_20 : sx_F RX3 20 3 2 true := ⟨_, kc_3, by decide, (lw_in (tk_1 (List.mem_of_getElem? (i := 214) rfl)) rfl), rfl⟩
theorem f_3_24 : sx_F RX3 24 3 3 true := ⟨_, kc_3, by decide, (lw_in (tk_1 (List.mem_of_getElem? (i := 215) rfl)) rfl), rfl⟩
theorem f_3_63 : sx_F RX3 63 3 4 false := ⟨_, kc_3, by decide, (lw_in (tk_1 (List.mem_of_getElem? (i := 216) rfl)) rfl), rfl⟩
theorem f_3_66 : sx_F RX3 66 3 5 false := ⟨_, kc_3, by decide, (lw_in (tk_1 (List.mem_of_getElem? (i := 217) rfl)) rfl), rfl⟩
theorem f_3_69 : sx_F RX3 69 3 6 false := ⟨_, kc_3, by decide, (lw_in (tk_1 (List.mem_of_getElem? (i := 218) rfl)) rfl), rfl⟩
theorem f_6_209 : sx_F RX6 209 3 7 false := ⟨_, kc_3, by decide, (lw_in (tk_1 (List.mem_of_getElem? (i := 219) rfl)) rfl), rfl⟩
theorem f_3_133 : sx_F RX3 133 3 7 false := ⟨_, kc_3, by decide, (lw_in (tk_1 (List.mem_of_getElem? (i := 220) rfl)) rfl), rfl⟩
theorem f_6_199 : sx_F RX6 199 3 8 false := ⟨_, kc_3, by decide, (lw_in (tk_1 (List.mem_of_getElem? (i := 221) rfl)) rfl), rfl⟩
theorem f_3_130 : sx_F RX3 130 3 8 false := ⟨_, kc_3, by decide, (lw_in (tk_1 (List.mem_of_getElem? (i := 222) rfl)) rfl), rfl⟩
theorem f_6_212 : sx_F RX6 212 3 9 false := ⟨_, kc_3, by decide, (lw_in (tk_1 (List.mem_of_getElem? (i := 223) rfl)) rfl), rfl⟩
theorem f_3_136 : sx_F RX3 136 3 9 false := ⟨_, kc_3, by decide, (lw_in (tk_1 (List.mem_of_getElem? (i := 224) rfl)) rfl), rfl⟩
theorem f_6_218 : sx_F RX6 218 3 10 false := ⟨_, kc_3, by decide, (lw_in (tk_1 (List.mem_of_getElem? (i := 225) rfl)) rfl), rfl⟩
theorem f_3_139 : sx_F RX3 139 3 10 false := ⟨_, kc_3, by decide, (lw_in (tk_1 (List.mem_of_getElem? (i := 226) rfl)) rfl), rfl⟩
theorem f_6_231 : sx_F RX6 231 3 11 false := ⟨_, kc_3, by decide, (lw_in (tk_1 (List.mem_of_getElem? (i := 227) rfl)) rfl), rfl⟩
theorem f_3_142 : sx_F RX3 142 3 11 false := ⟨_, kc_3, by decide, (lw_in (tk_1 (List.mem_of_getElem? (i := 228) rfl)) rfl), rfl⟩
theorem f_6_243 : sx_F RX6 243 3 12 false := ⟨_, kc_3, by decide, (lw_in (tk_1 (List.mem_of_getElem? (i := 229) rfl)) rfl), rfl⟩
theorem f_3_145 : sx_F RX3 145 3 12 false := ⟨_, kc_3, by decide, (lw_in (tk_1 (List.mem_of_getElem? (i := 230) rfl)) rfl), rfl⟩
theorem f_6_234 : sx_F RX6 234 3 13 false := ⟨_, kc_3, by decide, (lw_in (tk_1 (List.mem_of_getElem? (i := 231) rfl)) rfl), rfl⟩
theorem f_3_148 : sx_F RX3 148 3 13 false := ⟨_, kc_3, by decide, (lw_in (tk_1 (List.mem_of_getElem? (i := 232) rfl)) rfl), rfl⟩
theorem f_6_246 : sx_F RX6 246 3 14 false := ⟨_, kc_3, by decide, (lw_in (tk_1 (List.mem_of_getElem? (i := 233) rfl)) rfl), rfl⟩
theorem f_3_151 : sx_F RX3 151 3 14 false := ⟨_, kc_3, by decide, (lw_in (tk_1 (List.mem_of_getElem? (i := 234) rfl)) rfl), rfl⟩
theorem f_4_9 : sx_F RX4 9 4 0 true := ⟨_, kc_4, by decide, (lw_in (tk_2 (List.mem_of_getElem? (i := 32) rfl)) rfl), rfl⟩
theorem f_4_15 : sx_F RX4 15 4 1 true := ⟨_, kc_4, by decide, (lw_in (tk_2 (List.mem_of_getElem? (i := 33) rfl)) rfl), rfl⟩
theorem f_7_9 : sx_F RX7 9 7 0 true := ⟨_, kc_7, by decide, (lw_in (tk_2 (List.mem_of_getElem? (i := 55) rfl)) rfl), rfl⟩
theorem f_11_206 : sx_F RX11 206 7 0 true := ⟨_, kc_7, by decide, (lw_in (tk_2 (List.mem_of_getElem? (i := 56) rfl)) rfl), rfl⟩
theorem f_5_411 : sx_F RX5 411 7 0 true := ⟨_, kc_7, by decide, (lw_in (tk_2 (List.mem_of_getElem? (i := 57) rfl)) rfl), rfl⟩
theorem f_7_44 : sx_F RX7 44 7 1 false := ⟨_, kc_7, by decide, (lw_in (tk_2 (List.mem_of_getElem? (i := 58) rfl)) rfl), rfl⟩
theorem f_11_201 : sx_F RX11 201 7 1 false := ⟨_, kc_7, by decide, (lw_in (tk_2 (List.mem_of_getElem? (i := 59) rfl)) rfl), rfl⟩
theorem f_7_15 : sx_F RX7 15 7 2 true := ⟨_, kc_7, by decide, (lw_in (tk_2 (List.mem_of_getElem? (i := 60) rfl)) rfl), rfl⟩
theorem f_11_212 : sx_F RX11 212 7 2 true := ⟨_, kc_7, by decide, (lw_in (tk_2 (List.mem_of_getElem? (i := 61) rfl)) rfl), rfl⟩
theorem f_5_408 : sx_F RX5 408 7 2 true := ⟨_, kc_7, by decide, (lw_in (tk_2 (List.mem_of_getElem? (i := 62) rfl)) rfl), rfl⟩
theorem f_7_67 : sx_F RX7 67 7 3 false := ⟨_, kc_7, by decide, (lw_in (tk_2 (List.mem_of_getElem? (i := 63) rfl)) rfl), rfl⟩
theorem f_11_209 : sx_F RX11 209 7 3 false := ⟨_, kc_7, by decide, (lw_in (tk_2 (List.mem_of_getElem? (i := 64) rfl)) rfl), rfl⟩
theorem f_7_23 : sx_F RX7 23 7 4 true := ⟨_, kc_7, by decide, (lw_in (tk_2 (List.mem_of_getElem? (i := 65) rfl)) rfl), rfl⟩
theorem f_5_175 : sx_F RX5 175 7 4 true := ⟨_, kc_7, by decide, (lw_in (tk_2 (List.mem_of_getElem? (i := 66) rfl)) rfl), rfl⟩
theorem f_11_215 : sx_F RX11 215 7 4 true := ⟨_, kc_7, by decide, (lw_in (tk_2 (List.mem_of_getElem? (i := 67) rfl)) rfl), rfl⟩
theorem f_7_30 : sx_F RX7 30 7 5 true := ⟨_, kc_7, by decide, (lw_in (tk_2 (List.mem_of_getElem? (i := 68) rfl)) rfl), rfl⟩
theorem f_6_68 : sx_F RX6 68 7 5 true := ⟨_, kc_7, by decide, (lw_in (tk_2 (List.mem_of_getElem? (i := 69) rfl)) rfl), rfl⟩
theorem f_5_272 : sx_F RX5 272 7 5 true := ⟨_, kc_7, by decide, (lw_in (tk_2 (List.mem_of_getElem? (i := 70) rfl)) rfl), rfl⟩
theorem f_10_9 : sx_F RX10 9 10 0 true := ⟨_, kc_10, by decide, (lw_in (tk_2 (List.mem_of_getElem? (i := 92) rfl)) rfl), rfl⟩
theorem f_10_15 : sx_F RX10 15 10 1 true := ⟨_, kc_10, by decide, (lw_in (tk_2 (List.mem_of_getElem? (i := 93) rfl)) rfl), rfl⟩
theorem f_10_18 : sx_F RX10 18 10 2 true := ⟨_, kc_10, by decide, (lw_in (tk_2 (List.mem_of_getElem? (i := 94) rfl)) rfl), rfl⟩
theorem f_10_21 : sx_F RX10 21 10 3 true := ⟨_, kc_10, by decide, (lw_in (tk_2 (List.mem_of_getElem? (i := 95) rfl)) rfl), rfl⟩
theorem f_10_24 : sx_F RX10 24 10 4 true := ⟨_, kc_10, by decide, (lw_in (tk_2 (List.mem_of_getElem? (i := 96) rfl)) rfl), rfl⟩
theorem f_10_27 : sx_F RX10 27 10 5 true := ⟨_, kc_10, by decide, (lw_in (tk_2 (List.mem_of_getElem? (i := 97) rfl)) rfl), rfl⟩
theorem f_10_30 : sx_F RX10 30 10 6 true := ⟨_, kc_10, by decide, (lw_in (tk_2 (List.mem_of_getElem? (i := 98) rfl)) rfl), rfl⟩
theorem f_10_37 : sx_F RX10 37 10 7 false := ⟨_, kc_10, by decide, (lw_in (tk_2 (List.mem_of_getElem? (i := 99) rfl)) rfl), rfl⟩
theorem f_10_34 : sx_F RX10 34 10 8 true := ⟨_, kc_10, by decide, (lw_in (tk_2 (List.mem_of_getElem? (i := 100) rfl)) rfl), rfl⟩
theorem f_10_91 : sx_F RX10 91 10 9 false := ⟨_, kc_10, by decide, (lw_in (tk_2 (List.mem_of_getElem? (i := 101) rfl)) rfl), rfl⟩
theorem f_10_94 : sx_F RX10 94 10 10 false := ⟨_, kc_10, by decide, (lw_in (tk_2 (List.mem_of_getElem? (i := 102) rfl)) rfl), rfl⟩
theorem f_10_57 : sx_F RX10 57 10 11 false := ⟨_, kc_10, by decide, (lw_in (tk_2 (List.mem_of_getElem? (i := 103) rfl)) rfl), rfl⟩
theorem f_10_60 : sx_F RX10 60 10 12 false := ⟨_, kc_10, by decide, (lw_in (tk_2 (List.mem_of_getElem? (i := 104) rfl)) rfl), rfl⟩
theorem f_9_59 : sx_F RX9 59 9 0 false := ⟨_, kc_9, by decide, (lw_in (tk_2 (List.mem_of_getElem? (i := 145) rfl)) rfl), rfl⟩
theorem f_5_210 : sx_F RX5 210 9 0 false := ⟨_, kc_9, by decide, (lw_in (tk_2 (List.mem_of_getElem? (i := 146) rfl)) rfl), rfl⟩
theorem f_9_62 : sx_F RX9 62 9 1 false := ⟨_, kc_9, by decide, (lw_in (tk_2 (List.mem_of_getElem? (i := 147) rfl)) rfl), rfl⟩
theorem f_5_213 : sx_F RX5 213 9 1 false := ⟨_, kc_9, by decide, (lw_in (tk_2 (List.mem_of_getElem? (i := 148) rfl)) rfl), rfl⟩
theorem f_9_47 : sx_F RX9 47 9 2 false := ⟨_, kc_9, by decide, (lw_in (tk_2 (List.mem_of_getElem? (i := 149) rfl)) rfl), rfl⟩
theorem f_5_184 : sx_F RX5 184 9 2 false := ⟨_, kc_9, by decide, (lw_in (tk_2 (List.mem_of_getElem? (i := 150) rfl)) rfl), rfl⟩
theorem f_9_50 : sx_F RX9 50 9 3 false := ⟨_, kc_9, by decide, (lw_in (tk_2 (List.mem_of_getElem? (i := 151) rfl)) rfl), rfl⟩
theorem f_5_187 : sx_F RX5 187 9 3 false := ⟨_, kc_9, by decide, (lw_in (tk_2 (List.mem_of_getElem? (i := 152) rfl)) rfl), rfl⟩
theorem f_9_53 : sx_F RX9 53 9 4 false := ⟨_, kc_9, by decide, (lw_in (tk_2 (List.mem_of_getElem? (i := 153) rfl)) rfl), rfl⟩
theorem f_5_192 : sx_F RX5 192 9 4 false := ⟨_, kc_9, by decide, (lw_in (tk_2 (List.mem_of_getElem? (i := 154) rfl)) rfl), rfl⟩
theorem f_9_56 : sx_F RX9 56 9 5 false := ⟨_, kc_9, by decide, (lw_in (tk_2 (List.mem_of_getElem? (i := 155) rfl)) rfl), rfl⟩
theorem f_5_195 : sx_F RX5 195 9 5 false := ⟨_, kc_9, by decide, (lw_in (tk_2 (List.mem_of_getElem? (i := 156) rfl)) rfl), rfl⟩
theorem f_9_9 : sx_F RX9 9 9 6 true := ⟨_, kc_9, by decide, (lw_in (tk_2 (List.mem_of_getElem? (i := 157) rfl)) rfl), rfl⟩
theorem f_5_275 : sx_F RX5 275 9 6 true := ⟨_, kc_9, by decide, (lw_in (tk_2 (List.mem_of_getElem? (i := 158) rfl)) rfl), rfl⟩
theorem f_9_15 : sx_F RX9 15 9 7 true := ⟨_, kc_9, by decide, (lw_in (tk_2 (List.mem_of_getElem? (i := 159) rfl)) rfl), rfl⟩
theorem f_5_172 : sx_F RX5 172 9 7 true := ⟨_, kc_9, by decide, (lw_in (tk_2 (List.mem_of_getElem? (i := 160) rfl)) rfl), rfl⟩
theorem f_9_28 : sx_F RX9 28 9 8 false := ⟨_, kc_9, by decide, (lw_in (tk_2 (List.mem_of_getElem? (i := 161) rfl)) rfl), rfl⟩
theorem f_5_163 : sx_F RX5 163 9 8 false := ⟨_, kc_9, by decide, (lw_in (tk_2 (List.mem_of_getElem? (i := 162) rfl)) rfl), rfl⟩
theorem f_9_77 : sx_F RX9 77 9 9 false := ⟨_, kc_9, by decide, (lw_in (tk_2 (List.mem_of_getElem? (i := 163) rfl)) rfl), rfl⟩
theorem f_9_80 : sx_F RX9 80 9 10 false := ⟨_, kc_9, by decide, (lw_in (tk_2 (List.mem_of_getElem? (i := 164) rfl)) rfl), rfl⟩
theorem f_9_83 : sx_F RX9 83 9 11 false := ⟨_, kc_9, by decide, (lw_in (tk_2 (List.mem_of_getElem? (i := 165) rfl)) rfl), rfl⟩
theorem f_9_35 : sx_F RX9 35 9 12 false := ⟨_, kc_9, by decide, (lw_in (tk_2 (List.mem_of_getElem? (i := 166) rfl)) rfl), rfl⟩
theorem f_5_266 : sx_F RX5 266 9 12 false := ⟨_, kc_9, by decide, (lw_in (tk_2 (List.mem_of_getElem? (i := 167) rfl)) rfl), rfl⟩
theorem f_9_38 : sx_F RX9 38 9 13 false := ⟨_, kc_9, by decide, (lw_in (tk_2 (List.mem_of_getElem? (i := 168) rfl)) rfl), rfl⟩
theorem f_5_269 : sx_F RX5 269 9 13 false := ⟨_, kc_9, by decide, (lw_in (tk_2 (List.mem_of_getElem? (i := 169) rfl)) rfl), rfl⟩
theorem f_0_11 : sx_F RX0 11 0 0 true := ⟨_, kc_0, by decide, (lw_in (tk_2 (List.mem_of_getElem? (i := 205) rfl)) rfl), rfl⟩
theorem f_5_346 : sx_F RX5 346 0 0 true := ⟨_, kc_0, by decide, (lw_in (tk_2 (List.mem_of_getElem? (i := 206) rfl)) rfl), rfl⟩
theorem f_0_15 : sx_F RX0 15 0 1 true := ⟨_, kc_0, by decide, (lw_in (tk_2 (List.mem_of_getElem? (i := 207) rfl)) rfl), rfl⟩
theorem f_5_349 : sx_F RX5 349 0 1 true := ⟨_, kc_0, by decide, (lw_in (tk_2 (List.mem_of_getElem? (i := 208) rfl)) rfl), rfl⟩
theorem f_0_18 : sx_F RX0 18 0 2 true := ⟨_, kc_0, by decide, (lw_in (tk_2 (List.mem_of_getElem? (i := 209) rfl)) rfl), rfl⟩
theorem f_5_352 : sx_F RX5 352 0 2 true := ⟨_, kc_0, by decide, (lw_in (tk_2 (List.mem_of_getElem? (i := 210) rfl)) rfl), rfl⟩
theorem f_0_42 : sx_F RX0 42 0 3 false := ⟨_, kc_0, by decide, (lw_in (tk_2 (List.mem_of_getElem? (i := 211) rfl)) rfl), rfl⟩
theorem f_5_343 : sx_F RX5 343 0 3 false := ⟨_, kc_0, by decide, (lw_in (tk_2 (List.mem_of_getElem? (i := 212) rfl)) rfl), rfl⟩
theorem f_0_21 : sx_F RX0 21 0 4 true := ⟨_, kc_0, by decide, (lw_in (tk_2 (List.mem_of_getElem? (i := 213) rfl)) rfl), rfl⟩
theorem f_5_361 : sx_F RX5 361 0 4 true := ⟨_, kc_0, by decide, (lw_in (tk_2 (List.mem_of_getElem? (i := 214) rfl)) rfl), rfl⟩
theorem f_0_24 : sx_F RX0 24 0 5 true := ⟨_, kc_0, by decide, (lw_in (tk_2 (List.mem_of_getElem? (i := 215) rfl)) rfl), rfl⟩
theorem f_5_364 : sx_F RX5 364 0 5 true := ⟨_, kc_0, by decide, (lw_in (tk_2 (List.mem_of_getElem? (i := 216) rfl)) rfl), rfl⟩
theorem f_0_27 : sx_F RX0 27 0 6 true := ⟨_, kc_0, by decide, (lw_in (tk_2 (List.mem_of_getElem? (i := 217) rfl)) rfl), rfl⟩
theorem f_5_367 : sx_F RX5 367 0 6 true := ⟨_, kc_0, by decide, (lw_in (tk_2 (List.mem_of_getElem? (i := 218) rfl)) rfl), rfl⟩
theorem f_0_30 : sx_F RX0 30 0 7 true := ⟨_, kc_0, by decide, (lw_in (tk_2 (List.mem_of_getElem? (i := 219) rfl)) rfl), rfl⟩
theorem f_5_370 : sx_F RX5 370 0 7 true := ⟨_, kc_0, by decide, (lw_in (tk_2 (List.mem_of_getElem? (i := 220) rfl)) rfl), rfl⟩
theorem f_0_33 : sx_F RX0 33 0 8 true := ⟨_, kc_0, by decide, (lw_in (tk_2 (List.mem_of_getElem? (i := 221) rfl)) rfl), rfl⟩
theorem f_5_373 : sx_F RX5 373 0 8 true := ⟨_, kc_0, by decide, (lw_in (tk_2 (List.mem_of_getElem? (i := 222) rfl)) rfl), rfl⟩
theorem f_0_46 : sx_F RX0 46 0 9 false := ⟨_, kc_0, by decide, (lw_in (tk_2 (List.mem_of_getElem? (i := 223) rfl)) rfl), rfl⟩
theorem f_5_99 : sx_F RX5 99 0 9 false := ⟨_, kc_0, by decide, (lw_in (tk_2 (List.mem_of_getElem? (i := 224) rfl)) rfl), rfl⟩
theorem f_5_45 : sx_F RX5 45 5 0 true := ⟨_, kc_5, by decide, (lw_in (tk_3 (List.mem_of_getElem? (i := 8) rfl)) rfl), rfl⟩
theorem f_5_12 : sx_F RX5 12 5 1 true := ⟨_, kc_5, by decide, (lw_in (tk_3 (List.mem_of_getElem? (i := 9) rfl)) rfl), rfl⟩
theorem f_5_21 : sx_F RX5 21 5 2 true := ⟨_, kc_5, by decide, (lw_in (tk_3 (List.mem_of_getElem? (i := 10) rfl)) rfl), rfl⟩
theorem f_5_30 : sx_F RX5 30 5 3 true := ⟨_, kc_5, by decide, (lw_in (tk_3 (List.mem_of_getElem? (i := 11) rfl)) rfl), rfl⟩
theorem f_5_34 : sx_F RX5 34 5 4 true := ⟨_, kc_5, by decide, (lw_in (tk_3 (List.mem_of_getElem? (i := 12) rfl)) rfl), rfl⟩
theorem f_5_96 : sx_F RX5 96 5 5 false := ⟨_, kc_5, by decide, (lw_in (tk_3 (List.mem_of_getElem? (i := 13) rfl)) rfl), rfl⟩
theorem f_5_49 : sx_F RX5 49 5 6 false := ⟨_, kc_5, by decide, (lw_in (tk_3 (List.mem_of_getElem? (i := 14) rfl)) rfl), rfl⟩
theorem f_5_38 : sx_F RX5 38 5 7 false := ⟨_, kc_5, by decide, (lw_in (tk_3 (List.mem_of_getElem? (i := 15) rfl)) rfl), rfl⟩
theorem f_5_83 : sx_F RX5 83 5 8 false := ⟨_, kc_5, by decide, (lw_in (tk_3 (List.mem_of_getElem? (i := 16) rfl)) rfl), rfl⟩
theorem f_5_87 : sx_F RX5 87 5 9 false := ⟨_, kc_5, by decide, (lw_in (tk_3 (List.mem_of_getElem? (i := 17) rfl)) rfl), rfl⟩
theorem f_5_90 : sx_F RX5 90 5 10 false := ⟨_, kc_5, by decide, (lw_in (tk_3 (List.mem_of_getElem? (i := 18) rfl)) rfl), rfl⟩
theorem f_5_93 : sx_F RX5 93 5 11 false := ⟨_, kc_5, by decide, (lw_in (tk_3 (List.mem_of_getElem? (i := 19) rfl)) rfl), rfl⟩
theorem f_5_59 : sx_F RX5 59 5 12 false := ⟨_, kc_5, by decide, (lw_in (tk_3 (List.mem_of_getElem? (i := 20) rfl)) rfl), rfl⟩
theorem f_5_53 : sx_F RX5 53 5 13 false := ⟨_, kc_5, by decide, (lw_in (tk_3 (List.mem_of_getElem? (i := 21) rfl)) rfl), rfl⟩
theorem f_6_98 : sx_F RX6 98 5 13 false := ⟨_, kc_5, by decide, (lw_in (tk_3 (List.mem_of_getElem? (i := 22) rfl)) rfl), rfl⟩
theorem f_11_171 : sx_F RX11 171 5 13 false := ⟨_, kc_5, by decide, (lw_in (tk_3 (List.mem_of_getElem? (i := 23) rfl)) rfl), rfl⟩
theorem f_5_56 : sx_F RX5 56 5 14 false := ⟨_, kc_5, by decide, (lw_in (tk_3 (List.mem_of_getElem? (i := 24) rfl)) rfl), rfl⟩
theorem f_6_92 : sx_F RX6 92 5 14 false := ⟨_, kc_5, by decide, (lw_in (tk_3 (List.mem_of_getElem? (i := 25) rfl)) rfl), rfl⟩
theorem f_11_179 : sx_F RX11 179 5 14 false := ⟨_, kc_5, by decide, (lw_in (tk_3 (List.mem_of_getElem? (i := 26) rfl)) rfl), rfl⟩
theorem f_5_41 : sx_F RX5 41 5 15 false := ⟨_, kc_5, by decide, (lw_in (tk_3 (List.mem_of_getElem? (i := 27) rfl)) rfl), rfl⟩
theorem f_11_182 : sx_F RX11 182 5 15 false := ⟨_, kc_5, by decide, (lw_in (tk_3 (List.mem_of_getElem? (i := 28) rfl)) rfl), rfl⟩
theorem f_6_62 : sx_F RX6 62 5 16 false := ⟨_, kc_5, by decide, (lw_in (tk_3 (List.mem_of_getElem? (i := 29) rfl)) rfl), rfl⟩
theorem f_5_169 : sx_F RX5 169 5 16 false := ⟨_, kc_5, by decide, (lw_in (tk_3 (List.mem_of_getElem? (i := 30) rfl)) rfl), rfl⟩
theorem f_11_194 : sx_F RX11 194 5 16 false := ⟨_, kc_5, by decide, (lw_in (tk_3 (List.mem_of_getElem? (i := 31) rfl)) rfl), rfl⟩
theorem f_6_34 : sx_F RX6 34 6 0 true := ⟨_, kc_6, by decide, (lw_in (tk_3 (List.mem_of_getElem? (i := 68) rfl)) rfl), rfl⟩
theorem f_6_38 : sx_F RX6 38 6 1 true := ⟨_, kc_6, by decide, (lw_in (tk_3 (List.mem_of_getElem? (i := 69) rfl)) rfl), rfl⟩
theorem f_6_47 : sx_F RX6 47 6 2 true := ⟨_, kc_6, by decide, (lw_in (tk_3 (List.mem_of_getElem? (i := 70) rfl)) rfl), rfl⟩
theorem f_11_167 : sx_F RX11 167 6 2 true := ⟨_, kc_6, by decide, (lw_in (tk_3 (List.mem_of_getElem? (i := 71) rfl)) rfl), rfl⟩
theorem f_6_12 : sx_F RX6 12 6 3 true := ⟨_, kc_6, by decide, (lw_in (tk_3 (List.mem_of_getElem? (i := 72) rfl)) rfl), rfl⟩
theorem f_11_197 : sx_F RX11 197 6 3 true := ⟨_, kc_6, by decide, (lw_in (tk_3 (List.mem_of_getElem? (i := 73) rfl)) rfl), rfl⟩
theorem f_6_18 : sx_F RX6 18 6 4 true := ⟨_, kc_6, by decide, (lw_in (tk_3 (List.mem_of_getElem? (i := 74) rfl)) rfl), rfl⟩
theorem f_6_23 : sx_F RX6 23 6 5 true := ⟨_, kc_6, by decide, (lw_in (tk_3 (List.mem_of_getElem? (i := 75) rfl)) rfl), rfl⟩
theorem f_11_143 : sx_F RX11 143 6 5 true := ⟨_, kc_6, by decide, (lw_in (tk_3 (List.mem_of_getElem? (i := 76) rfl)) rfl), rfl⟩
theorem f_6_30 : sx_F RX6 30 6 6 true := ⟨_, kc_6, by decide, (lw_in (tk_3 (List.mem_of_getElem? (i := 77) rfl)) rfl), rfl⟩
theorem f_11_229 : sx_F RX11 229 6 6 true := ⟨_, kc_6, by decide, (lw_in (tk_3 (List.mem_of_getElem? (i := 78) rfl)) rfl), rfl⟩
theorem f_6_54 : sx_F RX6 54 6 7 false := ⟨_, kc_6, by decide, (lw_in (tk_3 (List.mem_of_getElem? (i := 79) rfl)) rfl), rfl⟩
theorem f_11_137 : sx_F RX11 137 6 7 false := ⟨_, kc_6, by decide, (lw_in (tk_3 (List.mem_of_getElem? (i := 80) rfl)) rfl), rfl⟩
theorem f_6_58 : sx_F RX6 58 6 8 false := ⟨_, kc_6, by decide, (lw_in (tk_3 (List.mem_of_getElem? (i := 81) rfl)) rfl), rfl⟩
theorem f_11_147 : sx_F RX11 147 6 8 false := ⟨_, kc_6, by decide, (lw_in (tk_3 (List.mem_of_getElem? (i := 82) rfl)) rfl), rfl⟩
theorem f_6_65 : sx_F RX6 65 6 9 false := ⟨_, kc_6, by decide, (lw_in (tk_3 (List.mem_of_getElem? (i := 83) rfl)) rfl), rfl⟩
theorem f_6_118 : sx_F RX6 118 6 10 false := ⟨_, kc_6, by decide, (lw_in (tk_3 (List.mem_of_getElem? (i := 84) rfl)) rfl), rfl⟩
theorem f_11_185 : sx_F RX11 185 6 10 false := ⟨_, kc_6, by decide, (lw_in (tk_3 (List.mem_of_getElem? (i := 85) rfl)) rfl), rfl⟩
theorem f_6_95 : sx_F RX6 95 6 11 false := ⟨_, kc_6, by decide, (lw_in (tk_3 (List.mem_of_getElem? (i := 86) rfl)) rfl), rfl⟩
theorem f_11_176 : sx_F RX11 176 6 11 false := ⟨_, kc_6, by decide, (lw_in (tk_3 (List.mem_of_getElem? (i := 87) rfl)) rfl), rfl⟩
theorem f_6_101 : sx_F RX6 101 6 12 false := ⟨_, kc_6, by decide, (lw_in (tk_3 (List.mem_of_getElem? (i := 88) rfl)) rfl), rfl⟩
theorem f_1_11 : sx_F RX1 11 1 0 true := ⟨_, kc_1, by decide, (lw_in (tk_3 (List.mem_of_getElem? (i := 122) rfl)) rfl), rfl⟩
theorem f_11_257 : sx_F RX11 257 1 0 true := ⟨_, kc_1, by decide, (lw_in (tk_3 (List.mem_of_getElem? (i := 123) rfl)) rfl), rfl⟩
theorem f_1_15 : sx_F RX1 15 1 1 false := ⟨_, kc_1, by decide, (lw_in (tk_3 (List.mem_of_getElem? (i := 124) rfl)) rfl), rfl⟩
theorem f_11_247 : sx_F RX11 247 1 1 false := ⟨_, kc_1, by decide, (lw_in (tk_3 (List.mem_of_getElem? (i := 125) rfl)) rfl), rfl⟩
theorem f_1_19 : sx_F RX1 19 1 2 false := ⟨_, kc_1, by decide, (lw_in (tk_3 (List.mem_of_getElem? (i := 126) rfl)) rfl), rfl⟩
theorem f_11_254 : sx_F RX11 254 1 2 false := ⟨_, kc_1, by decide, (lw_in (tk_3 (List.mem_of_getElem? (i := 127) rfl)) rfl), rfl⟩
theorem f_11_9 : sx_F RX11 9 11 0 true := ⟨_, kc_11, by decide, (lw_in (tk_3 (List.mem_of_getElem? (i := 135) rfl)) rfl), rfl⟩
theorem f_11_52 : sx_F RX11 52 11 1 false := ⟨_, kc_11, by decide, (lw_in (tk_3 (List.mem_of_getElem? (i := 136) rfl)) rfl), rfl⟩
theorem f_11_16 : sx_F RX11 16 11 2 true := ⟨_, kc_11, by decide, (lw_in (tk_3 (List.mem_of_getElem? (i := 137) rfl)) rfl), rfl⟩
theorem f_11_30 : sx_F RX11 30 11 3 true := ⟨_, kc_11, by decide, (lw_in (tk_3 (List.mem_of_getElem? (i := 138) rfl)) rfl), rfl⟩
theorem f_11_37 : sx_F RX11 37 11 4 true := ⟨_, kc_11, by decide, (lw_in (tk_3 (List.mem_of_getElem? (i := 139) rfl)) rfl), rfl⟩
theorem f_11_44 : sx_F RX11 44 11 5 true := ⟨_, kc_11, by decide, (lw_in (tk_3 (List.mem_of_getElem? (i := 140) rfl)) rfl), rfl⟩
theorem f_11_48 : sx_F RX11 48 11 6 true := ⟨_, kc_11, by decide, (lw_in (tk_3 (List.mem_of_getElem? (i := 141) rfl)) rfl), rfl⟩
theorem f_11_260 : sx_F RX11 260 11 7 false := ⟨_, kc_11, by decide, (lw_in (tk_3 (List.mem_of_getElem? (i := 142) rfl)) rfl), rfl⟩
theorem f_12_7 : sx_F RX12 7 12 0 false := ⟨_, kc_12, by decide, (lw_in (tk_7 (List.mem_of_getElem? (i := 161) rfl)) rfl), rfl⟩
theorem f_12_910 : sx_F RX12 910 12 1 false := ⟨_, kc_12, by decide, (lw_in (tk_7 (List.mem_of_getElem? (i := 162) rfl)) rfl), rfl⟩
theorem f_12_13 : sx_F RX12 13 12 2 false := ⟨_, kc_12, by decide, (lw_in (tk_7 (List.mem_of_getElem? (i := 163) rfl)) rfl), rfl⟩
theorem f_12_206 : sx_F RX12 206 12 3 false := ⟨_, kc_12, by decide, (lw_in (tk_7 (List.mem_of_getElem? (i := 164) rfl)) rfl), rfl⟩
theorem f_12_759 : sx_F RX12 759 12 4 false := ⟨_, kc_12, by decide, (lw_in (tk_7 (List.mem_of_getElem? (i := 165) rfl)) rfl), rfl⟩
theorem f_12_216 : sx_F RX12 216 12 5 false := ⟨_, kc_12, by decide, (lw_in (tk_7 (List.mem_of_getElem? (i := 166) rfl)) rfl), rfl⟩
theorem f_12_16 : sx_F RX12 16 12 6 false := ⟨_, kc_12, by decide, (lw_in (tk_7 (List.mem_of_getElem? (i := 167) rfl)) rfl), rfl⟩
theorem f_12_20 : sx_F RX12 20 12 7 false := ⟨_, kc_12, by decide, (lw_in (tk_7 (List.mem_of_getElem? (i := 168) rfl)) rfl), rfl⟩
theorem f_12_24 : sx_F RX12 24 12 8 false := ⟨_, kc_12, by decide, (lw_in (tk_7 (List.mem_of_getElem? (i := 169) rfl)) rfl), rfl⟩
theorem f_12_27 : sx_F RX12 27 12 9 false := ⟨_, kc_12, by decide, (lw_in (tk_7 (List.mem_of_getElem? (i := 170) rfl)) rfl), rfl⟩
theorem f_12_302 : sx_F RX12 302 12 10 false := ⟨_, kc_12, by decide, (lw_in (tk_7 (List.mem_of_getElem? (i := 171) rfl)) rfl), rfl⟩
theorem f_12_271 : sx_F RX12 271 12 11 false := ⟨_, kc_12, by decide, (lw_in (tk_7 (List.mem_of_getElem? (i := 172) rfl)) rfl), rfl⟩
theorem f_12_260 : sx_F RX12 260 12 12 false := ⟨_, kc_12, by decide, (lw_in (tk_7 (List.mem_of_getElem? (i := 173) rfl)) rfl), rfl⟩
theorem f_12_313 : sx_F RX12 313 12 13 false := ⟨_, kc_12, by decide, (lw_in (tk_7 (List.mem_of_getElem? (i := 174) rfl)) rfl), rfl⟩
theorem f_12_316 : sx_F RX12 316 12 14 false := ⟨_, kc_12, by decide, (lw_in (tk_7 (List.mem_of_getElem? (i := 175) rfl)) rfl), rfl⟩
theorem f_12_319 : sx_F RX12 319 12 15 false := ⟨_, kc_12, by decide, (lw_in (tk_7 (List.mem_of_getElem? (i := 176) rfl)) rfl), rfl⟩
theorem f_12_322 : sx_F RX12 322 12 16 false := ⟨_, kc_12, by decide, (lw_in (tk_7 (List.mem_of_getElem? (i := 177) rfl)) rfl), rfl⟩
theorem f_12_325 : sx_F RX12 325 12 17 false := ⟨_, kc_12, by decide, (lw_in (tk_7 (List.mem_of_getElem? (i := 178) rfl)) rfl), rfl⟩
theorem f_12_328 : sx_F RX12 328 12 18 false := ⟨_, kc_12, by decide, (lw_in (tk_7 (List.mem_of_getElem? (i := 179) rfl)) rfl), rfl⟩
theorem f_12_331 : sx_F RX12 331 12 19 false := ⟨_, kc_12, by decide, (lw_in (tk_7 (List.mem_of_getElem? (i := 180) rfl)) rfl), rfl⟩
theorem f_12_254 : sx_F RX12 254 12 20 false := ⟨_, kc_12, by decide, (lw_in (tk_7 (List.mem_of_getElem? (i := 181) rfl)) rfl), rfl⟩
theorem f_12_384 : sx_F RX12 384 12 21 false := ⟨_, kc_12, by decide, (lw_in (tk_7 (List.mem_of_getElem? (i := 182) rfl)) rfl), rfl⟩
theorem f_12_387 : sx_F RX12 387 12 22 false := ⟨_, kc_12, by decide, (lw_in (tk_7 (List.mem_of_getElem? (i := 183) rfl)) rfl), rfl⟩
theorem f_12_399 : sx_F RX12 399 12 23 false := ⟨_, kc_12, by decide, (lw_in (tk_7 (List.mem_of_getElem? (i := 184) rfl)) rfl), rfl⟩
theorem f_12_405 : sx_F RX12 405 12 24 false := ⟨_, kc_12, by decide, (lw_in (tk_7 (List.mem_of_getElem? (i := 185) rfl)) rfl), rfl⟩
theorem f_12_294 : sx_F RX12 294 12 25 false := ⟨_, kc_12, by decide, (lw_in (tk_7 (List.mem_of_getElem? (i := 186) rfl)) rfl), rfl⟩
theorem f_12_342 : sx_F RX12 342 12 26 false := ⟨_, kc_12, by decide, (lw_in (tk_7 (List.mem_of_getElem? (i := 187) rfl)) rfl), rfl⟩
theorem f_12_345 : sx_F RX12 345 12 27 false := ⟨_, kc_12, by decide, (lw_in (tk_7 (List.mem_of_getElem? (i := 188) rfl)) rfl), rfl⟩
theorem f_12_348 : sx_F RX12 348 12 28 false := ⟨_, kc_12, by decide, (lw_in (tk_7 (List.mem_of_getElem? (i := 189) rfl)) rfl), rfl⟩
theorem f_12_351 : sx_F RX12 351 12 29 false := ⟨_, kc_12, by decide, (lw_in (tk_7 (List.mem_of_getElem? (i := 190) rfl)) rfl), rfl⟩
theorem f_12_354 : sx_F RX12 354 12 30 false := ⟨_, kc_12, by decide, (lw_in (tk_7 (List.mem_of_getElem? (i := 191) rfl)) rfl), rfl⟩
theorem f_12_357 : sx_F RX12 357 12 31 false := ⟨_, kc_12, by decide, (lw_in (tk_7 (List.mem_of_getElem? (i := 192) rfl)) rfl), rfl⟩
theorem f_12_360 : sx_F RX12 360 12 32 false := ⟨_, kc_12, by decide, (lw_in (tk_7 (List.mem_of_getElem? (i := 193) rfl)) rfl), rfl⟩
theorem f_12_30 : sx_F RX12 30 12 33 false := ⟨_, kc_12, by decide, (lw_in (tk_7 (List.mem_of_getElem? (i := 194) rfl)) rfl), rfl⟩
theorem f_12_33 : sx_F RX12 33 12 34 false := ⟨_, kc_12, by decide, (lw_in (tk_7 (List.mem_of_getElem? (i := 195) rfl)) rfl), rfl⟩
theorem f_12_36 : sx_F RX12 36 12 35 false := ⟨_, kc_12, by decide, (lw_in (tk_7 (List.mem_of_getElem? (i := 196) rfl)) rfl), rfl⟩
theorem f_12_39 : sx_F RX12 39 12 36 false := ⟨_, kc_12, by decide, (lw_in (tk_7 (List.mem_of_getElem? (i := 197) rfl)) rfl), rfl⟩
theorem f_12_42 : sx_F RX12 42 12 37 false := ⟨_, kc_12, by decide, (lw_in (tk_7 (List.mem_of_getElem? (i := 198) rfl)) rfl), rfl⟩
theorem f_12_45 : sx_F RX12 45 12 38 false := ⟨_, kc_12, by decide, (lw_in (tk_7 (List.mem_of_getElem? (i := 199) rfl)) rfl), rfl⟩
theorem f_12_48 : sx_F RX12 48 12 39 false := ⟨_, kc_12, by decide, (lw_in (tk_7 (List.mem_of_getElem? (i := 200) rfl)) rfl), rfl⟩
theorem f_12_51 : sx_F RX12 51 12 40 false := ⟨_, kc_12, by decide, (lw_in (tk_7 (List.mem_of_getElem? (i := 201) rfl)) rfl), rfl⟩
theorem f_12_54 : sx_F RX12 54 12 41 false := ⟨_, kc_12, by decide, (lw_in (tk_7 (List.mem_of_getElem? (i := 202) rfl)) rfl), rfl⟩
theorem f_12_57 : sx_F RX12 57 12 42 false := ⟨_, kc_12, by decide, (lw_in (tk_7 (List.mem_of_getElem? (i := 203) rfl)) rfl), rfl⟩
theorem f_12_61 : sx_F RX12 61 12 43 false := ⟨_, kc_12, by decide, (lw_in (tk_7 (List.mem_of_getElem? (i := 204) rfl)) rfl), rfl⟩
theorem f_12_64 : sx_F RX12 64 12 44 false := ⟨_, kc_12, by decide, (lw_in (tk_7 (List.mem_of_getElem? (i := 205) rfl)) rfl), rfl⟩
theorem f_12_67 : sx_F RX12 67 12 45 false := ⟨_, kc_12, by decide, (lw_in (tk_7 (List.mem_of_getElem? (i := 206) rfl)) rfl), rfl⟩
theorem f_12_70 : sx_F RX12 70 12 46 false := ⟨_, kc_12, by decide, (lw_in (tk_7 (List.mem_of_getElem? (i := 207) rfl)) rfl), rfl⟩
theorem f_12_73 : sx_F RX12 73 12 47 false := ⟨_, kc_12, by decide, (lw_in (tk_7 (List.mem_of_getElem? (i := 208) rfl)) rfl), rfl⟩
theorem f_12_76 : sx_F RX12 76 12 48 false := ⟨_, kc_12, by decide, (lw_in (tk_7 (List.mem_of_getElem? (i := 209) rfl)) rfl), rfl⟩
theorem f_12_79 : sx_F RX12 79 12 49 false := ⟨_, kc_12, by decide, (lw_in (tk_7 (List.mem_of_getElem? (i := 210) rfl)) rfl), rfl⟩
theorem f_12_82 : sx_F RX12 82 12 50 false := ⟨_, kc_12, by decide, (lw_in (tk_7 (List.mem_of_getElem? (i := 211) rfl)) rfl), rfl⟩
theorem f_12_85 : sx_F RX12 85 12 51 false := ⟨_, kc_12, by decide, (lw_in (tk_7 (List.mem_of_getElem? (i := 212) rfl)) rfl), rfl⟩
theorem f_12_514 : sx_F RX12 514 12 52 false := ⟨_, kc_12, by decide, (lw_in (tk_7 (List.mem_of_getElem? (i := 213) rfl)) rfl), rfl⟩
theorem f_12_706 : sx_F RX12 706 12 53 false := ⟨_, kc_12, by decide, (lw_in (tk_7 (List.mem_of_getElem? (i := 214) rfl)) rfl), rfl⟩
theorem f_12_88 : sx_F RX12 88 12 54 false := ⟨_, kc_12, by decide, (lw_in (tk_7 (List.mem_of_getElem? (i := 215) rfl)) rfl), rfl⟩
theorem f_12_91 : sx_F RX12 91 12 55 false := ⟨_, kc_12, by decide, (lw_in (tk_7 (List.mem_of_getElem? (i := 216) rfl)) rfl), rfl⟩
theorem f_12_418 : sx_F RX12 418 12 56 false := ⟨_, kc_12, by decide, (lw_in (tk_7 (List.mem_of_getElem? (i := 217) rfl)) rfl), rfl⟩
theorem f_12_424 : sx_F RX12 424 12 57 false := ⟨_, kc_12, by decide, (lw_in (tk_7 (List.mem_of_getElem? (i := 218) rfl)) rfl), rfl⟩
theorem f_12_505 : sx_F RX12 505 12 58 false := ⟨_, kc_12, by decide, (lw_in (tk_7 (List.mem_of_getElem? (i := 219) rfl)) rfl), rfl⟩
theorem f_12_409 : sx_F RX12 409 12 59 false := ⟨_, kc_12, by decide, (lw_in (tk_7 (List.mem_of_getElem? (i := 220) rfl)) rfl), rfl⟩
theorem f_12_415 : sx_F RX12 415 12 60 false := ⟨_, kc_12, by decide, (lw_in (tk_7 (List.mem_of_getElem? (i := 221) rfl)) rfl), rfl⟩
theorem f_12_412 : sx_F RX12 412 12 61 false := ⟨_, kc_12, by decide, (lw_in (tk_7 (List.mem_of_getElem? (i := 222) rfl)) rfl), rfl⟩
theorem f_12_621 : sx_F RX12 621 12 62 false := ⟨_, kc_12, by decide, (lw_in (tk_7 (List.mem_of_getElem? (i := 223) rfl)) rfl), rfl⟩
theorem f_12_433 : sx_F RX12 433 12 63 false := ⟨_, kc_12, by decide, (lw_in (tk_7 (List.mem_of_getElem? (i := 224) rfl)) rfl), rfl⟩
theorem f_12_436 : sx_F RX12 436 12 64 false := ⟨_, kc_12, by decide, (lw_in (tk_7 (List.mem_of_getElem? (i := 225) rfl)) rfl), rfl⟩
theorem f_12_439 : sx_F RX12 439 12 65 false := ⟨_, kc_12, by decide, (lw_in (tk_7 (List.mem_of_getElem? (i := 226) rfl)) rfl), rfl⟩
theorem f_12_442 : sx_F RX12 442 12 66 false := ⟨_, kc_12, by decide, (lw_in (tk_7 (List.mem_of_getElem? (i := 227) rfl)) rfl), rfl⟩
theorem f_12_445 : sx_F RX12 445 12 67 false := ⟨_, kc_12, by decide, (lw_in (tk_7 (List.mem_of_getElem? (i := 228) rfl)) rfl), rfl⟩
theorem f_12_448 : sx_F RX12 448 12 68 false := ⟨_, kc_12, by decide, (lw_in (tk_7 (List.mem_of_getElem? (i := 229) rfl)) rfl), rfl⟩
theorem f_12_451 : sx_F RX12 451 12 69 false := ⟨_, kc_12, by decide, (lw_in (tk_7 (List.mem_of_getElem? (i := 230) rfl)) rfl), rfl⟩
theorem f_12_454 : sx_F RX12 454 12 70 false := ⟨_, kc_12, by decide, (lw_in (tk_7 (List.mem_of_getElem? (i := 231) rfl)) rfl), rfl⟩
theorem f_12_457 : sx_F RX12 457 12 71 false := ⟨_, kc_12, by decide, (lw_in (tk_7 (List.mem_of_getElem? (i := 232) rfl)) rfl), rfl⟩
theorem f_12_460 : sx_F RX12 460 12 72 false := ⟨_, kc_12, by decide, (lw_in (tk_7 (List.mem_of_getElem? (i := 233) rfl)) rfl), rfl⟩
theorem f_12_463 : sx_F RX12 463 12 73 false := ⟨_, kc_12, by decide, (lw_in (tk_7 (List.mem_of_getElem? (i := 234) rfl)) rfl), rfl⟩
theorem f_12_466 : sx_F RX12 466 12 74 false := ⟨_, kc_12, by decide, (lw_in (tk_7 (List.mem_of_getElem? (i := 235) rfl)) rfl), rfl⟩
theorem f_12_469 : sx_F RX12 469 12 75 false := ⟨_, kc_12, by decide, (lw_in (tk_7 (List.mem_of_getElem? (i := 236) rfl)) rfl), rfl⟩
theorem f_12_476 : sx_F RX12 476 12 76 false := ⟨_, kc_12, by decide, (lw_in (tk_7 (List.mem_of_getElem? (i := 237) rfl)) rfl), rfl⟩
theorem f_12_479 : sx_F RX12 479 12 77 false := ⟨_, kc_12, by decide, (lw_in (tk_7 (List.mem_of_getElem? (i := 238) rfl)) rfl), rfl⟩
theorem f_12_482 : sx_F RX12 482 12 78 false := ⟨_, kc_12, by decide, (lw_in (tk_7 (List.mem_of_getElem? (i := 239) rfl)) rfl), rfl⟩
theorem f_12_485 : sx_F RX12 485 12 79 false := ⟨_, kc_12, by decide, (lw_in (tk_8 (List.mem_of_getElem? (i := 0) rfl)) rfl), rfl⟩
theorem f_12_605 : sx_F RX12 605 12 80 false := ⟨_, kc_12, by decide, (lw_in (tk_8 (List.mem_of_getElem? (i := 1) rfl)) rfl), rfl⟩
theorem f_12_615 : sx_F RX12 615 12 81 false := ⟨_, kc_12, by decide, (lw_in (tk_8 (List.mem_of_getElem? (i := 2) rfl)) rfl), rfl⟩
theorem f_12_608 : sx_F RX12 608 12 82 false := ⟨_, kc_12, by decide, (lw_in (tk_8 (List.mem_of_getElem? (i := 3) rfl)) rfl), rfl⟩
theorem f_12_595 : sx_F RX12 595 12 83 false := ⟨_, kc_12, by decide, (lw_in (tk_8 (List.mem_of_getElem? (i := 4) rfl)) rfl), rfl⟩
theorem f_12_683 : sx_F RX12 683 12 84 false := ⟨_, kc_12, by decide, (lw_in (tk_8 (List.mem_of_getElem? (i := 5) rfl)) rfl), rfl⟩
theorem f_12_700 : sx_F RX12 700 12 85 false := ⟨_, kc_12, by decide, (lw_in (tk_8 (List.mem_of_getElem? (i := 6) rfl)) rfl), rfl⟩
theorem f_12_703 : sx_F RX12 703 12 86 false := ⟨_, kc_12, by decide, (lw_in (tk_8 (List.mem_of_getElem? (i := 7) rfl)) rfl), rfl⟩
theorem f_12_739 : sx_F RX12 739 12 87 false := ⟨_, kc_12, by decide, (lw_in (tk_8 (List.mem_of_getElem? (i := 8) rfl)) rfl), rfl⟩
theorem f_12_747 : sx_F RX12 747 12 88 false := ⟨_, kc_12, by decide, (lw_in (tk_8 (List.mem_of_getElem? (i := 9) rfl)) rfl), rfl⟩
theorem f_12_94 : sx_F RX12 94 12 89 false := ⟨_, kc_12, by decide, (lw_in (tk_8 (List.mem_of_getElem? (i := 10) rfl)) rfl), rfl⟩
theorem f_12_97 : sx_F RX12 97 12 90 false := ⟨_, kc_12, by decide, (lw_in (tk_8 (List.mem_of_getElem? (i := 11) rfl)) rfl), rfl⟩
theorem f_12_493 : sx_F RX12 493 12 91 false := ⟨_, kc_12, by decide, (lw_in (tk_8 (List.mem_of_getElem? (i := 12) rfl)) rfl), rfl⟩
theorem f_12_427 : sx_F RX12 427 12 92 false := ⟨_, kc_12, by decide, (lw_in (tk_8 (List.mem_of_getElem? (i := 13) rfl)) rfl), rfl⟩
theorem f_12_496 : sx_F RX12 496 12 93 false := ⟨_, kc_12, by decide, (lw_in (tk_8 (List.mem_of_getElem? (i := 14) rfl)) rfl), rfl⟩
theorem f_12_100 : sx_F RX12 100 12 94 false := ⟨_, kc_12, by decide, (lw_in (tk_8 (List.mem_of_getElem? (i := 15) rfl)) rfl), rfl⟩
theorem f_12_103 : sx_F RX12 103 12 95 false := ⟨_, kc_12, by decide, (lw_in (tk_8 (List.mem_of_getElem? (i := 16) rfl)) rfl), rfl⟩
theorem f_12_106 : sx_F RX12 106 12 96 false := ⟨_, kc_12, by decide, (lw_in (tk_8 (List.mem_of_getElem? (i := 17) rfl)) rfl), rfl⟩
theorem f_12_109 : sx_F RX12 109 12 97 false := ⟨_, kc_12, by decide, (lw_in (tk_8 (List.mem_of_getElem? (i := 18) rfl)) rfl), rfl⟩
theorem f_12_655 : sx_F RX12 655 12 98 false := ⟨_, kc_12, by decide, (lw_in (tk_8 (List.mem_of_getElem? (i := 19) rfl)) rfl), rfl⟩
theorem f_12_499 : sx_F RX12 499 12 99 false := ⟨_, kc_12, by decide, (lw_in (tk_8 (List.mem_of_getElem? (i := 20) rfl)) rfl), rfl⟩
theorem f_12_112 : sx_F RX12 112 12 100 false := ⟨_, kc_12, by decide, (lw_in (tk_8 (List.mem_of_getElem? (i := 21) rfl)) rfl), rfl⟩
theorem f_12_115 : sx_F RX12 115 12 101 false := ⟨_, kc_12, by decide, (lw_in (tk_8 (List.mem_of_getElem? (i := 22) rfl)) rfl), rfl⟩
theorem f_12_118 : sx_F RX12 118 12 102 false := ⟨_, kc_12, by decide, (lw_in (tk_8 (List.mem_of_getElem? (i := 23) rfl)) rfl), rfl⟩
theorem f_12_121 : sx_F RX12 121 12 103 false := ⟨_, kc_12, by decide, (lw_in (tk_8 (List.mem_of_getElem? (i := 24) rfl)) rfl), rfl⟩
theorem f_12_124 : sx_F RX12 124 12 104 false := ⟨_, kc_12, by decide, (lw_in (tk_8 (List.mem_of_getElem? (i := 25) rfl)) rfl), rfl⟩
theorem f_12_533 : sx_F RX12 533 12 105 false := ⟨_, kc_12, by decide, (lw_in (tk_8 (List.mem_of_getElem? (i := 26) rfl)) rfl), rfl⟩
theorem f_12_536 : sx_F RX12 536 12 106 false := ⟨_, kc_12, by decide, (lw_in (tk_8 (List.mem_of_getElem? (i := 27) rfl)) rfl), rfl⟩
theorem f_12_767 : sx_F RX12 767 12 107 false := ⟨_, kc_12, by decide, (lw_in (tk_8 (List.mem_of_getElem? (i := 28) rfl)) rfl), rfl⟩
theorem f_12_764 : sx_F RX12 764 12 108 false := ⟨_, kc_12, by decide, (lw_in (tk_8 (List.mem_of_getElem? (i := 29) rfl)) rfl), rfl⟩
theorem f_12_756 : sx_F RX12 756 12 109 false := ⟨_, kc_12, by decide, (lw_in (tk_8 (List.mem_of_getElem? (i := 30) rfl)) rfl), rfl⟩
theorem f_12_750 : sx_F RX12 750 12 110 false := ⟨_, kc_12, by decide, (lw_in (tk_8 (List.mem_of_getElem? (i := 31) rfl)) rfl), rfl⟩
theorem f_12_753 : sx_F RX12 753 12 111 false := ⟨_, kc_12, by decide, (lw_in (tk_8 (List.mem_of_getElem? (i := 32) rfl)) rfl), rfl⟩
theorem f_12_127 : sx_F RX12 127 12 112 false := ⟨_, kc_12, by decide, (lw_in (tk_8 (List.mem_of_getElem? (i := 33) rfl)) rfl), rfl⟩
theorem f_12_131 : sx_F RX12 131 12 113 false := ⟨_, kc_12, by decide, (lw_in (tk_8 (List.mem_of_getElem? (i := 34) rfl)) rfl), rfl⟩
theorem f_12_134 : sx_F RX12 134 12 114 false := ⟨_, kc_12, by decide, (lw_in (tk_8 (List.mem_of_getElem? (i := 35) rfl)) rfl), rfl⟩
theorem f_12_137 : sx_F RX12 137 12 115 false := ⟨_, kc_12, by decide, (lw_in (tk_8 (List.mem_of_getElem? (i := 36) rfl)) rfl), rfl⟩
theorem f_12_140 : sx_F RX12 140 12 116 false := ⟨_, kc_12, by decide, (lw_in (tk_8 (List.mem_of_getElem? (i := 37) rfl)) rfl), rfl⟩
theorem f_12_143 : sx_F RX12 143 12 117 false := ⟨_, kc_12, by decide, (lw_in (tk_8 (List.mem_of_getElem? (i := 38) rfl)) rfl), rfl⟩
theorem f_12_146 : sx_F RX12 146 12 118 false := ⟨_, kc_12, by decide, (lw_in (tk_8 (List.mem_of_getElem? (i := 39) rfl)) rfl), rfl⟩
theorem f_12_149 : sx_F RX12 149 12 119 false := ⟨_, kc_12, by decide, (lw_in (tk_8 (List.mem_of_getElem? (i := 40) rfl)) rfl), rfl⟩
theorem f_12_152 : sx_F RX12 152 12 120 false := ⟨_, kc_12, by decide, (lw_in (tk_8 (List.mem_of_getElem? (i := 41) rfl)) rfl), rfl⟩
theorem f_12_155 : sx_F RX12 155 12 121 false := ⟨_, kc_12, by decide, (lw_in (tk_8 (List.mem_of_getElem? (i := 42) rfl)) rfl), rfl⟩
theorem f_12_158 : sx_F RX12 158 12 122 false := ⟨_, kc_12, by decide, (lw_in (tk_8 (List.mem_of_getElem? (i := 43) rfl)) rfl), rfl⟩
theorem f_12_161 : sx_F RX12 161 12 123 false := ⟨_, kc_12, by decide, (lw_in (tk_8 (List.mem_of_getElem? (i := 44) rfl)) rfl), rfl⟩
theorem f_12_164 : sx_F RX12 164 12 124 false := ⟨_, kc_12, by decide, (lw_in (tk_8 (List.mem_of_getElem? (i := 45) rfl)) rfl), rfl⟩
theorem f_12_807 : sx_F RX12 807 12 125 false := ⟨_, kc_12, by decide, (lw_in (tk_8 (List.mem_of_getElem? (i := 46) rfl)) rfl), rfl⟩
theorem f_12_798 : sx_F RX12 798 12 126 false := ⟨_, kc_12, by decide, (lw_in (tk_8 (List.mem_of_getElem? (i := 47) rfl)) rfl), rfl⟩
theorem f_12_801 : sx_F RX12 801 12 127 false := ⟨_, kc_12, by decide, (lw_in (tk_8 (List.mem_of_getElem? (i := 48) rfl)) rfl), rfl⟩
theorem f_12_823 : sx_F RX12 823 12 128 false := ⟨_, kc_12, by decide, (lw_in (tk_8 (List.mem_of_getElem? (i := 49) rfl)) rfl), rfl⟩
theorem f_12_826 : sx_F RX12 826 12 129 false := ⟨_, kc_12, by decide, (lw_in (tk_8 (List.mem_of_getElem? (i := 50) rfl)) rfl), rfl⟩
theorem f_12_167 : sx_F RX12 167 12 130 false := ⟨_, kc_12, by decide, (lw_in (tk_8 (List.mem_of_getElem? (i := 51) rfl)) rfl), rfl⟩
theorem f_12_170 : sx_F RX12 170 12 131 false := ⟨_, kc_12, by decide, (lw_in (tk_8 (List.mem_of_getElem? (i := 52) rfl)) rfl), rfl⟩
theorem f_12_173 : sx_F RX12 173 12 132 false := ⟨_, kc_12, by decide, (lw_in (tk_8 (List.mem_of_getElem? (i := 53) rfl)) rfl), rfl⟩
theorem f_12_176 : sx_F RX12 176 12 133 false := ⟨_, kc_12, by decide, (lw_in (tk_8 (List.mem_of_getElem? (i := 54) rfl)) rfl), rfl⟩
theorem f_12_829 : sx_F RX12 829 12 134 false := ⟨_, kc_12, by decide, (lw_in (tk_8 (List.mem_of_getElem? (i := 55) rfl)) rfl), rfl⟩
theorem f_12_835 : sx_F RX12 835 12 135 false := ⟨_, kc_12, by decide, (lw_in (tk_8 (List.mem_of_getElem? (i := 56) rfl)) rfl), rfl⟩
theorem f_12_179 : sx_F RX12 179 12 136 false := ⟨_, kc_12, by decide, (lw_in (tk_8 (List.mem_of_getElem? (i := 57) rfl)) rfl), rfl⟩
theorem f_12_182 : sx_F RX12 182 12 137 false := ⟨_, kc_12, by decide, (lw_in (tk_8 (List.mem_of_getElem? (i := 58) rfl)) rfl), rfl⟩
theorem f_12_185 : sx_F RX12 185 12 138 false := ⟨_, kc_12, by decide, (lw_in (tk_8 (List.mem_of_getElem? (i := 59) rfl)) rfl), rfl⟩
theorem f_12_849 : sx_F RX12 849 12 139 false := ⟨_, kc_12, by decide, (lw_in (tk_8 (List.mem_of_getElem? (i := 60) rfl)) rfl), rfl⟩
theorem f_12_846 : sx_F RX12 846 12 140 false := ⟨_, kc_12, by decide, (lw_in (tk_8 (List.mem_of_getElem? (i := 61) rfl)) rfl), rfl⟩
theorem f_12_881 : sx_F RX12 881 12 141 false := ⟨_, kc_12, by decide, (lw_in (tk_8 (List.mem_of_getElem? (i := 62) rfl)) rfl), rfl⟩
theorem f_12_884 : sx_F RX12 884 12 142 false := ⟨_, kc_12, by decide, (lw_in (tk_8 (List.mem_of_getElem? (i := 63) rfl)) rfl), rfl⟩
theorem f_12_188 : sx_F RX12 188 12 143 false := ⟨_, kc_12, by decide, (lw_in (tk_8 (List.mem_of_getElem? (i := 64) rfl)) rfl), rfl⟩
theorem f_12_896 : sx_F RX12 896 12 144 false := ⟨_, kc_12, by decide, (lw_in (tk_8 (List.mem_of_getElem? (i := 65) rfl)) rfl), rfl⟩
theorem f_12_191 : sx_F RX12 191 12 145 false := ⟨_, kc_12, by decide, (lw_in (tk_8 (List.mem_of_getElem? (i := 66) rfl)) rfl), rfl⟩
