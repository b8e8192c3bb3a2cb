/-! safety, c, 7 -/
theorem s_B_X5_shiftByPixels_15_R {G : sv_V} {N : Nat} (hN : 8589934592 ≤ N) {bo bm : Nat} (hR : RefsOf G bo bm) {k15 : Int64 → Nat → Int32 → sv_V → Option sv_V} {c_k15 : Int} (hk_k15 : ∀ (l1 : Int64) (l3 : Nat) (l4 : Int32) (V : sv_V), SIx T_cR G V → rl l1 (-2147483648) (2147483647) → l3 ∈ [34, 48, 82, 93, 103, 113, 123, 133] → rg l4 (0) (65535) → c_k15 < l4.toInt → Sg (SIx T_cR G) (k15 l1 l3 l4 V)) {l1 : Int64} {l3 : Nat} {l4 : Int32} {V : sv_V} (hS_V : SIx T_cR G V) (r_l1 : rl l1 (-2147483648) (2147483647)) (m_l3 : l3 ∈ [34, 48, 82, 93, 103, 113, 123, 133]) (r_l4 : rg l4 (0) (65535)) (hc_k15 : c_k15 ≤ l4.toInt) : Sg (SIx T_cR G) (B_X5_shiftByPixels_15 N k15 l1 l3 l4 V) := by
  unfold B_X5_shiftByPixels_15
  exact
    sf_ite (fun h_1 =>
    sf_w (hS_V.wc oi_RcR_70_8 (rg_m (rg_c (x := (1 : Int32)) (n := 1) rfl) (by decide) (by decide))) fun V_2 q_3 hS_V_2 =>
    sf_sV hS_V_2)
     (fun h_1 =>
    have f_4 := (rg_hlt (Int32.not_le.mp h_1) r_l4 (hS_V.rd r_RcR_70_8))
    sf_eI (s_F_X5_pop_R hN hR hS_V) fun x_6 V_7 e_9 hS_V_7 r_8 =>
    sf_assoc <|
    sf_iteb (fun h_20 =>
    have f_21 := (rg_hlt h_20 r_8 (rg_c (x := (0 : Int32)) (n := 0) rfl))
    sf_someb <|
    sf_pb (lay_S m_l3 (by decide +kernel)) <|
    sf_iteb (fun h_22 =>
    sf_wb (hS_V_7.wc oi_RcR_69_14 (rg_m (rg_c (x := (5 : Int32)) (n := 5) rfl) (by decide) (by decide))) fun V_23 q_24 hS_V_23 =>
    sf_assoc <|
    sf_iteb (fun h_33 =>
    sf_someb <|
    sf_pb (lay_S m_l3 (by decide +kernel)) <|
    sf_pb (bl_rg (rg_c (x := (0 : Int32)) (n := 0) rfl) (by decide) (by decide)) <|
    sf_someb <|
    sf_ite (fun h_34 =>
    sf_sV hS_V_23)
     (fun h_34 =>
    False.elim (rg_none h_34 (rg_c (x := (0 : Int32)) (n := 0) rfl) (rg_c (x := (0 : Int32)) (n := 0) rfl))))
     (fun h_33 =>
    False.elim (rg_nole (Int32.not_lt.mp h_33) (rg_c (x := (0 : Int32)) (n := 0) rfl) f_21 (by decide))))
     (fun h_22 =>
    False.elim (rg_none h_22 (rg_c (x := (0 : Int32)) (n := 0) rfl) (rg_c (x := (0 : Int32)) (n := 0) rfl))))
     (fun h_20 =>
    have f_35 := (rg_lle (Int32.not_lt.mp h_20) (rg_c (x := (0 : Int32)) (n := 0) rfl) r_8)
    sf_pb (lay_S m_l3 (by decide +kernel)) <|
    sf_iteb (fun h_36 =>
    sf_someb <|
    sf_pb (lay_S m_l3 (by decide +kernel)) <|
    sf_iteb (fun h_37 =>
    sf_wb (hS_V_7.wc oi_RcR_69_14 (rg_m (rg_c (x := (5 : Int32)) (n := 5) rfl) (by decide) (by decide))) fun V_38 q_39 hS_V_38 =>
    sf_assoc <|
    sf_iteb (fun h_48 =>
    False.elim (rg_nolt h_48 f_35 (rg_c (x := (0 : Int32)) (n := 0) rfl) (by decide)))
     (fun h_48 =>
    sf_pb (lay_S m_l3 (by decide +kernel)) <|
    sf_iteb (fun h_49 =>
    sf_someb <|
    sf_pb (lay_S m_l3 (by decide +kernel)) <|
    sf_pb (bl_rg (rg_c (x := (0 : Int32)) (n := 0) rfl) (by decide) (by decide)) <|
    sf_someb <|
    sf_ite (fun h_50 =>
    sf_sV hS_V_38)
     (fun h_50 =>
    False.elim (rg_none h_50 (rg_c (x := (0 : Int32)) (n := 0) rfl) (rg_c (x := (0 : Int32)) (n := 0) rfl))))
     (fun h_49 =>
    have f_51 := (rg_hlt (Int32.not_le.mp h_49) f_35 (rg_add (hS_V_38.rdS m_l3 rs_RcR_34488293103113123133_9_0_100) (hS_V_38.rdS m_l3 rs_RcR_34488293103113123133_11_0_2) (by decide) (by decide)))
    sf_someb <|
    sf_pb (lay_S m_l3 (by decide +kernel)) <|
    sf_pb (bl_rg (rg_c (x := (1 : Int32)) (n := 1) rfl) (by decide) (by decide)) <|
    sf_someb <|
    sf_ite (fun h_55 =>
    False.elim (rg_noeq h_55 (rg_c (x := (1 : Int32)) (n := 1) rfl) (rg_c (x := (0 : Int32)) (n := 0) rfl) (by decide)))
     (fun h_55 =>
    have f_56 := (cap_of ck_RcR (mem_of m_l3 (by decide)) hS_V_38 (Int32.not_le.mp h_49))
    sf_p (lay_S m_l3 (by decide +kernel)) <|
    sf_crS (T := [38, 52, 86, 97, 107, 117, 127, 137]) m_l3 (by decide +kernel) fun b_57 m_59 q_58 =>
    sf_lenS (m := 0) m_59 (by decide +kernel) fun n_60 m_62 q_61 =>
    sf_p (in_cap f_56 f_51 (by decide) (cap_len (mem_of m_l3 (by decide)) q_58 q_61 (by decide))) <|
    sf_qL (s_F_X11_nearest_R hN hR hS_V_38) fun x_63 r_64 =>
    sf_p (in_cap f_56 f_51 (by decide) (cap_len (mem_of m_l3 (by decide)) q_58 q_61 (by decide))) <|
    sf_w (hS_V_38.wnSa m_59 osa_RcR_38528697107117127137) fun V_65 q_66 hS_V_65 =>
    sf_crS (T := [39, 53, 87, 98, 108, 118, 128, 138]) m_l3 (by decide +kernel) fun b_67 m_69 q_68 =>
    sf_lenS (m := 0) m_69 (by decide +kernel) fun n_70 m_72 q_71 =>
    sf_p (in_cap f_56 f_51 (by decide) (cap_len (mem_of m_l3 (by decide)) q_68 q_71 (by decide))) <|
    sf_qL (s_F_X11_nearest_R hN hR hS_V_65) fun x_73 r_74 =>
    sf_p (in_cap f_56 f_51 (by decide) (cap_len (mem_of m_l3 (by decide)) q_68 q_71 (by decide))) <|
    sf_w (hS_V_65.wnSa m_69 osa_RcR_39538798108118128138) fun V_75 q_76 hS_V_75 =>
    sf_crS (T := [42, 56, 90, 101, 111, 121, 131, 141]) m_l3 (by decide +kernel) fun b_77 m_79 q_78 =>
    sf_lenS (m := 0) m_79 (by decide +kernel) fun n_80 m_82 q_81 =>
    sf_p (in_cap f_56 f_51 (by decide) (cap_len (mem_of m_l3 (by decide)) q_78 q_81 (by decide))) <|
    sf_qI (s_F_X5_touchBits_R hN hR hS_V_75) fun x_83 r_84 =>
    sf_p (in_cap f_56 f_51 (by decide) (cap_len (mem_of m_l3 (by decide)) q_78 q_81 (by decide))) <|
    sf_w (hS_V_75.wcSa m_79 ota_RcR_425690101111121131141_0_3 (rg_m (rg_or (H := 3) 2 (hS_V_75.rdSa (k := x_6.toNatClampNeg) m_79 rt_RcR_425690101111121131141_0_3) r_84 (by decide)) (by decide) (by decide))) fun V_85 q_86 hS_V_85 =>
    sf_let fun x_87 q_88 =>
    have f_89 := rg_eq q_88 (rg_add f_4 (rg_c (x := (1 : Int32)) (n := 1) rfl) (by decide) (by decide))
    hk_k15 _ _ _ _ hS_V_85 r_l1 m_l3 (rg_m f_89 (by decide) (by decide)) (cnt_u0 q_88 f_4 (by decide) hc_k15)))))
     (fun h_37 =>
    False.elim (rg_none h_37 (rg_c (x := (0 : Int32)) (n := 0) rfl) (rg_c (x := (0 : Int32)) (n := 0) rfl))))
     (fun h_36 =>
    have f_90 := (rg_hlt (Int32.not_le.mp h_36) f_35 (rg_add (hS_V_7.rdS m_l3 rs_RcR_34488293103113123133_9_0_100) (hS_V_7.rdS m_l3 rs_RcR_34488293103113123133_11_0_2) (by decide) (by decide)))
    sf_someb <|
    sf_pb (lay_S m_l3 (by decide +kernel)) <|
    sf_iteb (fun h_93 =>
    False.elim (rg_noeq h_93 (rg_c (x := (1 : Int32)) (n := 1) rfl) (rg_c (x := (0 : Int32)) (n := 0) rfl) (by decide)))
     (fun h_93 =>
    sf_assoc <|
    sf_iteb (fun h_103 =>
    False.elim (rg_nolt h_103 f_90 (rg_c (x := (0 : Int32)) (n := 0) rfl) (by decide)))
     (fun h_103 =>
    sf_pb (lay_S m_l3 (by decide +kernel)) <|
    sf_iteb (fun h_105 =>
    sf_someb <|
    sf_pb (lay_S m_l3 (by decide +kernel)) <|
    sf_pb (bl_rg (rg_c (x := (0 : Int32)) (n := 0) rfl) (by decide) (by decide)) <|
    sf_someb <|
    sf_ite (fun h_111 =>
    sf_sV hS_V_7)
     (fun h_111 =>
    False.elim (rg_none h_111 (rg_c (x := (0 : Int32)) (n := 0) rfl) (rg_c (x := (0 : Int32)) (n := 0) rfl))))
     (fun h_105 =>
    sf_someb <|
    sf_pb (lay_S m_l3 (by decide +kernel)) <|
    sf_pb (bl_rg (rg_c (x := (1 : Int32)) (n := 1) rfl) (by decide) (by decide)) <|
    sf_someb <|
    sf_ite (fun h_117 =>
    False.elim (rg_noeq h_117 (rg_c (x := (1 : Int32)) (n := 1) rfl) (rg_c (x := (0 : Int32)) (n := 0) rfl) (by decide)))
     (fun h_117 =>
    have f_119 := (cap_of ck_RcR (mem_of m_l3 (by decide)) hS_V_7 (Int32.not_le.mp h_105))
    sf_p (lay_S m_l3 (by decide +kernel)) <|
    sf_crS (T := [38, 52, 86, 97, 107, 117, 127, 137]) m_l3 (by decide +kernel) fun b_120 m_122 q_121 =>
    sf_lenS (m := 0) m_122 (by decide +kernel) fun n_123 m_125 q_124 =>
    sf_p (in_cap f_119 f_90 (by decide) (cap_len (mem_of m_l3 (by decide)) q_121 q_124 (by decide))) <|
    sf_qL (s_F_X11_nearest_R hN hR hS_V_7) fun x_126 r_127 =>
    sf_p (in_cap f_119 f_90 (by decide) (cap_len (mem_of m_l3 (by decide)) q_121 q_124 (by decide))) <|
    sf_w (hS_V_7.wnSa m_122 osa_RcR_38528697107117127137) fun V_128 q_129 hS_V_128 =>
    sf_crS (T := [39, 53, 87, 98, 108, 118, 128, 138]) m_l3 (by decide +kernel) fun b_130 m_132 q_131 =>
    sf_lenS (m := 0) m_132 (by decide +kernel) fun n_133 m_135 q_134 =>
    sf_p (in_cap f_119 f_90 (by decide) (cap_len (mem_of m_l3 (by decide)) q_131 q_134 (by decide))) <|
    sf_qL (s_F_X11_nearest_R hN hR hS_V_128) fun x_136 r_137 =>
    sf_p (in_cap f_119 f_90 (by decide) (cap_len (mem_of m_l3 (by decide)) q_131 q_134 (by decide))) <|
    sf_w (hS_V_128.wnSa m_132 osa_RcR_39538798108118128138) fun V_138 q_139 hS_V_138 =>
    sf_crS (T := [42, 56, 90, 101, 111, 121, 131, 141]) m_l3 (by decide +kernel) fun b_140 m_142 q_141 =>
    sf_lenS (m := 0) m_142 (by decide +kernel) fun n_143 m_145 q_144 =>
    sf_p (in_cap f_119 f_90 (by decide) (cap_len (mem_of m_l3 (by decide)) q_141 q_144 (by decide))) <|
    sf_qI (s_F_X5_touchBits_R hN hR hS_V_138) fun x_146 r_147 =>
    sf_p (in_cap f_119 f_90 (by decide) (cap_len (mem_of m_l3 (by decide)) q_141 q_144 (by decide))) <|
    sf_w (hS_V_138.wcSa m_142 ota_RcR_425690101111121131141_0_3 (rg_m (rg_or (H := 3) 2 (hS_V_138.rdSa (k := x_6.toNatClampNeg) m_142 rt_RcR_425690101111121131141_0_3) r_147 (by decide)) (by decide) (by decide))) fun V_148 q_149 hS_V_148 =>
    sf_let fun x_150 q_151 =>
    have f_152 := rg_eq q_151 (rg_add f_4 (rg_c (x := (1 : Int32)) (n := 1) rfl) (by decide) (by decide))
    hk_k15 _ _ _ _ hS_V_148 r_l1 m_l3 (rg_m f_152 (by decide) (by decide)) (cnt_u0 q_151 f_4 (by decide) hc_k15))))))))
theorem s_F_X5_shiftByPixels_R {G : sv_V} {N : Nat} (hN : 8589934592 ≤ N) {bo bm : Nat} (hR : RefsOf G bo bm) {V : sv_V} (hS_V : SIx T_cR G V) : Sg (SIx T_cR G) (F_X5_shiftByPixels N V) := by
  unfold F_X5_shiftByPixels
  exact
    sf_eI (s_F_X5_pop_R hN hR hS_V) fun x_1 V_2 e_4 hS_V_2 r_3 =>
    sf_let fun x_6 q_7 =>
    have f_8 := rl_eq q_7 (rl_w r_3)
    sf_pb (in_rg (rg_c (x := (2 : Int32)) (n := 2) rfl) (by decide) (by decide)) <|
    sf_iteb (fun h_14 =>
    sf_ob (c := bm) (ref6 hS_V_2 hR rfl) <|
    sf_pb (lay_S hR.2.1 (by decide +kernel)) <|
    sf_assoc <|
    sf_crS (T := [34, 48]) hR.2.1 (by decide +kernel) fun b_16 m_18 q_17 =>
    sf_someb <|
    lp4_up (I := fun l1 l3 l4 V => (SIx T_cR G V) ∧ (rl l1 (-2147483648) (2147483647)) ∧ (l3 ∈ [34, 48, 82, 93, 103, 113, 123, 133]) ∧ (rg l4 (0) (65535))) (fun _ _ l4 _ => l4.toInt) (0) (65535) (fun l1 l3 l4 V h => by
      obtain ⟨hS_V, r_l1, m_l3, r_l4⟩ := h
      have := r_l4; unfold rg at this; omega) (fun k l1 l3 l4 V h hk => by
      obtain ⟨hS_V, r_l1, m_l3, r_l4⟩ := h
      exact s_B_X5_shiftByPixels_15_R hN hR (fun l1 l3 l4 V hS_V r_l1 m_l3 r_l4 hc_k15  => hk l1 l3 l4 V (by exact ⟨hS_V, r_l1, m_l3, r_l4⟩) (hc_k15)) hS_V r_l1 m_l3 r_l4 (Int.le_refl _)) N (by have := hN; omega) _ _ _ _ (by exact ⟨hS_V_2, (rl_m f_8 (by decide) (by decide)), (mem_of m_18 (by decide)), (rg_m (rg_c (x := (0 : Int32)) (n := 0) rfl) (by decide) (by decide))⟩))
     (fun h_14 =>
    sf_ob (c := bo) (ref7 hS_V_2 hR rfl) <|
    sf_someb <|
    lp4_up (I := fun l1 l3 l4 V => (SIx T_cR G V) ∧ (rl l1 (-2147483648) (2147483647)) ∧ (l3 ∈ [34, 48, 82, 93, 103, 113, 123, 133]) ∧ (rg l4 (0) (65535))) (fun _ _ l4 _ => l4.toInt) (0) (65535) (fun l1 l3 l4 V h => by
      obtain ⟨hS_V, r_l1, m_l3, r_l4⟩ := h
      have := r_l4; unfold rg at this; omega) (fun k l1 l3 l4 V h hk => by
      obtain ⟨hS_V, r_l1, m_l3, r_l4⟩ := h
      exact s_B_X5_shiftByPixels_15_R hN hR (fun l1 l3 l4 V hS_V r_l1 m_l3 r_l4 hc_k15  => hk l1 l3 l4 V (by exact ⟨hS_V, r_l1, m_l3, r_l4⟩) (hc_k15)) hS_V r_l1 m_l3 r_l4 (Int.le_refl _)) N (by have := hN; omega) _ _ _ _ (by exact ⟨hS_V_2, (rl_m f_8 (by decide) (by decide)), (mem_of hR.1 (by decide)), (rg_m (rg_c (x := (0 : Int32)) (n := 0) rfl) (by decide) (by decide))⟩))
theorem s_B_X5_interpolate_151_R {G : sv_V} {N : Nat} (hN : 8589934592 ≤ N) {bo bm : Nat} (hR : RefsOf G bo bm) {k88 : Nat → Nat → Int32 → Int64 → Int64 → Int32 → sv_V → Option sv_V} {c_k88 : Int} (hk_k88 : ∀ (l1 : Nat) (l3 : Nat) (l4 : Int32) (l6 : Int64) (l8 : Int64) (l10 : Int32) (V : sv_V), SIx T_cR G V → l1 ∈ [34, 48, 82, 93, 103, 113, 123, 133] → l3 ∈ [34, 48, 82, 93, 103, 113, 123, 133] → rg l4 (0) (101) → rl l6 (-2147483648) (2147483647) → rl l8 (-2147483648) (2147483647) → rg l10 (0) (65536) → l4.toInt < cap l1 → c_k88 < l10.toInt → Sg (SIx T_cR G) (k88 l1 l3 l4 l6 l8 l10 V)) {l1 : Nat} {l3 : Nat} {l4 : Int32} {l6 : Int64} {l8 : Int64} {l10 : Int32} {l11 : Int32} {s0 : Int64} {V : sv_V} (hS_V : SIx T_cR G V) (m_l1 : l1 ∈ [34, 48, 82, 93, 103, 113, 123, 133]) (m_l3 : l3 ∈ [34, 48, 82, 93, 103, 113, 123, 133]) (r_l4 : rg l4 (0) (101)) (r_l6 : rl l6 (-2147483648) (2147483647)) (r_l8 : rl l8 (-2147483648) (2147483647)) (r_l10 : rg l10 (0) (65535)) (r_l11 : rg l11 (0) (101)) (cp_l11_l3 : l11.toInt < cap l3) (cp_l4_l1 : l4.toInt < cap l1) (hc_k88 : c_k88 ≤ l10.toInt) : Sg (SIx T_cR G) (B_X5_interpolate_151 N k88 l1 l3 l4 l6 l8 l10 l11 s0 V) := by
  unfold B_X5_interpolate_151
  exact
    sf_qL (s_F_X5_longBetween_R hN hR hS_V m_l3 r_l11 m_l1 r_l4 cp_l11_l3 cp_l4_l1) fun x_1 r_2 =>
    sf_eV (s_F_X5_move_R hN hR hS_V m_l3 r_l11 cp_l11_l3) fun V_3 e_4 hS_V_3 =>
    sf_let fun x_6 q_7 =>
    have f_8 := rg_eq q_7 (rg_add r_l10 (rg_c (x := (1 : Int32)) (n := 1) rfl) (by decide) (by decide))
    hk_k88 _ _ _ _ _ _ _ hS_V_3 m_l1 m_l3 r_l4 r_l6 r_l8 (rg_m f_8 (by decide) (by decide)) cp_l4_l1 (cnt_u0 q_7 r_l10 (by decide) hc_k88)
theorem s_B_X5_interpolate_88_R {G : sv_V} {N : Nat} (hN : 8589934592 ≤ N) {bo bm : Nat} (hR : RefsOf G bo bm) {k88 : Nat → Nat → Int32 → Int64 → Int64 → Int32 → sv_V → Option sv_V} {c_k88 : Int} (hk_k88 : ∀ (l1 : Nat) (l3 : Nat) (l4 : Int32) (l6 : Int64) (l8 : Int64) (l10 : Int32) (V : sv_V), SIx T_cR G V → l1 ∈ [34, 48, 82, 93, 103, 113, 123, 133] → l3 ∈ [34, 48, 82, 93, 103, 113, 123, 133] → rg l4 (0) (101) → rl l6 (-2147483648) (2147483647) → rl l8 (-2147483648) (2147483647) → rg l10 (0) (65536) → l4.toInt < cap l1 → c_k88 < l10.toInt → Sg (SIx T_cR G) (k88 l1 l3 l4 l6 l8 l10 V)) {l1 : Nat} {l3 : Nat} {l4 : Int32} {l6 : Int64} {l8 : Int64} {l10 : Int32} {V : sv_V} (hS_V : SIx T_cR G V) (m_l1 : l1 ∈ [34, 48, 82, 93, 103, 113, 123, 133]) (m_l3 : l3 ∈ [34, 48, 82, 93, 103, 113, 123, 133]) (r_l4 : rg l4 (0) (101)) (r_l6 : rl l6 (-2147483648) (2147483647)) (r_l8 : rl l8 (-2147483648) (2147483647)) (r_l10 : rg l10 (0) (65536)) (cp_l4_l1 : l4.toInt < cap l1) (hc_k88 : c_k88 ≤ l10.toInt) : Sg (SIx T_cR G) (B_X5_interpolate_88 N k88 l1 l3 l4 l6 l8 l10 V) := by
  unfold B_X5_interpolate_88
  exact
    sf_ite (fun h_1 =>
    sf_w (hS_V.wc oi_RcR_70_8 (rg_m (rg_c (x := (1 : Int32)) (n := 1) rfl) (by decide) (by decide))) fun V_2 q_3 hS_V_2 =>
    sf_sV hS_V_2)
     (fun h_1 =>
    have f_4 := (rg_hlt (Int32.not_le.mp h_1) r_l10 (hS_V.rd r_RcR_70_8))
    sf_eI (s_F_X5_pop_R hN hR hS_V) fun x_6 V_7 e_9 hS_V_7 r_8 =>
    sf_assoc <|
    sf_iteb (fun h_20 =>
    have f_21 := (rg_hlt h_20 r_8 (rg_c (x := (0 : Int32)) (n := 0) rfl))
    sf_someb <|
    sf_pb (lay_S m_l3 (by decide +kernel)) <|
    sf_iteb (fun h_22 =>
    sf_wb (hS_V_7.wc oi_RcR_69_14 (rg_m (rg_c (x := (5 : Int32)) (n := 5) rfl) (by decide) (by decide))) fun V_23 q_24 hS_V_23 =>
    sf_assoc <|
    sf_iteb (fun h_33 =>
    sf_someb <|
    sf_pb (lay_S m_l3 (by decide +kernel)) <|
    sf_pb (bl_rg (rg_c (x := (0 : Int32)) (n := 0) rfl) (by decide) (by decide)) <|
    sf_someb <|
    sf_ite (fun h_34 =>
    sf_sV hS_V_23)
     (fun h_34 =>
    False.elim (rg_none h_34 (rg_c (x := (0 : Int32)) (n := 0) rfl) (rg_c (x := (0 : Int32)) (n := 0) rfl))))
     (fun h_33 =>
    False.elim (rg_nole (Int32.not_lt.mp h_33) (rg_c (x := (0 : Int32)) (n := 0) rfl) f_21 (by decide))))
     (fun h_22 =>
    False.elim (rg_none h_22 (rg_c (x := (0 : Int32)) (n := 0) rfl) (rg_c (x := (0 : Int32)) (n := 0) rfl))))
     (fun h_20 =>
    have f_35 := (rg_lle (Int32.not_lt.mp h_20) (rg_c (x := (0 : Int32)) (n := 0) rfl) r_8)
    sf_pb (lay_S m_l3 (by decide +kernel)) <|
    sf_iteb (fun h_36 =>
    sf_someb <|
    sf_pb (lay_S m_l3 (by decide +kernel)) <|
    sf_iteb (fun h_37 =>
    sf_wb (hS_V_7.wc oi_RcR_69_14 (rg_m (rg_c (x := (5 : Int32)) (n := 5) rfl) (by decide) (by decide))) fun V_38 q_39 hS_V_38 =>
    sf_assoc <|
    sf_iteb (fun h_48 =>
    False.elim (rg_nolt h_48 f_35 (rg_c (x := (0 : Int32)) (n := 0) rfl) (by decide)))
     (fun h_48 =>
    sf_pb (lay_S m_l3 (by decide +kernel)) <|
    sf_iteb (fun h_49 =>
    sf_someb <|
    sf_pb (lay_S m_l3 (by decide +kernel)) <|
    sf_pb (bl_rg (rg_c (x := (0 : Int32)) (n := 0) rfl) (by decide) (by decide)) <|
    sf_someb <|
    sf_ite (fun h_50 =>
    sf_sV hS_V_38)
     (fun h_50 =>
    False.elim (rg_none h_50 (rg_c (x := (0 : Int32)) (n := 0) rfl) (rg_c (x := (0 : Int32)) (n := 0) rfl))))
     (fun h_49 =>
    have f_51 := (rg_hlt (Int32.not_le.mp h_49) f_35 (rg_add (hS_V_38.rdS m_l3 rs_RcR_34488293103113123133_9_0_100) (hS_V_38.rdS m_l3 rs_RcR_34488293103113123133_11_0_2) (by decide) (by decide)))
    sf_someb <|
    sf_pb (lay_S m_l3 (by decide +kernel)) <|
    sf_pb (bl_rg (rg_c (x := (1 : Int32)) (n := 1) rfl) (by decide) (by decide)) <|
    sf_someb <|
    sf_ite (fun h_55 =>
    False.elim (rg_noeq h_55 (rg_c (x := (1 : Int32)) (n := 1) rfl) (rg_c (x := (0 : Int32)) (n := 0) rfl) (by decide)))
     (fun h_55 =>
    have f_56 := (cap_of ck_RcR (mem_of m_l3 (by decide)) hS_V_38 (Int32.not_le.mp h_49))
    sf_qL (s_F_X5_originalBetween_R hN hR hS_V_38 m_l3 (rg_m f_51 (by decide) (by decide)) m_l1 r_l4 f_56 cp_l4_l1) fun x_57 r_58 =>
    sf_ite (fun h_59 =>
    have f_60 := (rl_eq (lgc_eq.mp h_59) (rl_c (x := (0 : Int64)) (n := 0) rfl))
    have f_61 := (cap_of ck_RcR (mem_of m_l3 (by decide)) hS_V_38 (Int32.not_le.mp h_49))
    s_B_X5_interpolate_151_R hN hR hk_k88 hS_V_38 m_l1 m_l3 r_l4 (rl_m f_60 (by decide) (by decide)) r_l8 (rg_m f_4 (by decide) (by decide)) (rg_m f_51 (by decide) (by decide)) f_61 cp_l4_l1 hc_k88)
     (fun h_59 =>
    have f_62 := (cap_of ck_RcR (mem_of m_l3 (by decide)) hS_V_38 (Int32.not_le.mp h_49))
    sf_qL (s_F_X11_nearest_R hN hR hS_V_38) fun x_63 r_64 =>
    s_B_X5_interpolate_151_R hN hR hk_k88 hS_V_38 m_l1 m_l3 r_l4 r_l6 r_l8 (rg_m f_4 (by decide) (by decide)) (rg_m f_51 (by decide) (by decide)) f_62 cp_l4_l1 hc_k88)))))
     (fun h_37 =>
    False.elim (rg_none h_37 (rg_c (x := (0 : Int32)) (n := 0) rfl) (rg_c (x := (0 : Int32)) (n := 0) rfl))))
     (fun h_36 =>
    have f_65 := (rg_hlt (Int32.not_le.mp h_36) f_35 (rg_add (hS_V_7.rdS m_l3 rs_RcR_34488293103113123133_9_0_100) (hS_V_7.rdS m_l3 rs_RcR_34488293103113123133_11_0_2) (by decide) (by decide)))
    sf_someb <|
    sf_pb (lay_S m_l3 (by decide +kernel)) <|
    sf_iteb (fun h_68 =>
    False.elim (rg_noeq h_68 (rg_c (x := (1 : Int32)) (n := 1) rfl) (rg_c (x := (0 : Int32)) (n := 0) rfl) (by decide)))
     (fun h_68 =>
    sf_assoc <|
    sf_iteb (fun h_78 =>
    False.elim (rg_nolt h_78 f_65 (rg_c (x := (0 : Int32)) (n := 0) rfl) (by decide)))
     (fun h_78 =>
    sf_pb (lay_S m_l3 (by decide +kernel)) <|
    sf_iteb (fun h_80 =>
    sf_someb <|
    sf_pb (lay_S m_l3 (by decide +kernel)) <|
    sf_pb (bl_rg (rg_c (x := (0 : Int32)) (n := 0) rfl) (by decide) (by decide)) <|
    sf_someb <|
    sf_ite (fun h_86 =>
    sf_sV hS_V_7)
     (fun h_86 =>
    False.elim (rg_none h_86 (rg_c (x := (0 : Int32)) (n := 0) rfl) (rg_c (x := (0 : Int32)) (n := 0) rfl))))
     (fun h_80 =>
    sf_someb <|
    sf_pb (lay_S m_l3 (by decide +kernel)) <|
    sf_pb (bl_rg (rg_c (x := (1 : Int32)) (n := 1) rfl) (by decide) (by decide)) <|
    sf_someb <|
    sf_ite (fun h_92 =>
    False.elim (rg_noeq h_92 (rg_c (x := (1 : Int32)) (n := 1) rfl) (rg_c (x := (0 : Int32)) (n := 0) rfl) (by decide)))
     (fun h_92 =>
    have f_94 := (cap_of ck_RcR (mem_of m_l3 (by decide)) hS_V_7 (Int32.not_le.mp h_80))
    sf_qL (s_F_X5_originalBetween_R hN hR hS_V_7 m_l3 (rg_m f_65 (by decide) (by decide)) m_l1 r_l4 f_94 cp_l4_l1) fun x_95 r_96 =>
    sf_ite (fun h_97 =>
    have f_98 := (rl_eq (lgc_eq.mp h_97) (rl_c (x := (0 : Int64)) (n := 0) rfl))
    have f_100 := (cap_of ck_RcR (mem_of m_l3 (by decide)) hS_V_7 (Int32.not_le.mp h_80))
    s_B_X5_interpolate_151_R hN hR hk_k88 hS_V_7 m_l1 m_l3 r_l4 (rl_m f_98 (by decide) (by decide)) r_l8 (rg_m f_4 (by decide) (by decide)) (rg_m f_65 (by decide) (by decide)) f_100 cp_l4_l1 hc_k88)
     (fun h_97 =>
    have f_102 := (cap_of ck_RcR (mem_of m_l3 (by decide)) hS_V_7 (Int32.not_le.mp h_80))
    sf_qL (s_F_X11_nearest_R hN hR hS_V_7) fun x_103 r_104 =>
    s_B_X5_interpolate_151_R hN hR hk_k88 hS_V_7 m_l1 m_l3 r_l4 r_l6 r_l8 (rg_m f_4 (by decide) (by decide)) (rg_m f_65 (by decide) (by decide)) f_102 cp_l4_l1 hc_k88))))))))
