section
/-! safety, c, 15 -/
theorem s_B_X5_fillUntouched_121_R {G : sv_V} {N : Nat} (hN : 8589934592 ≤ N) {bo bm : Nat} (hR : RefsOf G bo bm) {k3 : Nat → Nat → Int32 → Int32 → sv_V → Option sv_V} {k61 : Nat → Nat → Int32 → Int32 → Int32 → Int32 → Int32 → Int32 → Int32 → sv_V → Option sv_V} {c_k3 : Int} (hk_k3 : ∀ (l1 : Nat) (l2 : Nat) (l3 : Int32) (l4 : Int32) (V : sv_V), SIx T_cR G V → l1 ∈ [88, 89, 99, 100, 109, 110, 119, 120, 129, 130, 139, 140] → l2 ∈ [86, 87, 97, 98, 107, 108, 117, 118, 127, 128, 137, 138] → rg l3 (1) (2) → rg l4 (0) (20) → OA bo l1 → OA bo l2 → c_k3 < l4.toInt → Sg (SIx T_cR G) (k3 l1 l2 l3 l4 V)) {c_k61 : Int} (hk_k61 : ∀ (l1 : Nat) (l2 : Nat) (l3 : Int32) (l4 : Int32) (l5 : Int32) (l6 : Int32) (l7 : Int32) (l8 : Int32) (l9 : Int32) (V : sv_V), SIx T_cR G V → l1 ∈ [88, 89, 99, 100, 109, 110, 119, 120, 129, 130, 139, 140] → l2 ∈ [86, 87, 97, 98, 107, 108, 117, 118, 127, 128, 137, 138] → rg l3 (1) (2) → rg l4 (0) (19) → rg l5 (0) (100) → rg l6 (-99) (100) → rg l7 (-1) (199) → rg l8 (-100) (199) → rg l9 (1) (101) → l3.toInt < cap bo → l4.toInt < cap bo → l5.toInt < cap bo → l6.toInt < cap bo → (100 : Int) ≤ cap bo → OA bo l1 → OA bo l2 → l5.toInt + l6.toInt = (V.1 (bo + 1) l4.toNatClampNeg).toInt + 1 → l8.toInt < l5.toInt + l6.toInt → l7.toInt = -1 ∨ 0 ≤ l8.toInt → (l4.toInt = 0 ∧ l5.toInt = 0) ∨ (0 < l4.toInt ∧ l5.toInt = (V.1 (bo + 1) (l4 - (1 : Int32)).toNatClampNeg).toInt + 1) → c_k61 < l9.toInt → c_k3 ≤ l4.toInt → Sg (SIx T_cR G) (k61 l1 l2 l3 l4 l5 l6 l7 l8 l9 V)) {l1 : Nat} {l2 : Nat} {l3 : Int32} {l4 : Int32} {l5 : Int32} {l6 : Int32} {l7 : Int32} {l8 : Int32} {l9 : Int32} {V : sv_V} (hS_V : SIx T_cR G V) (m_l1 : l1 ∈ [88, 89, 99, 100, 109, 110, 119, 120, 129, 130, 139, 140]) (m_l2 : l2 ∈ [86, 87, 97, 98, 107, 108, 117, 118, 127, 128, 137, 138]) (r_l3 : rg l3 (1) (2)) (r_l4 : rg l4 (0) (19)) (r_l5 : rg l5 (0) (100)) (r_l6 : rg l6 (1) (100)) (r_l7 : rg l7 (0) (199)) (r_l8 : rg l8 (-100) (199)) (r_l9 : rg l9 (1) (100)) (cp_l3_bo : l3.toInt < cap bo) (cp_l4_bo : l4.toInt < cap bo) (cp_l5_bo : l5.toInt < cap bo) (cp_l6_bo : l6.toInt < cap bo) (cp_l9_bo : l9.toInt < cap bo) (cb : (100 : Int) ≤ cap bo) (oa_l1 : OA bo l1) (oa_l2 : OA bo l2) (an_0 : l5.toInt + l6.toInt = (V.1 (bo + 1) l4.toNatClampNeg).toInt + 1) (an_1 : l8.toInt < l5.toInt + l6.toInt) (an_2 : l7.toInt = -1 ∨ 0 ≤ l8.toInt) (an_3 : (l4.toInt = 0 ∧ l5.toInt = 0) ∨ (0 < l4.toInt ∧ l5.toInt = (V.1 (bo + 1) (l4 - (1 : Int32)).toNatClampNeg).toInt + 1)) (hc_k3 : c_k3 ≤ l4.toInt) (hc_k61 : c_k61 ≤ l9.toInt) : Sg (SIx T_cR G) (B_X5_fillUntouched_121 N k3 k61 l1 l2 l3 l4 l5 l6 l7 l8 l9 V) := by
  unfold B_X5_fillUntouched_121
  exact
    sf_let fun x_1 q_2 =>
    have f_3 := rg_eq q_2 (rg_add r_l9 (rg_c (x := (1 : Int32)) (n := 1) rfl) (by decide) (by decide))
    hk_k61 _ _ _ _ _ _ _ _ _ _ hS_V m_l1 m_l2 r_l3 r_l4 r_l5 (rg_m r_l6 (by decide) (by decide)) (rg_m r_l7 (by decide) (by decide)) r_l8 (rg_m f_3 (by decide) (by decide)) cp_l3_bo cp_l4_bo cp_l5_bo cp_l6_bo cb oa_l1 oa_l2 (by have := (r_l3).1; have := (r_l3).2; have := (r_l4).1; have := (r_l4).2; have := (r_l5).1; have := (r_l5).2; have := (r_l6).1; have := (r_l6).2; have := (r_l7).1; have := (r_l7).2; have := (r_l8).1; have := (r_l8).2; have := (f_3).1; have := (f_3).2; have := congrArg Int32.toInt q_2; have := ((rg_add r_l9 (rg_c (x := (1 : Int32)) (n := 1) rfl) (by decide) (by decide))).1; have := ((rg_add r_l9 (rg_c (x := (1 : Int32)) (n := 1) rfl) (by decide) (by decide))).2; have := rg_tia r_l9 (rg_c (x := (1 : Int32)) (n := 1) rfl) (by decide) (by decide); have := (r_l9).1; have := (r_l9).2; have := ((hS_V.rdSa (k := l4.toNatClampNeg) (bo1_mem hR.1) rt_RcR_8394104114124134_0_99)).1; have := ((hS_V.rdSa (k := l4.toNatClampNeg) (bo1_mem hR.1) rt_RcR_8394104114124134_0_99)).2; have := ((hS_V.rdSa (k := (l4 - (1 : Int32)).toNatClampNeg) (bo1_mem hR.1) rt_RcR_8394104114124134_0_99)).1; have := ((hS_V.rdSa (k := (l4 - (1 : Int32)).toNatClampNeg) (bo1_mem hR.1) rt_RcR_8394104114124134_0_99)).2; have := cb; have := an_0; have := an_1; have := an_2; have := an_3; have : (1 : Int32).toInt = 1 := rfl; omega) (by have := (r_l3).1; have := (r_l3).2; have := (r_l4).1; have := (r_l4).2; have := (r_l5).1; have := (r_l5).2; have := (r_l6).1; have := (r_l6).2; have := (r_l7).1; have := (r_l7).2; have := (r_l8).1; have := (r_l8).2; have := (f_3).1; have := (f_3).2; have := congrArg Int32.toInt q_2; have := ((rg_add r_l9 (rg_c (x := (1 : Int32)) (n := 1) rfl) (by decide) (by decide))).1; have := ((rg_add r_l9 (rg_c (x := (1 : Int32)) (n := 1) rfl) (by decide) (by decide))).2; have := rg_tia r_l9 (rg_c (x := (1 : Int32)) (n := 1) rfl) (by decide) (by decide); have := (r_l9).1; have := (r_l9).2; have := ((hS_V.rdSa (k := l4.toNatClampNeg) (bo1_mem hR.1) rt_RcR_8394104114124134_0_99)).1; have := ((hS_V.rdSa (k := l4.toNatClampNeg) (bo1_mem hR.1) rt_RcR_8394104114124134_0_99)).2; have := ((hS_V.rdSa (k := (l4 - (1 : Int32)).toNatClampNeg) (bo1_mem hR.1) rt_RcR_8394104114124134_0_99)).1; have := ((hS_V.rdSa (k := (l4 - (1 : Int32)).toNatClampNeg) (bo1_mem hR.1) rt_RcR_8394104114124134_0_99)).2; have := cb; have := an_0; have := an_1; have := an_2; have := an_3; have : (1 : Int32).toInt = 1 := rfl; omega) (by have := (r_l3).1; have := (r_l3).2; have := (r_l4).1; have := (r_l4).2; have := (r_l5).1; have := (r_l5).2; have := (r_l6).1; have := (r_l6).2; have := (r_l7).1; have := (r_l7).2; have := (r_l8).1; have := (r_l8).2; have := (f_3).1; have := (f_3).2; have := congrArg Int32.toInt q_2; have := ((rg_add r_l9 (rg_c (x := (1 : Int32)) (n := 1) rfl) (by decide) (by decide))).1; have := ((rg_add r_l9 (rg_c (x := (1 : Int32)) (n := 1) rfl) (by decide) (by decide))).2; have := rg_tia r_l9 (rg_c (x := (1 : Int32)) (n := 1) rfl) (by decide) (by decide); have := (r_l9).1; have := (r_l9).2; have := ((hS_V.rdSa (k := l4.toNatClampNeg) (bo1_mem hR.1) rt_RcR_8394104114124134_0_99)).1; have := ((hS_V.rdSa (k := l4.toNatClampNeg) (bo1_mem hR.1) rt_RcR_8394104114124134_0_99)).2; have := ((hS_V.rdSa (k := (l4 - (1 : Int32)).toNatClampNeg) (bo1_mem hR.1) rt_RcR_8394104114124134_0_99)).1; have := ((hS_V.rdSa (k := (l4 - (1 : Int32)).toNatClampNeg) (bo1_mem hR.1) rt_RcR_8394104114124134_0_99)).2; have := cb; have := an_0; have := an_1; have := an_2; have := an_3; have : (1 : Int32).toInt = 1 := rfl; omega) (by have := (r_l3).1; have := (r_l3).2; have := (r_l4).1; have := (r_l4).2; have := (r_l5).1; have := (r_l5).2; have := (r_l6).1; have := (r_l6).2; have := (r_l7).1; have := (r_l7).2; have := (r_l8).1; have := (r_l8).2; have := (f_3).1; have := (f_3).2; have := congrArg Int32.toInt q_2; have := ((rg_add r_l9 (rg_c (x := (1 : Int32)) (n := 1) rfl) (by decide) (by decide))).1; have := ((rg_add r_l9 (rg_c (x := (1 : Int32)) (n := 1) rfl) (by decide) (by decide))).2; have := rg_tia r_l9 (rg_c (x := (1 : Int32)) (n := 1) rfl) (by decide) (by decide); have := (r_l9).1; have := (r_l9).2; have := ((hS_V.rdSa (k := l4.toNatClampNeg) (bo1_mem hR.1) rt_RcR_8394104114124134_0_99)).1; have := ((hS_V.rdSa (k := l4.toNatClampNeg) (bo1_mem hR.1) rt_RcR_8394104114124134_0_99)).2; have := ((hS_V.rdSa (k := (l4 - (1 : Int32)).toNatClampNeg) (bo1_mem hR.1) rt_RcR_8394104114124134_0_99)).1; have := ((hS_V.rdSa (k := (l4 - (1 : Int32)).toNatClampNeg) (bo1_mem hR.1) rt_RcR_8394104114124134_0_99)).2; have := cb; have := an_0; have := an_1; have := an_2; have := an_3; have : (1 : Int32).toInt = 1 := rfl; omega) (cnt_u0 q_2 r_l9 (by decide) hc_k61) hc_k3
theorem s_B_X5_fillUntouched_127_R {G : sv_V} {N : Nat} (hN : 8589934592 ≤ N) {bo bm : Nat} (hR : RefsOf G bo bm) {k3 : Nat → Nat → Int32 → Int32 → sv_V → Option sv_V} {c_k3 : Int} (hk_k3 : ∀ (l1 : Nat) (l2 : Nat) (l3 : Int32) (l4 : Int32) (V : sv_V), SIx T_cR G V → l1 ∈ [88, 89, 99, 100, 109, 110, 119, 120, 129, 130, 139, 140] → l2 ∈ [86, 87, 97, 98, 107, 108, 117, 118, 127, 128, 137, 138] → rg l3 (1) (2) → rg l4 (0) (20) → OA bo l1 → OA bo l2 → c_k3 < l4.toInt → Sg (SIx T_cR G) (k3 l1 l2 l3 l4 V)) {l1 : Nat} {l2 : Nat} {l3 : Int32} {l4 : Int32} {V : sv_V} (hS_V : SIx T_cR G V) (m_l1 : l1 ∈ [88, 89, 99, 100, 109, 110, 119, 120, 129, 130, 139, 140]) (m_l2 : l2 ∈ [86, 87, 97, 98, 107, 108, 117, 118, 127, 128, 137, 138]) (r_l3 : rg l3 (1) (2)) (r_l4 : rg l4 (0) (19)) (cp_l3_bo : l3.toInt < cap bo) (cp_l4_bo : l4.toInt < cap bo) (cb : (100 : Int) ≤ cap bo) (oa_l1 : OA bo l1) (oa_l2 : OA bo l2) (hc_k3 : c_k3 ≤ l4.toInt) : Sg (SIx T_cR G) (B_X5_fillUntouched_127 N k3 l1 l2 l3 l4 V) := by
  unfold B_X5_fillUntouched_127
  exact
    sf_let fun x_1 q_2 =>
    have f_3 := rg_eq q_2 (rg_add r_l4 (rg_c (x := (1 : Int32)) (n := 1) rfl) (by decide) (by decide))
    hk_k3 _ _ _ _ _ hS_V m_l1 m_l2 r_l3 (rg_m f_3 (by decide) (by decide)) oa_l1 oa_l2 (cnt_u0 q_2 r_l4 (by decide) hc_k3)
theorem s_B_X5_fillUntouched_61_R {G : sv_V} {N : Nat} (hN : 8589934592 ≤ N) {bo bm : Nat} (hR : RefsOf G bo bm) {k3 : Nat → Nat → Int32 → Int32 → sv_V → Option sv_V} {k61 : Nat → Nat → Int32 → Int32 → Int32 → Int32 → Int32 → Int32 → Int32 → sv_V → Option sv_V} {c_k3 : Int} (hk_k3 : ∀ (l1 : Nat) (l2 : Nat) (l3 : Int32) (l4 : Int32) (V : sv_V), SIx T_cR G V → l1 ∈ [88, 89, 99, 100, 109, 110, 119, 120, 129, 130, 139, 140] → l2 ∈ [86, 87, 97, 98, 107, 108, 117, 118, 127, 128, 137, 138] → rg l3 (1) (2) → rg l4 (0) (20) → OA bo l1 → OA bo l2 → c_k3 < l4.toInt → Sg (SIx T_cR G) (k3 l1 l2 l3 l4 V)) {c_k61 : Int} (hk_k61 : ∀ (l1 : Nat) (l2 : Nat) (l3 : Int32) (l4 : Int32) (l5 : Int32) (l6 : Int32) (l7 : Int32) (l8 : Int32) (l9 : Int32) (V : sv_V), SIx T_cR G V → l1 ∈ [88, 89, 99, 100, 109, 110, 119, 120, 129, 130, 139, 140] → l2 ∈ [86, 87, 97, 98, 107, 108, 117, 118, 127, 128, 137, 138] → rg l3 (1) (2) → rg l4 (0) (19) → rg l5 (0) (100) → rg l6 (-99) (100) → rg l7 (-1) (199) → rg l8 (-100) (199) → rg l9 (1) (101) → l3.toInt < cap bo → l4.toInt < cap bo → l5.toInt < cap bo → l6.toInt < cap bo → (100 : Int) ≤ cap bo → OA bo l1 → OA bo l2 → l5.toInt + l6.toInt = (V.1 (bo + 1) l4.toNatClampNeg).toInt + 1 → l8.toInt < l5.toInt + l6.toInt → l7.toInt = -1 ∨ 0 ≤ l8.toInt → (l4.toInt = 0 ∧ l5.toInt = 0) ∨ (0 < l4.toInt ∧ l5.toInt = (V.1 (bo + 1) (l4 - (1 : Int32)).toNatClampNeg).toInt + 1) → c_k61 < l9.toInt → c_k3 ≤ l4.toInt → Sg (SIx T_cR G) (k61 l1 l2 l3 l4 l5 l6 l7 l8 l9 V)) {l1 : Nat} {l2 : Nat} {l3 : Int32} {l4 : Int32} {l5 : Int32} {l6 : Int32} {l7 : Int32} {l8 : Int32} {l9 : Int32} {V : sv_V} (hS_V : SIx T_cR G V) (m_l1 : l1 ∈ [88, 89, 99, 100, 109, 110, 119, 120, 129, 130, 139, 140]) (m_l2 : l2 ∈ [86, 87, 97, 98, 107, 108, 117, 118, 127, 128, 137, 138]) (r_l3 : rg l3 (1) (2)) (r_l4 : rg l4 (0) (19)) (r_l5 : rg l5 (0) (100)) (r_l6 : rg l6 (-99) (100)) (r_l7 : rg l7 (-1) (199)) (r_l8 : rg l8 (-100) (199)) (r_l9 : rg l9 (1) (101)) (cp_l3_bo : l3.toInt < cap bo) (cp_l4_bo : l4.toInt < cap bo) (cp_l5_bo : l5.toInt < cap bo) (cp_l6_bo : l6.toInt < cap bo) (cb : (100 : Int) ≤ cap bo) (oa_l1 : OA bo l1) (oa_l2 : OA bo l2) (an_0 : l5.toInt + l6.toInt = (V.1 (bo + 1) l4.toNatClampNeg).toInt + 1) (an_1 : l8.toInt < l5.toInt + l6.toInt) (an_2 : l7.toInt = -1 ∨ 0 ≤ l8.toInt) (an_3 : (l4.toInt = 0 ∧ l5.toInt = 0) ∨ (0 < l4.toInt ∧ l5.toInt = (V.1 (bo + 1) (l4 - (1 : Int32)).toNatClampNeg).toInt + 1)) (hc_k3 : c_k3 ≤ l4.toInt) (hc_k61 : c_k61 ≤ l9.toInt) : Sg (SIx T_cR G) (B_X5_fillUntouched_61 N k3 k61 l1 l2 l3 l4 l5 l6 l7 l8 l9 V) := by
  unfold B_X5_fillUntouched_61
  exact
    sf_ite (fun h_1 =>
    s_B_X5_fillUntouched_127_R hN hR hk_k3 hS_V m_l1 m_l2 r_l3 r_l4 cp_l3_bo cp_l4_bo cb oa_l1 oa_l2 hc_k3)
     (fun h_1 =>
    have f_3 := (rg_nel h_1 r_l7 (rg_c (x := (-1 : Int32)) (n := -1) rfl))
    sf_ite (fun h_4 =>
    s_B_X5_fillUntouched_127_R hN hR hk_k3 hS_V m_l1 m_l2 r_l3 r_l4 cp_l3_bo cp_l4_bo cb oa_l1 oa_l2 hc_k3)
     (fun h_4 =>
    have f_5 := (rg_hle (Int32.not_lt.mp h_4) r_l9 r_l6)
    have f_6 := (rg_lle (Int32.not_lt.mp h_4) r_l9 r_l6)
    sf_p (rg_nz1 f_6 (by decide)) <|
    sf_let fun x_7 q_8 =>
    have f_9 := rg_eq q_8 (rg_add r_l5 (rg_rem (x := ((l7 - l5) + l9)) (y := l6) (rg_add (rg_sub f_3 r_l5 (by decide) (by decide)) f_5 (by decide) (by decide)) f_6 (by decide)) (by decide) (by decide))
    sf_o (c := bo) (ref7 hS_V hR rfl) <|
    sf_p (lay_S hR.1 (by decide +kernel)) <|
    sf_crS (T := [90, 101, 111, 121, 131, 141]) hR.1 (by decide +kernel) fun b_10 m_12 q_11 =>
    sf_lenS (m := 0) m_12 (by decide +kernel) fun n_13 m_15 q_14 =>
    sf_p (in_cap2 (by have := (f_9).1; have := (f_9).2; have := congrArg Int32.toInt q_8; have := ((rg_add r_l5 (rg_rem (x := ((l7 - l5) + l9)) (y := l6) (rg_add (rg_sub f_3 r_l5 (by decide) (by decide)) f_5 (by decide) (by decide)) f_6 (by decide)) (by decide) (by decide))).1; have := ((rg_add r_l5 (rg_rem (x := ((l7 - l5) + l9)) (y := l6) (rg_add (rg_sub f_3 r_l5 (by decide) (by decide)) f_5 (by decide) (by decide)) f_6 (by decide)) (by decide) (by decide))).2; have := rg_tia r_l5 (rg_rem (x := ((l7 - l5) + l9)) (y := l6) (rg_add (rg_sub f_3 r_l5 (by decide) (by decide)) f_5 (by decide) (by decide)) f_6 (by decide)) (by decide) (by decide); have := (r_l5).1; have := (r_l5).2; have := ((rg_rem (x := ((l7 - l5) + l9)) (y := l6) (rg_add (rg_sub f_3 r_l5 (by decide) (by decide)) f_5 (by decide) (by decide)) f_6 (by decide))).1; have := ((rg_rem (x := ((l7 - l5) + l9)) (y := l6) (rg_add (rg_sub f_3 r_l5 (by decide) (by decide)) f_5 (by decide) (by decide)) f_6 (by decide))).2; have := rg_remb (rg_add (rg_sub f_3 r_l5 (by decide) (by decide)) f_5 (by decide) (by decide)) f_6 (by decide); have := ((rg_add (rg_sub f_3 r_l5 (by decide) (by decide)) f_5 (by decide) (by decide))).1; have := ((rg_add (rg_sub f_3 r_l5 (by decide) (by decide)) f_5 (by decide) (by decide))).2; have := rg_tia (rg_sub f_3 r_l5 (by decide) (by decide)) f_5 (by decide) (by decide); have := ((rg_sub f_3 r_l5 (by decide) (by decide))).1; have := ((rg_sub f_3 r_l5 (by decide) (by decide))).2; have := rg_tis f_3 r_l5 (by decide) (by decide); have := (f_3).1; have := (f_3).2; have := (f_5).1; have := (f_5).2; have := (f_6).1; have := (f_6).2; have := ne_ti h_1; have := Int32.le_iff_toInt_le.mp (Int32.not_lt.mp h_4); have := (r_l3).1; have := (r_l3).2; have := (r_l4).1; have := (r_l4).2; have := (r_l8).1; have := (r_l8).2; have := cb; have := ((hS_V.rdSa (k := l4.toNatClampNeg) (bo1_mem hR.1) rt_RcR_8394104114124134_0_99)).1; have := ((hS_V.rdSa (k := l4.toNatClampNeg) (bo1_mem hR.1) rt_RcR_8394104114124134_0_99)).2; have := an_0; have := an_1; have := an_2; have := ((hS_V.rdSa (k := (l4 - (1 : Int32)).toNatClampNeg) (bo1_mem hR.1) rt_RcR_8394104114124134_0_99)).1; have := ((hS_V.rdSa (k := (l4 - (1 : Int32)).toNatClampNeg) (bo1_mem hR.1) rt_RcR_8394104114124134_0_99)).2; have := an_3; have : (-1 : Int32).toInt = -1 := rfl; omega) (by have := (f_9).1; have := (f_9).2; have := congrArg Int32.toInt q_8; have := ((rg_add r_l5 (rg_rem (x := ((l7 - l5) + l9)) (y := l6) (rg_add (rg_sub f_3 r_l5 (by decide) (by decide)) f_5 (by decide) (by decide)) f_6 (by decide)) (by decide) (by decide))).1; have := ((rg_add r_l5 (rg_rem (x := ((l7 - l5) + l9)) (y := l6) (rg_add (rg_sub f_3 r_l5 (by decide) (by decide)) f_5 (by decide) (by decide)) f_6 (by decide)) (by decide) (by decide))).2; have := rg_tia r_l5 (rg_rem (x := ((l7 - l5) + l9)) (y := l6) (rg_add (rg_sub f_3 r_l5 (by decide) (by decide)) f_5 (by decide) (by decide)) f_6 (by decide)) (by decide) (by decide); have := (r_l5).1; have := (r_l5).2; have := ((rg_rem (x := ((l7 - l5) + l9)) (y := l6) (rg_add (rg_sub f_3 r_l5 (by decide) (by decide)) f_5 (by decide) (by decide)) f_6 (by decide))).1; have := ((rg_rem (x := ((l7 - l5) + l9)) (y := l6) (rg_add (rg_sub f_3 r_l5 (by decide) (by decide)) f_5 (by decide) (by decide)) f_6 (by decide))).2; have := rg_remb (rg_add (rg_sub f_3 r_l5 (by decide) (by decide)) f_5 (by decide) (by decide)) f_6 (by decide); have := ((rg_add (rg_sub f_3 r_l5 (by decide) (by decide)) f_5 (by decide) (by decide))).1; have := ((rg_add (rg_sub f_3 r_l5 (by decide) (by decide)) f_5 (by decide) (by decide))).2; have := rg_tia (rg_sub f_3 r_l5 (by decide) (by decide)) f_5 (by decide) (by decide); have := ((rg_sub f_3 r_l5 (by decide) (by decide))).1; have := ((rg_sub f_3 r_l5 (by decide) (by decide))).2; have := rg_tis f_3 r_l5 (by decide) (by decide); have := (f_3).1; have := (f_3).2; have := (f_5).1; have := (f_5).2; have := (f_6).1; have := (f_6).2; have := ne_ti h_1; have := Int32.le_iff_toInt_le.mp (Int32.not_lt.mp h_4); have := (r_l3).1; have := (r_l3).2; have := (r_l4).1; have := (r_l4).2; have := (r_l8).1; have := (r_l8).2; have := cb; have := ((hS_V.rdSa (k := l4.toNatClampNeg) (bo1_mem hR.1) rt_RcR_8394104114124134_0_99)).1; have := ((hS_V.rdSa (k := l4.toNatClampNeg) (bo1_mem hR.1) rt_RcR_8394104114124134_0_99)).2; have := an_0; have := an_1; have := an_2; have := ((hS_V.rdSa (k := (l4 - (1 : Int32)).toNatClampNeg) (bo1_mem hR.1) rt_RcR_8394104114124134_0_99)).1; have := ((hS_V.rdSa (k := (l4 - (1 : Int32)).toNatClampNeg) (bo1_mem hR.1) rt_RcR_8394104114124134_0_99)).2; have := an_3; have : (-1 : Int32).toInt = -1 := rfl; omega) (cap_len (mem_of hR.1 (by decide)) q_11 q_14 (by decide))) <|
    sf_ite (fun h_16 =>
    have f_17 := (rg_eq h_16 (rg_c (x := (0 : Int32)) (n := 0) rfl))
    s_B_X5_fillUntouched_121_R hN hR hk_k3 hk_k61 hS_V m_l1 m_l2 r_l3 r_l4 r_l5 (rg_m f_6 (by decide) (by decide)) (rg_m f_3 (by decide) (by decide)) r_l8 (rg_m f_5 (by decide) (by decide)) cp_l3_bo cp_l4_bo cp_l5_bo cp_l6_bo (cap_le (Int32.not_lt.mp h_4) cp_l6_bo) cb oa_l1 oa_l2 (by have := (r_l3).1; have := (r_l3).2; have := (r_l4).1; have := (r_l4).2; have := (r_l5).1; have := (r_l5).2; have := (f_6).1; have := (f_6).2; have := (f_3).1; have := (f_3).2; have := (r_l8).1; have := (r_l8).2; have := (f_5).1; have := (f_5).2; have := ((hS_V.rdSa (k := l4.toNatClampNeg) (bo1_mem hR.1) rt_RcR_8394104114124134_0_99)).1; have := ((hS_V.rdSa (k := l4.toNatClampNeg) (bo1_mem hR.1) rt_RcR_8394104114124134_0_99)).2; have := ((hS_V.rdSa (k := (l4 - (1 : Int32)).toNatClampNeg) (bo1_mem hR.1) rt_RcR_8394104114124134_0_99)).1; have := ((hS_V.rdSa (k := (l4 - (1 : Int32)).toNatClampNeg) (bo1_mem hR.1) rt_RcR_8394104114124134_0_99)).2; have := ne_ti h_1; have := Int32.le_iff_toInt_le.mp (Int32.not_lt.mp h_4); have := congrArg Int32.toInt h_16; have := (f_17).1; have := (f_17).2; have := cb; have := an_0; have := an_1; have := an_2; have := an_3; have : (-1 : Int32).toInt = -1 := rfl; have : (0 : Int32).toInt = 0 := rfl; omega) (by have := (r_l3).1; have := (r_l3).2; have := (r_l4).1; have := (r_l4).2; have := (r_l5).1; have := (r_l5).2; have := (f_6).1; have := (f_6).2; have := (f_3).1; have := (f_3).2; have := (r_l8).1; have := (r_l8).2; have := (f_5).1; have := (f_5).2; have := ((hS_V.rdSa (k := l4.toNatClampNeg) (bo1_mem hR.1) rt_RcR_8394104114124134_0_99)).1; have := ((hS_V.rdSa (k := l4.toNatClampNeg) (bo1_mem hR.1) rt_RcR_8394104114124134_0_99)).2; have := ((hS_V.rdSa (k := (l4 - (1 : Int32)).toNatClampNeg) (bo1_mem hR.1) rt_RcR_8394104114124134_0_99)).1; have := ((hS_V.rdSa (k := (l4 - (1 : Int32)).toNatClampNeg) (bo1_mem hR.1) rt_RcR_8394104114124134_0_99)).2; have := ne_ti h_1; have := Int32.le_iff_toInt_le.mp (Int32.not_lt.mp h_4); have := congrArg Int32.toInt h_16; have := (f_17).1; have := (f_17).2; have := cb; have := an_0; have := an_1; have := an_2; have := an_3; have : (-1 : Int32).toInt = -1 := rfl; have : (0 : Int32).toInt = 0 := rfl; omega) (by have := (r_l3).1; have := (r_l3).2; have := (r_l4).1; have := (r_l4).2; have := (r_l5).1; have := (r_l5).2; have := (f_6).1; have := (f_6).2; have := (f_3).1; have := (f_3).2; have := (r_l8).1; have := (r_l8).2; have := (f_5).1; have := (f_5).2; have := ((hS_V.rdSa (k := l4.toNatClampNeg) (bo1_mem hR.1) rt_RcR_8394104114124134_0_99)).1; have := ((hS_V.rdSa (k := l4.toNatClampNeg) (bo1_mem hR.1) rt_RcR_8394104114124134_0_99)).2; have := ((hS_V.rdSa (k := (l4 - (1 : Int32)).toNatClampNeg) (bo1_mem hR.1) rt_RcR_8394104114124134_0_99)).1; have := ((hS_V.rdSa (k := (l4 - (1 : Int32)).toNatClampNeg) (bo1_mem hR.1) rt_RcR_8394104114124134_0_99)).2; have := ne_ti h_1; have := Int32.le_iff_toInt_le.mp (Int32.not_lt.mp h_4); have := congrArg Int32.toInt h_16; have := (f_17).1; have := (f_17).2; have := cb; have := an_0; have := an_1; have := an_2; have := an_3; have : (-1 : Int32).toInt = -1 := rfl; have : (0 : Int32).toInt = 0 := rfl; omega) (by have := (r_l3).1; have := (r_l3).2; have := (r_l4).1; have := (r_l4).2; have := (r_l5).1; have := (r_l5).2; have := (f_6).1; have := (f_6).2; have := (f_3).1; have := (f_3).2; have := (r_l8).1; have := (r_l8).2; have := (f_5).1; have := (f_5).2; have := ((hS_V.rdSa (k := l4.toNatClampNeg) (bo1_mem hR.1) rt_RcR_8394104114124134_0_99)).1; have := ((hS_V.rdSa (k := l4.toNatClampNeg) (bo1_mem hR.1) rt_RcR_8394104114124134_0_99)).2; have := ((hS_V.rdSa (k := (l4 - (1 : Int32)).toNatClampNeg) (bo1_mem hR.1) rt_RcR_8394104114124134_0_99)).1; have := ((hS_V.rdSa (k := (l4 - (1 : Int32)).toNatClampNeg) (bo1_mem hR.1) rt_RcR_8394104114124134_0_99)).2; have := ne_ti h_1; have := Int32.le_iff_toInt_le.mp (Int32.not_lt.mp h_4); have := congrArg Int32.toInt h_16; have := (f_17).1; have := (f_17).2; have := cb; have := an_0; have := an_1; have := an_2; have := an_3; have : (-1 : Int32).toInt = -1 := rfl; have : (0 : Int32).toInt = 0 := rfl; omega) hc_k3 hc_k61)
     (fun h_16 =>
    have f_18 := (rg_nel h_16 (rg_andr r_l3 (by decide)) (rg_c (x := (0 : Int32)) (n := 0) rfl))
    sf_eV (s_F_X5_fillBetween_R hN hR hS_V m_l1 m_l2 r_l8 (rg_m f_9 (by decide) (by decide)) r_l4 cp_l4_bo cb oa_l1 oa_l2 (by have := (r_l8).1; have := (r_l8).2; have := (f_9).1; have := (f_9).2; have := congrArg Int32.toInt q_8; have := ((rg_add r_l5 (rg_rem (x := ((l7 - l5) + l9)) (y := l6) (rg_add (rg_sub f_3 r_l5 (by decide) (by decide)) f_5 (by decide) (by decide)) f_6 (by decide)) (by decide) (by decide))).1; have := ((rg_add r_l5 (rg_rem (x := ((l7 - l5) + l9)) (y := l6) (rg_add (rg_sub f_3 r_l5 (by decide) (by decide)) f_5 (by decide) (by decide)) f_6 (by decide)) (by decide) (by decide))).2; have := rg_tia r_l5 (rg_rem (x := ((l7 - l5) + l9)) (y := l6) (rg_add (rg_sub f_3 r_l5 (by decide) (by decide)) f_5 (by decide) (by decide)) f_6 (by decide)) (by decide) (by decide); have := (r_l5).1; have := (r_l5).2; have := ((rg_rem (x := ((l7 - l5) + l9)) (y := l6) (rg_add (rg_sub f_3 r_l5 (by decide) (by decide)) f_5 (by decide) (by decide)) f_6 (by decide))).1; have := ((rg_rem (x := ((l7 - l5) + l9)) (y := l6) (rg_add (rg_sub f_3 r_l5 (by decide) (by decide)) f_5 (by decide) (by decide)) f_6 (by decide))).2; have := rg_remb (rg_add (rg_sub f_3 r_l5 (by decide) (by decide)) f_5 (by decide) (by decide)) f_6 (by decide); have := ((rg_add (rg_sub f_3 r_l5 (by decide) (by decide)) f_5 (by decide) (by decide))).1; have := ((rg_add (rg_sub f_3 r_l5 (by decide) (by decide)) f_5 (by decide) (by decide))).2; have := rg_tia (rg_sub f_3 r_l5 (by decide) (by decide)) f_5 (by decide) (by decide); have := ((rg_sub f_3 r_l5 (by decide) (by decide))).1; have := ((rg_sub f_3 r_l5 (by decide) (by decide))).2; have := rg_tis f_3 r_l5 (by decide) (by decide); have := (f_3).1; have := (f_3).2; have := (f_5).1; have := (f_5).2; have := (f_6).1; have := (f_6).2; have := (r_l4).1; have := (r_l4).2; have := ((hS_V.rdSa (k := l4.toNatClampNeg) (bo1_mem hR.1) rt_RcR_8394104114124134_0_99)).1; have := ((hS_V.rdSa (k := l4.toNatClampNeg) (bo1_mem hR.1) rt_RcR_8394104114124134_0_99)).2; have := ((hS_V.rdSa (k := (l4 - (1 : Int32)).toNatClampNeg) (bo1_mem hR.1) rt_RcR_8394104114124134_0_99)).1; have := ((hS_V.rdSa (k := (l4 - (1 : Int32)).toNatClampNeg) (bo1_mem hR.1) rt_RcR_8394104114124134_0_99)).2; have := ne_ti h_1; have := Int32.le_iff_toInt_le.mp (Int32.not_lt.mp h_4); have := ne_ti h_16; have := (f_18).1; have := (f_18).2; have := (r_l3).1; have := (r_l3).2; have := cb; have := an_0; have := an_1; have := an_2; have := an_3; have : (-1 : Int32).toInt = -1 := rfl; have : (0 : Int32).toInt = 0 := rfl; omega) (by have := (r_l8).1; have := (r_l8).2; have := (f_9).1; have := (f_9).2; have := congrArg Int32.toInt q_8; have := ((rg_add r_l5 (rg_rem (x := ((l7 - l5) + l9)) (y := l6) (rg_add (rg_sub f_3 r_l5 (by decide) (by decide)) f_5 (by decide) (by decide)) f_6 (by decide)) (by decide) (by decide))).1; have := ((rg_add r_l5 (rg_rem (x := ((l7 - l5) + l9)) (y := l6) (rg_add (rg_sub f_3 r_l5 (by decide) (by decide)) f_5 (by decide) (by decide)) f_6 (by decide)) (by decide) (by decide))).2; have := rg_tia r_l5 (rg_rem (x := ((l7 - l5) + l9)) (y := l6) (rg_add (rg_sub f_3 r_l5 (by decide) (by decide)) f_5 (by decide) (by decide)) f_6 (by decide)) (by decide) (by decide); have := (r_l5).1; have := (r_l5).2; have := ((rg_rem (x := ((l7 - l5) + l9)) (y := l6) (rg_add (rg_sub f_3 r_l5 (by decide) (by decide)) f_5 (by decide) (by decide)) f_6 (by decide))).1; have := ((rg_rem (x := ((l7 - l5) + l9)) (y := l6) (rg_add (rg_sub f_3 r_l5 (by decide) (by decide)) f_5 (by decide) (by decide)) f_6 (by decide))).2; have := rg_remb (rg_add (rg_sub f_3 r_l5 (by decide) (by decide)) f_5 (by decide) (by decide)) f_6 (by decide); have := ((rg_add (rg_sub f_3 r_l5 (by decide) (by decide)) f_5 (by decide) (by decide))).1; have := ((rg_add (rg_sub f_3 r_l5 (by decide) (by decide)) f_5 (by decide) (by decide))).2; have := rg_tia (rg_sub f_3 r_l5 (by decide) (by decide)) f_5 (by decide) (by decide); have := ((rg_sub f_3 r_l5 (by decide) (by decide))).1; have := ((rg_sub f_3 r_l5 (by decide) (by decide))).2; have := rg_tis f_3 r_l5 (by decide) (by decide); have := (f_3).1; have := (f_3).2; have := (f_5).1; have := (f_5).2; have := (f_6).1; have := (f_6).2; have := (r_l4).1; have := (r_l4).2; have := ((hS_V.rdSa (k := l4.toNatClampNeg) (bo1_mem hR.1) rt_RcR_8394104114124134_0_99)).1; have := ((hS_V.rdSa (k := l4.toNatClampNeg) (bo1_mem hR.1) rt_RcR_8394104114124134_0_99)).2; have := ((hS_V.rdSa (k := (l4 - (1 : Int32)).toNatClampNeg) (bo1_mem hR.1) rt_RcR_8394104114124134_0_99)).1; have := ((hS_V.rdSa (k := (l4 - (1 : Int32)).toNatClampNeg) (bo1_mem hR.1) rt_RcR_8394104114124134_0_99)).2; have := ne_ti h_1; have := Int32.le_iff_toInt_le.mp (Int32.not_lt.mp h_4); have := ne_ti h_16; have := (f_18).1; have := (f_18).2; have := (r_l3).1; have := (r_l3).2; have := cb; have := an_0; have := an_1; have := an_2; have := an_3; have : (-1 : Int32).toInt = -1 := rfl; have : (0 : Int32).toInt = 0 := rfl; omega) (by have := (r_l8).1; have := (r_l8).2; have := (f_9).1; have := (f_9).2; have := congrArg Int32.toInt q_8; have := ((rg_add r_l5 (rg_rem (x := ((l7 - l5) + l9)) (y := l6) (rg_add (rg_sub f_3 r_l5 (by decide) (by decide)) f_5 (by decide) (by decide)) f_6 (by decide)) (by decide) (by decide))).1; have := ((rg_add r_l5 (rg_rem (x := ((l7 - l5) + l9)) (y := l6) (rg_add (rg_sub f_3 r_l5 (by decide) (by decide)) f_5 (by decide) (by decide)) f_6 (by decide)) (by decide) (by decide))).2; have := rg_tia r_l5 (rg_rem (x := ((l7 - l5) + l9)) (y := l6) (rg_add (rg_sub f_3 r_l5 (by decide) (by decide)) f_5 (by decide) (by decide)) f_6 (by decide)) (by decide) (by decide); have := (r_l5).1; have := (r_l5).2; have := ((rg_rem (x := ((l7 - l5) + l9)) (y := l6) (rg_add (rg_sub f_3 r_l5 (by decide) (by decide)) f_5 (by decide) (by decide)) f_6 (by decide))).1; have := ((rg_rem (x := ((l7 - l5) + l9)) (y := l6) (rg_add (rg_sub f_3 r_l5 (by decide) (by decide)) f_5 (by decide) (by decide)) f_6 (by decide))).2; have := rg_remb (rg_add (rg_sub f_3 r_l5 (by decide) (by decide)) f_5 (by decide) (by decide)) f_6 (by decide); have := ((rg_add (rg_sub f_3 r_l5 (by decide) (by decide)) f_5 (by decide) (by decide))).1; have := ((rg_add (rg_sub f_3 r_l5 (by decide) (by decide)) f_5 (by decide) (by decide))).2; have := rg_tia (rg_sub f_3 r_l5 (by decide) (by decide)) f_5 (by decide) (by decide); have := ((rg_sub f_3 r_l5 (by decide) (by decide))).1; have := ((rg_sub f_3 r_l5 (by decide) (by decide))).2; have := rg_tis f_3 r_l5 (by decide) (by decide); have := (f_3).1; have := (f_3).2; have := (f_5).1; have := (f_5).2; have := (f_6).1; have := (f_6).2; have := (r_l4).1; have := (r_l4).2; have := ((hS_V.rdSa (k := l4.toNatClampNeg) (bo1_mem hR.1) rt_RcR_8394104114124134_0_99)).1; have := ((hS_V.rdSa (k := l4.toNatClampNeg) (bo1_mem hR.1) rt_RcR_8394104114124134_0_99)).2; have := ((hS_V.rdSa (k := (l4 - (1 : Int32)).toNatClampNeg) (bo1_mem hR.1) rt_RcR_8394104114124134_0_99)).1; have := ((hS_V.rdSa (k := (l4 - (1 : Int32)).toNatClampNeg) (bo1_mem hR.1) rt_RcR_8394104114124134_0_99)).2; have := ne_ti h_1; have := Int32.le_iff_toInt_le.mp (Int32.not_lt.mp h_4); have := ne_ti h_16; have := (f_18).1; have := (f_18).2; have := (r_l3).1; have := (r_l3).2; have := cb; have := an_0; have := an_1; have := an_2; have := an_3; have : (-1 : Int32).toInt = -1 := rfl; have : (0 : Int32).toInt = 0 := rfl; omega) (by have := (r_l8).1; have := (r_l8).2; have := (f_9).1; have := (f_9).2; have := congrArg Int32.toInt q_8; have := ((rg_add r_l5 (rg_rem (x := ((l7 - l5) + l9)) (y := l6) (rg_add (rg_sub f_3 r_l5 (by decide) (by decide)) f_5 (by decide) (by decide)) f_6 (by decide)) (by decide) (by decide))).1; have := ((rg_add r_l5 (rg_rem (x := ((l7 - l5) + l9)) (y := l6) (rg_add (rg_sub f_3 r_l5 (by decide) (by decide)) f_5 (by decide) (by decide)) f_6 (by decide)) (by decide) (by decide))).2; have := rg_tia r_l5 (rg_rem (x := ((l7 - l5) + l9)) (y := l6) (rg_add (rg_sub f_3 r_l5 (by decide) (by decide)) f_5 (by decide) (by decide)) f_6 (by decide)) (by decide) (by decide); have := (r_l5).1; have := (r_l5).2; have := ((rg_rem (x := ((l7 - l5) + l9)) (y := l6) (rg_add (rg_sub f_3 r_l5 (by decide) (by decide)) f_5 (by decide) (by decide)) f_6 (by decide))).1; have := ((rg_rem (x := ((l7 - l5) + l9)) (y := l6) (rg_add (rg_sub f_3 r_l5 (by decide) (by decide)) f_5 (by decide) (by decide)) f_6 (by decide))).2; have := rg_remb (rg_add (rg_sub f_3 r_l5 (by decide) (by decide)) f_5 (by decide) (by decide)) f_6 (by decide); have := ((rg_add (rg_sub f_3 r_l5 (by decide) (by decide)) f_5 (by decide) (by decide))).1; have := ((rg_add (rg_sub f_3 r_l5 (by decide) (by decide)) f_5 (by decide) (by decide))).2; have := rg_tia (rg_sub f_3 r_l5 (by decide) (by decide)) f_5 (by decide) (by decide); have := ((rg_sub f_3 r_l5 (by decide) (by decide))).1; have := ((rg_sub f_3 r_l5 (by decide) (by decide))).2; have := rg_tis f_3 r_l5 (by decide) (by decide); have := (f_3).1; have := (f_3).2; have := (f_5).1; have := (f_5).2; have := (f_6).1; have := (f_6).2; have := (r_l4).1; have := (r_l4).2; have := ((hS_V.rdSa (k := l4.toNatClampNeg) (bo1_mem hR.1) rt_RcR_8394104114124134_0_99)).1; have := ((hS_V.rdSa (k := l4.toNatClampNeg) (bo1_mem hR.1) rt_RcR_8394104114124134_0_99)).2; have := ((hS_V.rdSa (k := (l4 - (1 : Int32)).toNatClampNeg) (bo1_mem hR.1) rt_RcR_8394104114124134_0_99)).1; have := ((hS_V.rdSa (k := (l4 - (1 : Int32)).toNatClampNeg) (bo1_mem hR.1) rt_RcR_8394104114124134_0_99)).2; have := ne_ti h_1; have := Int32.le_iff_toInt_le.mp (Int32.not_lt.mp h_4); have := ne_ti h_16; have := (f_18).1; have := (f_18).2; have := (r_l3).1; have := (r_l3).2; have := cb; have := an_0; have := an_1; have := an_2; have := an_3; have : (-1 : Int32).toInt = -1 := rfl; have : (0 : Int32).toInt = 0 := rfl; omega) (by have := (r_l8).1; have := (r_l8).2; have := (f_9).1; have := (f_9).2; have := congrArg Int32.toInt q_8; have := ((rg_add r_l5 (rg_rem (x := ((l7 - l5) + l9)) (y := l6) (rg_add (rg_sub f_3 r_l5 (by decide) (by decide)) f_5 (by decide) (by decide)) f_6 (by decide)) (by decide) (by decide))).1; have := ((rg_add r_l5 (rg_rem (x := ((l7 - l5) + l9)) (y := l6) (rg_add (rg_sub f_3 r_l5 (by decide) (by decide)) f_5 (by decide) (by decide)) f_6 (by decide)) (by decide) (by decide))).2; have := rg_tia r_l5 (rg_rem (x := ((l7 - l5) + l9)) (y := l6) (rg_add (rg_sub f_3 r_l5 (by decide) (by decide)) f_5 (by decide) (by decide)) f_6 (by decide)) (by decide) (by decide); have := (r_l5).1; have := (r_l5).2; have := ((rg_rem (x := ((l7 - l5) + l9)) (y := l6) (rg_add (rg_sub f_3 r_l5 (by decide) (by decide)) f_5 (by decide) (by decide)) f_6 (by decide))).1; have := ((rg_rem (x := ((l7 - l5) + l9)) (y := l6) (rg_add (rg_sub f_3 r_l5 (by decide) (by decide)) f_5 (by decide) (by decide)) f_6 (by decide))).2; have := rg_remb (rg_add (rg_sub f_3 r_l5 (by decide) (by decide)) f_5 (by decide) (by decide)) f_6 (by decide); have := ((rg_add (rg_sub f_3 r_l5 (by decide) (by decide)) f_5 (by decide) (by decide))).1; have := ((rg_add (rg_sub f_3 r_l5 (by decide) (by decide)) f_5 (by decide) (by decide))).2; have := rg_tia (rg_sub f_3 r_l5 (by decide) (by decide)) f_5 (by decide) (by decide); have := ((rg_sub f_3 r_l5 (by decide) (by decide))).1; have := ((rg_sub f_3 r_l5 (by decide) (by decide))).2; have := rg_tis f_3 r_l5 (by decide) (by decide); have := (f_3).1; have := (f_3).2; have := (f_5).1; have := (f_5).2; have := (f_6).1; have := (f_6).2; have := (r_l4).1; have := (r_l4).2; have := ((hS_V.rdSa (k := l4.toNatClampNeg) (bo1_mem hR.1) rt_RcR_8394104114124134_0_99)).1; have := ((hS_V.rdSa (k := l4.toNatClampNeg) (bo1_mem hR.1) rt_RcR_8394104114124134_0_99)).2; have := ((hS_V.rdSa (k := (l4 - (1 : Int32)).toNatClampNeg) (bo1_mem hR.1) rt_RcR_8394104114124134_0_99)).1; have := ((hS_V.rdSa (k := (l4 - (1 : Int32)).toNatClampNeg) (bo1_mem hR.1) rt_RcR_8394104114124134_0_99)).2; have := ne_ti h_1; have := Int32.le_iff_toInt_le.mp (Int32.not_lt.mp h_4); have := ne_ti h_16; have := (f_18).1; have := (f_18).2; have := (r_l3).1; have := (r_l3).2; have := cb; have := an_0; have := an_1; have := an_2; have := an_3; have : (-1 : Int32).toInt = -1 := rfl; have : (0 : Int32).toInt = 0 := rfl; omega) (by have := (r_l8).1; have := (r_l8).2; have := (f_9).1; have := (f_9).2; have := congrArg Int32.toInt q_8; have := ((rg_add r_l5 (rg_rem (x := ((l7 - l5) + l9)) (y := l6) (rg_add (rg_sub f_3 r_l5 (by decide) (by decide)) f_5 (by decide) (by decide)) f_6 (by decide)) (by decide) (by decide))).1; have := ((rg_add r_l5 (rg_rem (x := ((l7 - l5) + l9)) (y := l6) (rg_add (rg_sub f_3 r_l5 (by decide) (by decide)) f_5 (by decide) (by decide)) f_6 (by decide)) (by decide) (by decide))).2; have := rg_tia r_l5 (rg_rem (x := ((l7 - l5) + l9)) (y := l6) (rg_add (rg_sub f_3 r_l5 (by decide) (by decide)) f_5 (by decide) (by decide)) f_6 (by decide)) (by decide) (by decide); have := (r_l5).1; have := (r_l5).2; have := ((rg_rem (x := ((l7 - l5) + l9)) (y := l6) (rg_add (rg_sub f_3 r_l5 (by decide) (by decide)) f_5 (by decide) (by decide)) f_6 (by decide))).1; have := ((rg_rem (x := ((l7 - l5) + l9)) (y := l6) (rg_add (rg_sub f_3 r_l5 (by decide) (by decide)) f_5 (by decide) (by decide)) f_6 (by decide))).2; have := rg_remb (rg_add (rg_sub f_3 r_l5 (by decide) (by decide)) f_5 (by decide) (by decide)) f_6 (by decide); have := ((rg_add (rg_sub f_3 r_l5 (by decide) (by decide)) f_5 (by decide) (by decide))).1; have := ((rg_add (rg_sub f_3 r_l5 (by decide) (by decide)) f_5 (by decide) (by decide))).2; have := rg_tia (rg_sub f_3 r_l5 (by decide) (by decide)) f_5 (by decide) (by decide); have := ((rg_sub f_3 r_l5 (by decide) (by decide))).1; have := ((rg_sub f_3 r_l5 (by decide) (by decide))).2; have := rg_tis f_3 r_l5 (by decide) (by decide); have := (f_3).1; have := (f_3).2; have := (f_5).1; have := (f_5).2; have := (f_6).1; have := (f_6).2; have := (r_l4).1; have := (r_l4).2; have := ((hS_V.rdSa (k := l4.toNatClampNeg) (bo1_mem hR.1) rt_RcR_8394104114124134_0_99)).1; have := ((hS_V.rdSa (k := l4.toNatClampNeg) (bo1_mem hR.1) rt_RcR_8394104114124134_0_99)).2; have := ((hS_V.rdSa (k := (l4 - (1 : Int32)).toNatClampNeg) (bo1_mem hR.1) rt_RcR_8394104114124134_0_99)).1; have := ((hS_V.rdSa (k := (l4 - (1 : Int32)).toNatClampNeg) (bo1_mem hR.1) rt_RcR_8394104114124134_0_99)).2; have := ne_ti h_1; have := Int32.le_iff_toInt_le.mp (Int32.not_lt.mp h_4); have := ne_ti h_16; have := (f_18).1; have := (f_18).2; have := (r_l3).1; have := (r_l3).2; have := cb; have := an_0; have := an_1; have := an_2; have := an_3; have : (-1 : Int32).toInt = -1 := rfl; have : (0 : Int32).toInt = 0 := rfl; omega)) fun V_19 e_20 hS_V_19 =>
    have f_21 := m_X5_fillBetween (Lm := [(86, none), (87, none), (97, none), (98, none), (107, none), (108, none), (117, none), (118, none), (127, none), (128, none), (137, none), (138, none)]) (sv_sub_rf.sub (by decide +kernel)) (fun k => hit_S (L := [86, 87, 97, 98, 107, 108, 117, 118, 127, 128, 137, 138]) m_l2 k rfl) e_20
    s_B_X5_fillUntouched_121_R hN hR hk_k3 hk_k61 hS_V_19 m_l1 m_l2 r_l3 r_l4 r_l5 (rg_m f_6 (by decide) (by decide)) (rg_m f_3 (by decide) (by decide)) (rg_m f_9 (by decide) (by decide)) (rg_m f_5 (by decide) (by decide)) cp_l3_bo cp_l4_bo cp_l5_bo cp_l6_bo (cap_le (Int32.not_lt.mp h_4) cp_l6_bo) cb oa_l1 oa_l2 (by have := (r_l3).1; have := (r_l3).2; have := (r_l4).1; have := (r_l4).2; have := (r_l5).1; have := (r_l5).2; have := (f_6).1; have := (f_6).2; have := (f_3).1; have := (f_3).2; have := (f_9).1; have := (f_9).2; have := congrArg Int32.toInt q_8; have := ((rg_add r_l5 (rg_rem (x := ((l7 - l5) + l9)) (y := l6) (rg_add (rg_sub f_3 r_l5 (by decide) (by decide)) f_5 (by decide) (by decide)) f_6 (by decide)) (by decide) (by decide))).1; have := ((rg_add r_l5 (rg_rem (x := ((l7 - l5) + l9)) (y := l6) (rg_add (rg_sub f_3 r_l5 (by decide) (by decide)) f_5 (by decide) (by decide)) f_6 (by decide)) (by decide) (by decide))).2; have := rg_tia r_l5 (rg_rem (x := ((l7 - l5) + l9)) (y := l6) (rg_add (rg_sub f_3 r_l5 (by decide) (by decide)) f_5 (by decide) (by decide)) f_6 (by decide)) (by decide) (by decide); have := ((rg_rem (x := ((l7 - l5) + l9)) (y := l6) (rg_add (rg_sub f_3 r_l5 (by decide) (by decide)) f_5 (by decide) (by decide)) f_6 (by decide))).1; have := ((rg_rem (x := ((l7 - l5) + l9)) (y := l6) (rg_add (rg_sub f_3 r_l5 (by decide) (by decide)) f_5 (by decide) (by decide)) f_6 (by decide))).2; have := rg_remb (rg_add (rg_sub f_3 r_l5 (by decide) (by decide)) f_5 (by decide) (by decide)) f_6 (by decide); have := ((rg_add (rg_sub f_3 r_l5 (by decide) (by decide)) f_5 (by decide) (by decide))).1; have := ((rg_add (rg_sub f_3 r_l5 (by decide) (by decide)) f_5 (by decide) (by decide))).2; have := rg_tia (rg_sub f_3 r_l5 (by decide) (by decide)) f_5 (by decide) (by decide); have := ((rg_sub f_3 r_l5 (by decide) (by decide))).1; have := ((rg_sub f_3 r_l5 (by decide) (by decide))).2; have := rg_tis f_3 r_l5 (by decide) (by decide); have := (f_5).1; have := (f_5).2; have := ((hS_V_19.rdSa (k := l4.toNatClampNeg) (bo1_mem hR.1) rt_RcR_8394104114124134_0_99)).1; have := ((hS_V_19.rdSa (k := l4.toNatClampNeg) (bo1_mem hR.1) rt_RcR_8394104114124134_0_99)).2; have := congrArg Int32.toInt (rd_frS (L := [83, 94, 104, 114, 124, 134]) (a := (bo + 1)) (k := l4.toNatClampNeg) f_21 (bo1_mem hR.1) rfl); have := ((hS_V.rdSa (k := l4.toNatClampNeg) (bo1_mem hR.1) rt_RcR_8394104114124134_0_99)).1; have := ((hS_V.rdSa (k := l4.toNatClampNeg) (bo1_mem hR.1) rt_RcR_8394104114124134_0_99)).2; have := ((hS_V_19.rdSa (k := (l4 - (1 : Int32)).toNatClampNeg) (bo1_mem hR.1) rt_RcR_8394104114124134_0_99)).1; have := ((hS_V_19.rdSa (k := (l4 - (1 : Int32)).toNatClampNeg) (bo1_mem hR.1) rt_RcR_8394104114124134_0_99)).2; have := congrArg Int32.toInt (rd_frS (L := [83, 94, 104, 114, 124, 134]) (a := (bo + 1)) (k := (l4 - (1 : Int32)).toNatClampNeg) f_21 (bo1_mem hR.1) rfl); have := ((hS_V.rdSa (k := (l4 - (1 : Int32)).toNatClampNeg) (bo1_mem hR.1) rt_RcR_8394104114124134_0_99)).1; have := ((hS_V.rdSa (k := (l4 - (1 : Int32)).toNatClampNeg) (bo1_mem hR.1) rt_RcR_8394104114124134_0_99)).2; have := ne_ti h_1; have := Int32.le_iff_toInt_le.mp (Int32.not_lt.mp h_4); have := ne_ti h_16; have := (f_18).1; have := (f_18).2; have := (r_l8).1; have := (r_l8).2; have := cb; have := an_0; have := an_1; have := an_2; have := an_3; have : (-1 : Int32).toInt = -1 := rfl; have : (0 : Int32).toInt = 0 := rfl; omega) (by have := (r_l3).1; have := (r_l3).2; have := (r_l4).1; have := (r_l4).2; have := (r_l5).1; have := (r_l5).2; have := (f_6).1; have := (f_6).2; have := (f_3).1; have := (f_3).2; have := (f_9).1; have := (f_9).2; have := congrArg Int32.toInt q_8; have := ((rg_add r_l5 (rg_rem (x := ((l7 - l5) + l9)) (y := l6) (rg_add (rg_sub f_3 r_l5 (by decide) (by decide)) f_5 (by decide) (by decide)) f_6 (by decide)) (by decide) (by decide))).1; have := ((rg_add r_l5 (rg_rem (x := ((l7 - l5) + l9)) (y := l6) (rg_add (rg_sub f_3 r_l5 (by decide) (by decide)) f_5 (by decide) (by decide)) f_6 (by decide)) (by decide) (by decide))).2; have := rg_tia r_l5 (rg_rem (x := ((l7 - l5) + l9)) (y := l6) (rg_add (rg_sub f_3 r_l5 (by decide) (by decide)) f_5 (by decide) (by decide)) f_6 (by decide)) (by decide) (by decide); have := ((rg_rem (x := ((l7 - l5) + l9)) (y := l6) (rg_add (rg_sub f_3 r_l5 (by decide) (by decide)) f_5 (by decide) (by decide)) f_6 (by decide))).1; have := ((rg_rem (x := ((l7 - l5) + l9)) (y := l6) (rg_add (rg_sub f_3 r_l5 (by decide) (by decide)) f_5 (by decide) (by decide)) f_6 (by decide))).2; have := rg_remb (rg_add (rg_sub f_3 r_l5 (by decide) (by decide)) f_5 (by decide) (by decide)) f_6 (by decide); have := ((rg_add (rg_sub f_3 r_l5 (by decide) (by decide)) f_5 (by decide) (by decide))).1; have := ((rg_add (rg_sub f_3 r_l5 (by decide) (by decide)) f_5 (by decide) (by decide))).2; have := rg_tia (rg_sub f_3 r_l5 (by decide) (by decide)) f_5 (by decide) (by decide); have := ((rg_sub f_3 r_l5 (by decide) (by decide))).1; have := ((rg_sub f_3 r_l5 (by decide) (by decide))).2; have := rg_tis f_3 r_l5 (by decide) (by decide); have := (f_5).1; have := (f_5).2; have := ((hS_V_19.rdSa (k := l4.toNatClampNeg) (bo1_mem hR.1) rt_RcR_8394104114124134_0_99)).1; have := ((hS_V_19.rdSa (k := l4.toNatClampNeg) (bo1_mem hR.1) rt_RcR_8394104114124134_0_99)).2; have := congrArg Int32.toInt (rd_frS (L := [83, 94, 104, 114, 124, 134]) (a := (bo + 1)) (k := l4.toNatClampNeg) f_21 (bo1_mem hR.1) rfl); have := ((hS_V.rdSa (k := l4.toNatClampNeg) (bo1_mem hR.1) rt_RcR_8394104114124134_0_99)).1; have := ((hS_V.rdSa (k := l4.toNatClampNeg) (bo1_mem hR.1) rt_RcR_8394104114124134_0_99)).2; have := ((hS_V_19.rdSa (k := (l4 - (1 : Int32)).toNatClampNeg) (bo1_mem hR.1) rt_RcR_8394104114124134_0_99)).1; have := ((hS_V_19.rdSa (k := (l4 - (1 : Int32)).toNatClampNeg) (bo1_mem hR.1) rt_RcR_8394104114124134_0_99)).2; have := congrArg Int32.toInt (rd_frS (L := [83, 94, 104, 114, 124, 134]) (a := (bo + 1)) (k := (l4 - (1 : Int32)).toNatClampNeg) f_21 (bo1_mem hR.1) rfl); have := ((hS_V.rdSa (k := (l4 - (1 : Int32)).toNatClampNeg) (bo1_mem hR.1) rt_RcR_8394104114124134_0_99)).1; have := ((hS_V.rdSa (k := (l4 - (1 : Int32)).toNatClampNeg) (bo1_mem hR.1) rt_RcR_8394104114124134_0_99)).2; have := ne_ti h_1; have := Int32.le_iff_toInt_le.mp (Int32.not_lt.mp h_4); have := ne_ti h_16; have := (f_18).1; have := (f_18).2; have := (r_l8).1; have := (r_l8).2; have := cb; have := an_0; have := an_1; have := an_2; have := an_3; have : (-1 : Int32).toInt = -1 := rfl; have : (0 : Int32).toInt = 0 := rfl; omega) (by have := (r_l3).1; have := (r_l3).2; have := (r_l4).1; have := (r_l4).2; have := (r_l5).1; have := (r_l5).2; have := (f_6).1; have := (f_6).2; have := (f_3).1; have := (f_3).2; have := (f_9).1; have := (f_9).2; have := congrArg Int32.toInt q_8; have := ((rg_add r_l5 (rg_rem (x := ((l7 - l5) + l9)) (y := l6) (rg_add (rg_sub f_3 r_l5 (by decide) (by decide)) f_5 (by decide) (by decide)) f_6 (by decide)) (by decide) (by decide))).1; have := ((rg_add r_l5 (rg_rem (x := ((l7 - l5) + l9)) (y := l6) (rg_add (rg_sub f_3 r_l5 (by decide) (by decide)) f_5 (by decide) (by decide)) f_6 (by decide)) (by decide) (by decide))).2; have := rg_tia r_l5 (rg_rem (x := ((l7 - l5) + l9)) (y := l6) (rg_add (rg_sub f_3 r_l5 (by decide) (by decide)) f_5 (by decide) (by decide)) f_6 (by decide)) (by decide) (by decide); have := ((rg_rem (x := ((l7 - l5) + l9)) (y := l6) (rg_add (rg_sub f_3 r_l5 (by decide) (by decide)) f_5 (by decide) (by decide)) f_6 (by decide))).1; have := ((rg_rem (x := ((l7 - l5) + l9)) (y := l6) (rg_add (rg_sub f_3 r_l5 (by decide) (by decide)) f_5 (by decide) (by decide)) f_6 (by decide))).2; have := rg_remb (rg_add (rg_sub f_3 r_l5 (by decide) (by decide)) f_5 (by decide) (by decide)) f_6 (by decide); have := ((rg_add (rg_sub f_3 r_l5 (by decide) (by decide)) f_5 (by decide) (by decide))).1; have := ((rg_add (rg_sub f_3 r_l5 (by decide) (by decide)) f_5 (by decide) (by decide))).2; have := rg_tia (rg_sub f_3 r_l5 (by decide) (by decide)) f_5 (by decide) (by decide); have := ((rg_sub f_3 r_l5 (by decide) (by decide))).1; have := ((rg_sub f_3 r_l5 (by decide) (by decide))).2; have := rg_tis f_3 r_l5 (by decide) (by decide); have := (f_5).1; have := (f_5).2; have := ((hS_V_19.rdSa (k := l4.toNatClampNeg) (bo1_mem hR.1) rt_RcR_8394104114124134_0_99)).1; have := ((hS_V_19.rdSa (k := l4.toNatClampNeg) (bo1_mem hR.1) rt_RcR_8394104114124134_0_99)).2; have := congrArg Int32.toInt (rd_frS (L := [83, 94, 104, 114, 124, 134]) (a := (bo + 1)) (k := l4.toNatClampNeg) f_21 (bo1_mem hR.1) rfl); have := ((hS_V.rdSa (k := l4.toNatClampNeg) (bo1_mem hR.1) rt_RcR_8394104114124134_0_99)).1; have := ((hS_V.rdSa (k := l4.toNatClampNeg) (bo1_mem hR.1) rt_RcR_8394104114124134_0_99)).2; have := ((hS_V_19.rdSa (k := (l4 - (1 : Int32)).toNatClampNeg) (bo1_mem hR.1) rt_RcR_8394104114124134_0_99)).1; have := ((hS_V_19.rdSa (k := (l4 - (1 : Int32)).toNatClampNeg) (bo1_mem hR.1) rt_RcR_8394104114124134_0_99)).2; have := congrArg Int32.toInt (rd_frS (L := [83, 94, 104, 114, 124, 134]) (a := (bo + 1)) (k := (l4 - (1 : Int32)).toNatClampNeg) f_21 (bo1_mem hR.1) rfl); have := ((hS_V.rdSa (k := (l4 - (1 : Int32)).toNatClampNeg) (bo1_mem hR.1) rt_RcR_8394104114124134_0_99)).1; have := ((hS_V.rdSa (k := (l4 - (1 : Int32)).toNatClampNeg) (bo1_mem hR.1) rt_RcR_8394104114124134_0_99)).2; have := ne_ti h_1; have := Int32.le_iff_toInt_le.mp (Int32.not_lt.mp h_4); have := ne_ti h_16; have := (f_18).1; have := (f_18).2; have := (r_l8).1; have := (r_l8).2; have := cb; have := an_0; have := an_1; have := an_2; have := an_3; have : (-1 : Int32).toInt = -1 := rfl; have : (0 : Int32).toInt = 0 := rfl; omega) (by have := (r_l3).1; have := (r_l3).2; have := (r_l4).1; have := (r_l4).2; have := (r_l5).1; have := (r_l5).2; have := (f_6).1; have := (f_6).2; have := (f_3).1; have := (f_3).2; have := (f_9).1; have := (f_9).2; have := congrArg Int32.toInt q_8; have := ((rg_add r_l5 (rg_rem (x := ((l7 - l5) + l9)) (y := l6) (rg_add (rg_sub f_3 r_l5 (by decide) (by decide)) f_5 (by decide) (by decide)) f_6 (by decide)) (by decide) (by decide))).1; have := ((rg_add r_l5 (rg_rem (x := ((l7 - l5) + l9)) (y := l6) (rg_add (rg_sub f_3 r_l5 (by decide) (by decide)) f_5 (by decide) (by decide)) f_6 (by decide)) (by decide) (by decide))).2; have := rg_tia r_l5 (rg_rem (x := ((l7 - l5) + l9)) (y := l6) (rg_add (rg_sub f_3 r_l5 (by decide) (by decide)) f_5 (by decide) (by decide)) f_6 (by decide)) (by decide) (by decide); have := ((rg_rem (x := ((l7 - l5) + l9)) (y := l6) (rg_add (rg_sub f_3 r_l5 (by decide) (by decide)) f_5 (by decide) (by decide)) f_6 (by decide))).1; have := ((rg_rem (x := ((l7 - l5) + l9)) (y := l6) (rg_add (rg_sub f_3 r_l5 (by decide) (by decide)) f_5 (by decide) (by decide)) f_6 (by decide))).2; have := rg_remb (rg_add (rg_sub f_3 r_l5 (by decide) (by decide)) f_5 (by decide) (by decide)) f_6 (by decide); have := ((rg_add (rg_sub f_3 r_l5 (by decide) (by decide)) f_5 (by decide) (by decide))).1; have := ((rg_add (rg_sub f_3 r_l5 (by decide) (by decide)) f_5 (by decide) (by decide))).2; have := rg_tia (rg_sub f_3 r_l5 (by decide) (by decide)) f_5 (by decide) (by decide); have := ((rg_sub f_3 r_l5 (by decide) (by decide))).1; have := ((rg_sub f_3 r_l5 (by decide) (by decide))).2; have := rg_tis f_3 r_l5 (by decide) (by decide); have := (f_5).1; have := (f_5).2; have := ((hS_V_19.rdSa (k := l4.toNatClampNeg) (bo1_mem hR.1) rt_RcR_8394104114124134_0_99)).1; have := ((hS_V_19.rdSa (k := l4.toNatClampNeg) (bo1_mem hR.1) rt_RcR_8394104114124134_0_99)).2; have := congrArg Int32.toInt (rd_frS (L := [83, 94, 104, 114, 124, 134]) (a := (bo + 1)) (k := l4.toNatClampNeg) f_21 (bo1_mem hR.1) rfl); have := ((hS_V.rdSa (k := l4.toNatClampNeg) (bo1_mem hR.1) rt_RcR_8394104114124134_0_99)).1; have := ((hS_V.rdSa (k := l4.toNatClampNeg) (bo1_mem hR.1) rt_RcR_8394104114124134_0_99)).2; have := ((hS_V_19.rdSa (k := (l4 - (1 : Int32)).toNatClampNeg) (bo1_mem hR.1) rt_RcR_8394104114124134_0_99)).1; have := ((hS_V_19.rdSa (k := (l4 - (1 : Int32)).toNatClampNeg) (bo1_mem hR.1) rt_RcR_8394104114124134_0_99)).2; have := congrArg Int32.toInt (rd_frS (L := [83, 94, 104, 114, 124, 134]) (a := (bo + 1)) (k := (l4 - (1 : Int32)).toNatClampNeg) f_21 (bo1_mem hR.1) rfl); have := ((hS_V.rdSa (k := (l4 - (1 : Int32)).toNatClampNeg) (bo1_mem hR.1) rt_RcR_8394104114124134_0_99)).1; have := ((hS_V.rdSa (k := (l4 - (1 : Int32)).toNatClampNeg) (bo1_mem hR.1) rt_RcR_8394104114124134_0_99)).2; have := ne_ti h_1; have := Int32.le_iff_toInt_le.mp (Int32.not_lt.mp h_4); have := ne_ti h_16; have := (f_18).1; have := (f_18).2; have := (r_l8).1; have := (r_l8).2; have := cb; have := an_0; have := an_1; have := an_2; have := an_3; have : (-1 : Int32).toInt = -1 := rfl; have : (0 : Int32).toInt = 0 := rfl; omega) hc_k3 hc_k61)))
theorem s_B_X5_fillUntouched_3_R {G : sv_V} {N : Nat} (hN : 8589934592 ≤ N) {bo bm : Nat} (hR : RefsOf G bo bm) {k3 : Nat → Nat → Int32 → Int32 → sv_V → Option sv_V} {c_k3 : Int} (hk_k3 : ∀ (l1 : Nat) (l2 : Nat) (l3 : Int32) (l4 : Int32) (V : sv_V), SIx T_cR G V → l1 ∈ [88, 89, 99, 100, 109, 110, 119, 120, 129, 130, 139, 140] → l2 ∈ [86, 87, 97, 98, 107, 108, 117, 118, 127, 128, 137, 138] → rg l3 (1) (2) → rg l4 (0) (20) → OA bo l1 → OA bo l2 → c_k3 < l4.toInt → Sg (SIx T_cR G) (k3 l1 l2 l3 l4 V)) {l1 : Nat} {l2 : Nat} {l3 : Int32} {l4 : Int32} {V : sv_V} (hS_V : SIx T_cR G V) (m_l1 : l1 ∈ [88, 89, 99, 100, 109, 110, 119, 120, 129, 130, 139, 140]) (m_l2 : l2 ∈ [86, 87, 97, 98, 107, 108, 117, 118, 127, 128, 137, 138]) (r_l3 : rg l3 (1) (2)) (r_l4 : rg l4 (0) (20)) (oa_l1 : OA bo l1) (oa_l2 : OA bo l2) (hc_k3 : c_k3 ≤ l4.toInt) : Sg (SIx T_cR G) (B_X5_fillUntouched_3 N k3 l1 l2 l3 l4 V) := by
  unfold B_X5_fillUntouched_3
  exact
    sf_o (c := bo) (ref7 hS_V hR rfl) <|
    sf_p (lay_S hR.1 (by decide +kernel)) <|
    sf_ite (fun h_1 =>
    sf_sV hS_V)
     (fun h_1 =>
    have f_2 := (rg_hlt (Int32.not_le.mp h_1) r_l4 (hS_V.rdS hR.1 rs_RcR_8293103113123133_10_0_20))
    have f_3 := (rg_llt (Int32.not_le.mp h_1) r_l4 (hS_V.rdS hR.1 rs_RcR_8293103113123133_10_0_20))
    have f_4 := (hS_V.cut (M := [93, 103, 113, 123, 133]) hR.1 f_3 (by decide +kernel))
    sf_o (c := bo) (ref7 hS_V hR rfl) <|
    sf_iteb (fun h_10 =>
    have f_11 := (rg_eq h_10 (rg_c (x := (0 : Int32)) (n := 0) rfl))
    sf_someb <|
    sf_p (lay_S f_4 (by decide +kernel)) <|
    sf_o (c := bo) (ref7 hS_V hR rfl) <|
    sf_p (lay_S f_4 (by decide +kernel)) <|
    sf_o (c := bo + 1) (cr6_bo hR.1) <|
    sf_lenE (n := 20) (bo1_mem hR.1) (by decide +kernel) <|
    sf_p (in_rg f_11 (by decide) (by decide)) <|
    sf_let fun x_13 q_14 =>
    have f_15 := rg_eq q_14 (rg_add (rg_sub (hS_V.rdSa (k := l4.toNatClampNeg) (bo1_mem hR.1) rt_RcR_8394104114124134_0_99) (rg_c (x := (0 : Int32)) (n := 0) rfl) (by decide) (by decide)) (rg_c (x := (1 : Int32)) (n := 1) rfl) (by decide) (by decide))
    sf_yI (s_F_X5_firstTouched_R hN hR (A_ := (0 : Int32).toInt + x_13.toInt) hS_V (rg_m (rg_c (x := (0 : Int32)) (n := 0) rfl) (by decide) (by decide)) (rg_m f_15 (by decide) (by decide)) r_l3 (cap_S f_4 (by decide) (rg_c (x := (0 : Int32)) (n := 0) rfl)) (cap_S f_4 (by decide) f_15) (cap_S f_4 (by decide) r_l3) (by have := (f_15).1; have := (f_15).2; have := congrArg Int32.toInt q_14; have := ((rg_add (rg_sub (hS_V.rdSa (k := l4.toNatClampNeg) (bo1_mem hR.1) rt_RcR_8394104114124134_0_99) (rg_c (x := (0 : Int32)) (n := 0) rfl) (by decide) (by decide)) (rg_c (x := (1 : Int32)) (n := 1) rfl) (by decide) (by decide))).1; have := ((rg_add (rg_sub (hS_V.rdSa (k := l4.toNatClampNeg) (bo1_mem hR.1) rt_RcR_8394104114124134_0_99) (rg_c (x := (0 : Int32)) (n := 0) rfl) (by decide) (by decide)) (rg_c (x := (1 : Int32)) (n := 1) rfl) (by decide) (by decide))).2; have := rg_tia (rg_sub (hS_V.rdSa (k := l4.toNatClampNeg) (bo1_mem hR.1) rt_RcR_8394104114124134_0_99) (rg_c (x := (0 : Int32)) (n := 0) rfl) (by decide) (by decide)) (rg_c (x := (1 : Int32)) (n := 1) rfl) (by decide) (by decide); have := ((rg_sub (hS_V.rdSa (k := l4.toNatClampNeg) (bo1_mem hR.1) rt_RcR_8394104114124134_0_99) (rg_c (x := (0 : Int32)) (n := 0) rfl) (by decide) (by decide))).1; have := ((rg_sub (hS_V.rdSa (k := l4.toNatClampNeg) (bo1_mem hR.1) rt_RcR_8394104114124134_0_99) (rg_c (x := (0 : Int32)) (n := 0) rfl) (by decide) (by decide))).2; have := rg_tis (hS_V.rdSa (k := l4.toNatClampNeg) (bo1_mem hR.1) rt_RcR_8394104114124134_0_99) (rg_c (x := (0 : Int32)) (n := 0) rfl) (by decide) (by decide); have := ((hS_V.rdSa (k := l4.toNatClampNeg) (bo1_mem hR.1) rt_RcR_8394104114124134_0_99)).1; have := ((hS_V.rdSa (k := l4.toNatClampNeg) (bo1_mem hR.1) rt_RcR_8394104114124134_0_99)).2; have := (r_l3).1; have := (r_l3).2; have := Int32.lt_iff_toInt_lt.mp (Int32.not_le.mp h_1); have := (f_11).1; have := (f_11).2; have := (f_3).1; have := (f_3).2; have := congrArg Int32.toInt h_10; have : (0 : Int32).toInt = 0 := rfl; have : (1 : Int32).toInt = 1 := rfl; omega) (cap_mn f_4 (by decide)) (by have := (f_15).1; have := (f_15).2; have := congrArg Int32.toInt q_14; have := ((rg_add (rg_sub (hS_V.rdSa (k := l4.toNatClampNeg) (bo1_mem hR.1) rt_RcR_8394104114124134_0_99) (rg_c (x := (0 : Int32)) (n := 0) rfl) (by decide) (by decide)) (rg_c (x := (1 : Int32)) (n := 1) rfl) (by decide) (by decide))).1; have := ((rg_add (rg_sub (hS_V.rdSa (k := l4.toNatClampNeg) (bo1_mem hR.1) rt_RcR_8394104114124134_0_99) (rg_c (x := (0 : Int32)) (n := 0) rfl) (by decide) (by decide)) (rg_c (x := (1 : Int32)) (n := 1) rfl) (by decide) (by decide))).2; have := rg_tia (rg_sub (hS_V.rdSa (k := l4.toNatClampNeg) (bo1_mem hR.1) rt_RcR_8394104114124134_0_99) (rg_c (x := (0 : Int32)) (n := 0) rfl) (by decide) (by decide)) (rg_c (x := (1 : Int32)) (n := 1) rfl) (by decide) (by decide); have := ((rg_sub (hS_V.rdSa (k := l4.toNatClampNeg) (bo1_mem hR.1) rt_RcR_8394104114124134_0_99) (rg_c (x := (0 : Int32)) (n := 0) rfl) (by decide) (by decide))).1; have := ((rg_sub (hS_V.rdSa (k := l4.toNatClampNeg) (bo1_mem hR.1) rt_RcR_8394104114124134_0_99) (rg_c (x := (0 : Int32)) (n := 0) rfl) (by decide) (by decide))).2; have := rg_tis (hS_V.rdSa (k := l4.toNatClampNeg) (bo1_mem hR.1) rt_RcR_8394104114124134_0_99) (rg_c (x := (0 : Int32)) (n := 0) rfl) (by decide) (by decide); have := ((hS_V.rdSa (k := l4.toNatClampNeg) (bo1_mem hR.1) rt_RcR_8394104114124134_0_99)).1; have := ((hS_V.rdSa (k := l4.toNatClampNeg) (bo1_mem hR.1) rt_RcR_8394104114124134_0_99)).2; have := (r_l3).1; have := (r_l3).2; have := Int32.lt_iff_toInt_lt.mp (Int32.not_le.mp h_1); have := (f_11).1; have := (f_11).2; have := (f_3).1; have := (f_3).2; have := congrArg Int32.toInt h_10; have : (0 : Int32).toInt = 0 := rfl; have : (1 : Int32).toInt = 1 := rfl; omega)) fun x_16 r_17 p_18 =>
    lp10_up (I := fun l1 l2 l3 l4 l5 l6 l7 l8 l9 V => (SIx T_cR G V) ∧ (l1 ∈ [88, 89, 99, 100, 109, 110, 119, 120, 129, 130, 139, 140]) ∧ (l2 ∈ [86, 87, 97, 98, 107, 108, 117, 118, 127, 128, 137, 138]) ∧ (rg l3 (1) (2)) ∧ (rg l4 (0) (19)) ∧ (rg l5 (0) (100)) ∧ (rg l6 (-99) (100)) ∧ (rg l7 (-1) (199)) ∧ (rg l8 (-100) (199)) ∧ (rg l9 (1) (101)) ∧ (l3.toInt < cap bo) ∧ (l4.toInt < cap bo) ∧ (l5.toInt < cap bo) ∧ (l6.toInt < cap bo) ∧ ((100 : Int) ≤ cap bo) ∧ (OA bo l1) ∧ (OA bo l2) ∧ (l5.toInt + l6.toInt = (V.1 (bo + 1) l4.toNatClampNeg).toInt + 1) ∧ (l8.toInt < l5.toInt + l6.toInt) ∧ (l7.toInt = -1 ∨ 0 ≤ l8.toInt) ∧ ((l4.toInt = 0 ∧ l5.toInt = 0) ∨ (0 < l4.toInt ∧ l5.toInt = (V.1 (bo + 1) (l4 - (1 : Int32)).toNatClampNeg).toInt + 1)) ∧ (c_k3 ≤ l4.toInt)) (fun _ _ _ _ _ _ _ _ l9 _ => l9.toInt) (1) (101) (fun l1 l2 l3 l4 l5 l6 l7 l8 l9 V h => by
      obtain ⟨hS_V, m_l1, m_l2, r_l3, r_l4, r_l5, r_l6, r_l7, r_l8, r_l9, cp_l3_bo, cp_l4_bo, cp_l5_bo, cp_l6_bo, cb, oa_l1, oa_l2, an_0, an_1, an_2, an_3, hc_k3⟩ := h
      have := r_l9; unfold rg at this; omega) (fun k l1 l2 l3 l4 l5 l6 l7 l8 l9 V h hk => by
      obtain ⟨hS_V, m_l1, m_l2, r_l3, r_l4, r_l5, r_l6, r_l7, r_l8, r_l9, cp_l3_bo, cp_l4_bo, cp_l5_bo, cp_l6_bo, cb, oa_l1, oa_l2, an_0, an_1, an_2, an_3, hc_k3⟩ := h
      exact s_B_X5_fillUntouched_61_R hN hR hk_k3 (fun l1 l2 l3 l4 l5 l6 l7 l8 l9 V hS_V m_l1 m_l2 r_l3 r_l4 r_l5 r_l6 r_l7 r_l8 r_l9 cp_l3_bo cp_l4_bo cp_l5_bo cp_l6_bo cb oa_l1 oa_l2 an_0 an_1 an_2 an_3 hc_k61 hc_k3 => hk l1 l2 l3 l4 l5 l6 l7 l8 l9 V (by exact ⟨hS_V, m_l1, m_l2, r_l3, r_l4, r_l5, r_l6, r_l7, r_l8, r_l9, cp_l3_bo, cp_l4_bo, cp_l5_bo, cp_l6_bo, cb, oa_l1, oa_l2, an_0, an_1, an_2, an_3, hc_k3⟩) (hc_k61)) hS_V m_l1 m_l2 r_l3 r_l4 r_l5 r_l6 r_l7 r_l8 r_l9 cp_l3_bo cp_l4_bo cp_l5_bo cp_l6_bo cb oa_l1 oa_l2 an_0 an_1 an_2 an_3 hc_k3 (Int.le_refl _)) N (by have := hN; omega) _ _ _ _ _ _ _ _ _ _ (by exact ⟨hS_V, m_l1, m_l2, r_l3, (rg_m f_11 (by decide) (by decide)), (rg_m (rg_c (x := (0 : Int32)) (n := 0) rfl) (by decide) (by decide)), (rg_m f_15 (by decide) (by decide)), r_17, (rg_m r_17 (by decide) (by decide)), (rg_m (rg_c (x := (1 : Int32)) (n := 1) rfl) (by decide) (by decide)), (cap_S f_4 (by decide) r_l3), (cap_S f_4 (by decide) f_11), (cap_S f_4 (by decide) (rg_c (x := (0 : Int32)) (n := 0) rfl)), (cap_S f_4 (by decide) f_15), (cap_mn f_4 (by decide)), oa_l1, oa_l2, (by have := (r_l3).1; have := (r_l3).2; have := (f_11).1; have := (f_11).2; have := (f_15).1; have := (f_15).2; have := congrArg Int32.toInt q_14; have := ((rg_add (rg_sub (hS_V.rdSa (k := l4.toNatClampNeg) (bo1_mem hR.1) rt_RcR_8394104114124134_0_99) (rg_c (x := (0 : Int32)) (n := 0) rfl) (by decide) (by decide)) (rg_c (x := (1 : Int32)) (n := 1) rfl) (by decide) (by decide))).1; have := ((rg_add (rg_sub (hS_V.rdSa (k := l4.toNatClampNeg) (bo1_mem hR.1) rt_RcR_8394104114124134_0_99) (rg_c (x := (0 : Int32)) (n := 0) rfl) (by decide) (by decide)) (rg_c (x := (1 : Int32)) (n := 1) rfl) (by decide) (by decide))).2; have := rg_tia (rg_sub (hS_V.rdSa (k := l4.toNatClampNeg) (bo1_mem hR.1) rt_RcR_8394104114124134_0_99) (rg_c (x := (0 : Int32)) (n := 0) rfl) (by decide) (by decide)) (rg_c (x := (1 : Int32)) (n := 1) rfl) (by decide) (by decide); have := ((rg_sub (hS_V.rdSa (k := l4.toNatClampNeg) (bo1_mem hR.1) rt_RcR_8394104114124134_0_99) (rg_c (x := (0 : Int32)) (n := 0) rfl) (by decide) (by decide))).1; have := ((rg_sub (hS_V.rdSa (k := l4.toNatClampNeg) (bo1_mem hR.1) rt_RcR_8394104114124134_0_99) (rg_c (x := (0 : Int32)) (n := 0) rfl) (by decide) (by decide))).2; have := rg_tis (hS_V.rdSa (k := l4.toNatClampNeg) (bo1_mem hR.1) rt_RcR_8394104114124134_0_99) (rg_c (x := (0 : Int32)) (n := 0) rfl) (by decide) (by decide); have := ((hS_V.rdSa (k := l4.toNatClampNeg) (bo1_mem hR.1) rt_RcR_8394104114124134_0_99)).1; have := ((hS_V.rdSa (k := l4.toNatClampNeg) (bo1_mem hR.1) rt_RcR_8394104114124134_0_99)).2; have := (r_17).1; have := (r_17).2; have := ((hS_V.rdSa (k := (l4 - (1 : Int32)).toNatClampNeg) (bo1_mem hR.1) rt_RcR_8394104114124134_0_99)).1; have := ((hS_V.rdSa (k := (l4 - (1 : Int32)).toNatClampNeg) (bo1_mem hR.1) rt_RcR_8394104114124134_0_99)).2; have := Int32.lt_iff_toInt_lt.mp (Int32.not_le.mp h_1); have := (f_3).1; have := (f_3).2; have := congrArg Int32.toInt h_10; have := p_18; have : (0 : Int32).toInt = 0 := rfl; have : (1 : Int32).toInt = 1 := rfl; omega), (by have := (r_l3).1; have := (r_l3).2; have := (f_11).1; have := (f_11).2; have := (f_15).1; have := (f_15).2; have := congrArg Int32.toInt q_14; have := ((rg_add (rg_sub (hS_V.rdSa (k := l4.toNatClampNeg) (bo1_mem hR.1) rt_RcR_8394104114124134_0_99) (rg_c (x := (0 : Int32)) (n := 0) rfl) (by decide) (by decide)) (rg_c (x := (1 : Int32)) (n := 1) rfl) (by decide) (by decide))).1; have := ((rg_add (rg_sub (hS_V.rdSa (k := l4.toNatClampNeg) (bo1_mem hR.1) rt_RcR_8394104114124134_0_99) (rg_c (x := (0 : Int32)) (n := 0) rfl) (by decide) (by decide)) (rg_c (x := (1 : Int32)) (n := 1) rfl) (by decide) (by decide))).2; have := rg_tia (rg_sub (hS_V.rdSa (k := l4.toNatClampNeg) (bo1_mem hR.1) rt_RcR_8394104114124134_0_99) (rg_c (x := (0 : Int32)) (n := 0) rfl) (by decide) (by decide)) (rg_c (x := (1 : Int32)) (n := 1) rfl) (by decide) (by decide); have := ((rg_sub (hS_V.rdSa (k := l4.toNatClampNeg) (bo1_mem hR.1) rt_RcR_8394104114124134_0_99) (rg_c (x := (0 : Int32)) (n := 0) rfl) (by decide) (by decide))).1; have := ((rg_sub (hS_V.rdSa (k := l4.toNatClampNeg) (bo1_mem hR.1) rt_RcR_8394104114124134_0_99) (rg_c (x := (0 : Int32)) (n := 0) rfl) (by decide) (by decide))).2; have := rg_tis (hS_V.rdSa (k := l4.toNatClampNeg) (bo1_mem hR.1) rt_RcR_8394104114124134_0_99) (rg_c (x := (0 : Int32)) (n := 0) rfl) (by decide) (by decide); have := ((hS_V.rdSa (k := l4.toNatClampNeg) (bo1_mem hR.1) rt_RcR_8394104114124134_0_99)).1; have := ((hS_V.rdSa (k := l4.toNatClampNeg) (bo1_mem hR.1) rt_RcR_8394104114124134_0_99)).2; have := (r_17).1; have := (r_17).2; have := ((hS_V.rdSa (k := (l4 - (1 : Int32)).toNatClampNeg) (bo1_mem hR.1) rt_RcR_8394104114124134_0_99)).1; have := ((hS_V.rdSa (k := (l4 - (1 : Int32)).toNatClampNeg) (bo1_mem hR.1) rt_RcR_8394104114124134_0_99)).2; have := Int32.lt_iff_toInt_lt.mp (Int32.not_le.mp h_1); have := (f_3).1; have := (f_3).2; have := congrArg Int32.toInt h_10; have := p_18; have : (0 : Int32).toInt = 0 := rfl; have : (1 : Int32).toInt = 1 := rfl; omega), (by have := (r_l3).1; have := (r_l3).2; have := (f_11).1; have := (f_11).2; have := (f_15).1; have := (f_15).2; have := congrArg Int32.toInt q_14; have := ((rg_add (rg_sub (hS_V.rdSa (k := l4.toNatClampNeg) (bo1_mem hR.1) rt_RcR_8394104114124134_0_99) (rg_c (x := (0 : Int32)) (n := 0) rfl) (by decide) (by decide)) (rg_c (x := (1 : Int32)) (n := 1) rfl) (by decide) (by decide))).1; have := ((rg_add (rg_sub (hS_V.rdSa (k := l4.toNatClampNeg) (bo1_mem hR.1) rt_RcR_8394104114124134_0_99) (rg_c (x := (0 : Int32)) (n := 0) rfl) (by decide) (by decide)) (rg_c (x := (1 : Int32)) (n := 1) rfl) (by decide) (by decide))).2; have := rg_tia (rg_sub (hS_V.rdSa (k := l4.toNatClampNeg) (bo1_mem hR.1) rt_RcR_8394104114124134_0_99) (rg_c (x := (0 : Int32)) (n := 0) rfl) (by decide) (by decide)) (rg_c (x := (1 : Int32)) (n := 1) rfl) (by decide) (by decide); have := ((rg_sub (hS_V.rdSa (k := l4.toNatClampNeg) (bo1_mem hR.1) rt_RcR_8394104114124134_0_99) (rg_c (x := (0 : Int32)) (n := 0) rfl) (by decide) (by decide))).1; have := ((rg_sub (hS_V.rdSa (k := l4.toNatClampNeg) (bo1_mem hR.1) rt_RcR_8394104114124134_0_99) (rg_c (x := (0 : Int32)) (n := 0) rfl) (by decide) (by decide))).2; have := rg_tis (hS_V.rdSa (k := l4.toNatClampNeg) (bo1_mem hR.1) rt_RcR_8394104114124134_0_99) (rg_c (x := (0 : Int32)) (n := 0) rfl) (by decide) (by decide); have := ((hS_V.rdSa (k := l4.toNatClampNeg) (bo1_mem hR.1) rt_RcR_8394104114124134_0_99)).1; have := ((hS_V.rdSa (k := l4.toNatClampNeg) (bo1_mem hR.1) rt_RcR_8394104114124134_0_99)).2; have := (r_17).1; have := (r_17).2; have := ((hS_V.rdSa (k := (l4 - (1 : Int32)).toNatClampNeg) (bo1_mem hR.1) rt_RcR_8394104114124134_0_99)).1; have := ((hS_V.rdSa (k := (l4 - (1 : Int32)).toNatClampNeg) (bo1_mem hR.1) rt_RcR_8394104114124134_0_99)).2; have := Int32.lt_iff_toInt_lt.mp (Int32.not_le.mp h_1); have := (f_3).1; have := (f_3).2; have := congrArg Int32.toInt h_10; have := p_18; have : (0 : Int32).toInt = 0 := rfl; have : (1 : Int32).toInt = 1 := rfl; omega), (by have := (r_l3).1; have := (r_l3).2; have := (f_11).1; have := (f_11).2; have := (f_15).1; have := (f_15).2; have := congrArg Int32.toInt q_14; have := ((rg_add (rg_sub (hS_V.rdSa (k := l4.toNatClampNeg) (bo1_mem hR.1) rt_RcR_8394104114124134_0_99) (rg_c (x := (0 : Int32)) (n := 0) rfl) (by decide) (by decide)) (rg_c (x := (1 : Int32)) (n := 1) rfl) (by decide) (by decide))).1; have := ((rg_add (rg_sub (hS_V.rdSa (k := l4.toNatClampNeg) (bo1_mem hR.1) rt_RcR_8394104114124134_0_99) (rg_c (x := (0 : Int32)) (n := 0) rfl) (by decide) (by decide)) (rg_c (x := (1 : Int32)) (n := 1) rfl) (by decide) (by decide))).2; have := rg_tia (rg_sub (hS_V.rdSa (k := l4.toNatClampNeg) (bo1_mem hR.1) rt_RcR_8394104114124134_0_99) (rg_c (x := (0 : Int32)) (n := 0) rfl) (by decide) (by decide)) (rg_c (x := (1 : Int32)) (n := 1) rfl) (by decide) (by decide); have := ((rg_sub (hS_V.rdSa (k := l4.toNatClampNeg) (bo1_mem hR.1) rt_RcR_8394104114124134_0_99) (rg_c (x := (0 : Int32)) (n := 0) rfl) (by decide) (by decide))).1; have := ((rg_sub (hS_V.rdSa (k := l4.toNatClampNeg) (bo1_mem hR.1) rt_RcR_8394104114124134_0_99) (rg_c (x := (0 : Int32)) (n := 0) rfl) (by decide) (by decide))).2; have := rg_tis (hS_V.rdSa (k := l4.toNatClampNeg) (bo1_mem hR.1) rt_RcR_8394104114124134_0_99) (rg_c (x := (0 : Int32)) (n := 0) rfl) (by decide) (by decide); have := ((hS_V.rdSa (k := l4.toNatClampNeg) (bo1_mem hR.1) rt_RcR_8394104114124134_0_99)).1; have := ((hS_V.rdSa (k := l4.toNatClampNeg) (bo1_mem hR.1) rt_RcR_8394104114124134_0_99)).2; have := (r_17).1; have := (r_17).2; have := ((hS_V.rdSa (k := (l4 - (1 : Int32)).toNatClampNeg) (bo1_mem hR.1) rt_RcR_8394104114124134_0_99)).1; have := ((hS_V.rdSa (k := (l4 - (1 : Int32)).toNatClampNeg) (bo1_mem hR.1) rt_RcR_8394104114124134_0_99)).2; have := Int32.lt_iff_toInt_lt.mp (Int32.not_le.mp h_1); have := (f_3).1; have := (f_3).2; have := congrArg Int32.toInt h_10; have := p_18; have : (0 : Int32).toInt = 0 := rfl; have : (1 : Int32).toInt = 1 := rfl; omega), hc_k3⟩))
     (fun h_10 =>
    have f_19 := (rg_nel h_10 f_2 (rg_c (x := (0 : Int32)) (n := 0) rfl))
    have f_20 := (rg_llt (Int32.not_le.mp h_1) f_19 f_3)
    sf_pb (lay_S f_4 (by decide +kernel)) <|
    sf_ob (c := bo + 1) (cr6_bo hR.1) <|
    sf_assoc <|
    sf_lenE (n := 20) (bo1_mem hR.1) (by decide +kernel) <|
    sf_pb (in_rg (rg_sub f_19 (rg_c (x := (1 : Int32)) (n := 1) rfl) (by decide) (by decide)) (by decide) (by decide)) <|
    sf_someb <|
    sf_p (lay_S f_4 (by decide +kernel)) <|
    sf_o (c := bo) (ref7 hS_V hR rfl) <|
    sf_p (lay_S f_4 (by decide +kernel)) <|
    sf_o (c := bo + 1) (cr6_bo hR.1) <|
    sf_lenE (n := 20) (bo1_mem hR.1) (by decide +kernel) <|
    sf_p (in_rg f_19 (by decide) (by decide)) <|
    sf_let fun x_23 q_24 =>
    have f_25 := rg_eq q_24 (rg_add (rg_sub (hS_V.rdSa (k := l4.toNatClampNeg) (bo1_mem hR.1) rt_RcR_8394104114124134_0_99) (rg_add (hS_V.rdSa (k := (l4 - (1 : Int32)).toNatClampNeg) (bo1_mem hR.1) rt_RcR_8394104114124134_0_99) (rg_c (x := (1 : Int32)) (n := 1) rfl) (by decide) (by decide)) (by decide) (by decide)) (rg_c (x := (1 : Int32)) (n := 1) rfl) (by decide) (by decide))
    sf_yI (s_F_X5_firstTouched_R hN hR (A_ := ((V.1 (bo + 1) (l4 - (1 : Int32)).toNatClampNeg) + (1 : Int32)).toInt + x_23.toInt) hS_V (rg_m (rg_add (hS_V.rdSa (k := (l4 - (1 : Int32)).toNatClampNeg) (bo1_mem hR.1) rt_RcR_8394104114124134_0_99) (rg_c (x := (1 : Int32)) (n := 1) rfl) (by decide) (by decide)) (by decide) (by decide)) (rg_m f_25 (by decide) (by decide)) r_l3 (cap_S f_4 (by decide) (rg_add (hS_V.rdSa (k := (l4 - (1 : Int32)).toNatClampNeg) (bo1_mem hR.1) rt_RcR_8394104114124134_0_99) (rg_c (x := (1 : Int32)) (n := 1) rfl) (by decide) (by decide))) (cap_S f_4 (by decide) f_25) (cap_S f_4 (by decide) r_l3) (by have := ((rg_add (hS_V.rdSa (k := (l4 - (1 : Int32)).toNatClampNeg) (bo1_mem hR.1) rt_RcR_8394104114124134_0_99) (rg_c (x := (1 : Int32)) (n := 1) rfl) (by decide) (by decide))).1; have := ((rg_add (hS_V.rdSa (k := (l4 - (1 : Int32)).toNatClampNeg) (bo1_mem hR.1) rt_RcR_8394104114124134_0_99) (rg_c (x := (1 : Int32)) (n := 1) rfl) (by decide) (by decide))).2; have := rg_tia (hS_V.rdSa (k := (l4 - (1 : Int32)).toNatClampNeg) (bo1_mem hR.1) rt_RcR_8394104114124134_0_99) (rg_c (x := (1 : Int32)) (n := 1) rfl) (by decide) (by decide); have := ((hS_V.rdSa (k := (l4 - (1 : Int32)).toNatClampNeg) (bo1_mem hR.1) rt_RcR_8394104114124134_0_99)).1; have := ((hS_V.rdSa (k := (l4 - (1 : Int32)).toNatClampNeg) (bo1_mem hR.1) rt_RcR_8394104114124134_0_99)).2; have := (f_25).1; have := (f_25).2; have := congrArg Int32.toInt q_24; have := ((rg_add (rg_sub (hS_V.rdSa (k := l4.toNatClampNeg) (bo1_mem hR.1) rt_RcR_8394104114124134_0_99) (rg_add (hS_V.rdSa (k := (l4 - (1 : Int32)).toNatClampNeg) (bo1_mem hR.1) rt_RcR_8394104114124134_0_99) (rg_c (x := (1 : Int32)) (n := 1) rfl) (by decide) (by decide)) (by decide) (by decide)) (rg_c (x := (1 : Int32)) (n := 1) rfl) (by decide) (by decide))).1; have := ((rg_add (rg_sub (hS_V.rdSa (k := l4.toNatClampNeg) (bo1_mem hR.1) rt_RcR_8394104114124134_0_99) (rg_add (hS_V.rdSa (k := (l4 - (1 : Int32)).toNatClampNeg) (bo1_mem hR.1) rt_RcR_8394104114124134_0_99) (rg_c (x := (1 : Int32)) (n := 1) rfl) (by decide) (by decide)) (by decide) (by decide)) (rg_c (x := (1 : Int32)) (n := 1) rfl) (by decide) (by decide))).2; have := rg_tia (rg_sub (hS_V.rdSa (k := l4.toNatClampNeg) (bo1_mem hR.1) rt_RcR_8394104114124134_0_99) (rg_add (hS_V.rdSa (k := (l4 - (1 : Int32)).toNatClampNeg) (bo1_mem hR.1) rt_RcR_8394104114124134_0_99) (rg_c (x := (1 : Int32)) (n := 1) rfl) (by decide) (by decide)) (by decide) (by decide)) (rg_c (x := (1 : Int32)) (n := 1) rfl) (by decide) (by decide); have := ((rg_sub (hS_V.rdSa (k := l4.toNatClampNeg) (bo1_mem hR.1) rt_RcR_8394104114124134_0_99) (rg_add (hS_V.rdSa (k := (l4 - (1 : Int32)).toNatClampNeg) (bo1_mem hR.1) rt_RcR_8394104114124134_0_99) (rg_c (x := (1 : Int32)) (n := 1) rfl) (by decide) (by decide)) (by decide) (by decide))).1; have := ((rg_sub (hS_V.rdSa (k := l4.toNatClampNeg) (bo1_mem hR.1) rt_RcR_8394104114124134_0_99) (rg_add (hS_V.rdSa (k := (l4 - (1 : Int32)).toNatClampNeg) (bo1_mem hR.1) rt_RcR_8394104114124134_0_99) (rg_c (x := (1 : Int32)) (n := 1) rfl) (by decide) (by decide)) (by decide) (by decide))).2; have := rg_tis (hS_V.rdSa (k := l4.toNatClampNeg) (bo1_mem hR.1) rt_RcR_8394104114124134_0_99) (rg_add (hS_V.rdSa (k := (l4 - (1 : Int32)).toNatClampNeg) (bo1_mem hR.1) rt_RcR_8394104114124134_0_99) (rg_c (x := (1 : Int32)) (n := 1) rfl) (by decide) (by decide)) (by decide) (by decide); have := ((hS_V.rdSa (k := l4.toNatClampNeg) (bo1_mem hR.1) rt_RcR_8394104114124134_0_99)).1; have := ((hS_V.rdSa (k := l4.toNatClampNeg) (bo1_mem hR.1) rt_RcR_8394104114124134_0_99)).2; have := (r_l3).1; have := (r_l3).2; have := Int32.lt_iff_toInt_lt.mp (Int32.not_le.mp h_1); have := (f_19).1; have := (f_19).2; have := (f_20).1; have := (f_20).2; have := ne_ti h_10; have : (0 : Int32).toInt = 0 := rfl; have : (1 : Int32).toInt = 1 := rfl; omega) (cap_mn f_4 (by decide)) (by have := ((rg_add (hS_V.rdSa (k := (l4 - (1 : Int32)).toNatClampNeg) (bo1_mem hR.1) rt_RcR_8394104114124134_0_99) (rg_c (x := (1 : Int32)) (n := 1) rfl) (by decide) (by decide))).1; have := ((rg_add (hS_V.rdSa (k := (l4 - (1 : Int32)).toNatClampNeg) (bo1_mem hR.1) rt_RcR_8394104114124134_0_99) (rg_c (x := (1 : Int32)) (n := 1) rfl) (by decide) (by decide))).2; have := rg_tia (hS_V.rdSa (k := (l4 - (1 : Int32)).toNatClampNeg) (bo1_mem hR.1) rt_RcR_8394104114124134_0_99) (rg_c (x := (1 : Int32)) (n := 1) rfl) (by decide) (by decide); have := ((hS_V.rdSa (k := (l4 - (1 : Int32)).toNatClampNeg) (bo1_mem hR.1) rt_RcR_8394104114124134_0_99)).1; have := ((hS_V.rdSa (k := (l4 - (1 : Int32)).toNatClampNeg) (bo1_mem hR.1) rt_RcR_8394104114124134_0_99)).2; have := (f_25).1; have := (f_25).2; have := congrArg Int32.toInt q_24; have := ((rg_add (rg_sub (hS_V.rdSa (k := l4.toNatClampNeg) (bo1_mem hR.1) rt_RcR_8394104114124134_0_99) (rg_add (hS_V.rdSa (k := (l4 - (1 : Int32)).toNatClampNeg) (bo1_mem hR.1) rt_RcR_8394104114124134_0_99) (rg_c (x := (1 : Int32)) (n := 1) rfl) (by decide) (by decide)) (by decide) (by decide)) (rg_c (x := (1 : Int32)) (n := 1) rfl) (by decide) (by decide))).1; have := ((rg_add (rg_sub (hS_V.rdSa (k := l4.toNatClampNeg) (bo1_mem hR.1) rt_RcR_8394104114124134_0_99) (rg_add (hS_V.rdSa (k := (l4 - (1 : Int32)).toNatClampNeg) (bo1_mem hR.1) rt_RcR_8394104114124134_0_99) (rg_c (x := (1 : Int32)) (n := 1) rfl) (by decide) (by decide)) (by decide) (by decide)) (rg_c (x := (1 : Int32)) (n := 1) rfl) (by decide) (by decide))).2; have := rg_tia (rg_sub (hS_V.rdSa (k := l4.toNatClampNeg) (bo1_mem hR.1) rt_RcR_8394104114124134_0_99) (rg_add (hS_V.rdSa (k := (l4 - (1 : Int32)).toNatClampNeg) (bo1_mem hR.1) rt_RcR_8394104114124134_0_99) (rg_c (x := (1 : Int32)) (n := 1) rfl) (by decide) (by decide)) (by decide) (by decide)) (rg_c (x := (1 : Int32)) (n := 1) rfl) (by decide) (by decide); have := ((rg_sub (hS_V.rdSa (k := l4.toNatClampNeg) (bo1_mem hR.1) rt_RcR_8394104114124134_0_99) (rg_add (hS_V.rdSa (k := (l4 - (1 : Int32)).toNatClampNeg) (bo1_mem hR.1) rt_RcR_8394104114124134_0_99) (rg_c (x := (1 : Int32)) (n := 1) rfl) (by decide) (by decide)) (by decide) (by decide))).1; have := ((rg_sub (hS_V.rdSa (k := l4.toNatClampNeg) (bo1_mem hR.1) rt_RcR_8394104114124134_0_99) (rg_add (hS_V.rdSa (k := (l4 - (1 : Int32)).toNatClampNeg) (bo1_mem hR.1) rt_RcR_8394104114124134_0_99) (rg_c (x := (1 : Int32)) (n := 1) rfl) (by decide) (by decide)) (by decide) (by decide))).2; have := rg_tis (hS_V.rdSa (k := l4.toNatClampNeg) (bo1_mem hR.1) rt_RcR_8394104114124134_0_99) (rg_add (hS_V.rdSa (k := (l4 - (1 : Int32)).toNatClampNeg) (bo1_mem hR.1) rt_RcR_8394104114124134_0_99) (rg_c (x := (1 : Int32)) (n := 1) rfl) (by decide) (by decide)) (by decide) (by decide); have := ((hS_V.rdSa (k := l4.toNatClampNeg) (bo1_mem hR.1) rt_RcR_8394104114124134_0_99)).1; have := ((hS_V.rdSa (k := l4.toNatClampNeg) (bo1_mem hR.1) rt_RcR_8394104114124134_0_99)).2; have := (r_l3).1; have := (r_l3).2; have := Int32.lt_iff_toInt_lt.mp (Int32.not_le.mp h_1); have := (f_19).1; have := (f_19).2; have := (f_20).1; have := (f_20).2; have := ne_ti h_10; have : (0 : Int32).toInt = 0 := rfl; have : (1 : Int32).toInt = 1 := rfl; omega)) fun x_26 r_27 p_28 =>
    lp10_up (I := fun l1 l2 l3 l4 l5 l6 l7 l8 l9 V => (SIx T_cR G V) ∧ (l1 ∈ [88, 89, 99, 100, 109, 110, 119, 120, 129, 130, 139, 140]) ∧ (l2 ∈ [86, 87, 97, 98, 107, 108, 117, 118, 127, 128, 137, 138]) ∧ (rg l3 (1) (2)) ∧ (rg l4 (0) (19)) ∧ (rg l5 (0) (100)) ∧ (rg l6 (-99) (100)) ∧ (rg l7 (-1) (199)) ∧ (rg l8 (-100) (199)) ∧ (rg l9 (1) (101)) ∧ (l3.toInt < cap bo) ∧ (l4.toInt < cap bo) ∧ (l5.toInt < cap bo) ∧ (l6.toInt < cap bo) ∧ ((100 : Int) ≤ cap bo) ∧ (OA bo l1) ∧ (OA bo l2) ∧ (l5.toInt + l6.toInt = (V.1 (bo + 1) l4.toNatClampNeg).toInt + 1) ∧ (l8.toInt < l5.toInt + l6.toInt) ∧ (l7.toInt = -1 ∨ 0 ≤ l8.toInt) ∧ ((l4.toInt = 0 ∧ l5.toInt = 0) ∨ (0 < l4.toInt ∧ l5.toInt = (V.1 (bo + 1) (l4 - (1 : Int32)).toNatClampNeg).toInt + 1)) ∧ (c_k3 ≤ l4.toInt)) (fun _ _ _ _ _ _ _ _ l9 _ => l9.toInt) (1) (101) (fun l1 l2 l3 l4 l5 l6 l7 l8 l9 V h => by
      obtain ⟨hS_V, m_l1, m_l2, r_l3, r_l4, r_l5, r_l6, r_l7, r_l8, r_l9, cp_l3_bo, cp_l4_bo, cp_l5_bo, cp_l6_bo, cb, oa_l1, oa_l2, an_0, an_1, an_2, an_3, hc_k3⟩ := h
      have := r_l9; unfold rg at this; omega) (fun k l1 l2 l3 l4 l5 l6 l7 l8 l9 V h hk => by
      obtain ⟨hS_V, m_l1, m_l2, r_l3, r_l4, r_l5, r_l6, r_l7, r_l8, r_l9, cp_l3_bo, cp_l4_bo, cp_l5_bo, cp_l6_bo, cb, oa_l1, oa_l2, an_0, an_1, an_2, an_3, hc_k3⟩ := h
      exact s_B_X5_fillUntouched_61_R hN hR hk_k3 (fun l1 l2 l3 l4 l5 l6 l7 l8 l9 V hS_V m_l1 m_l2 r_l3 r_l4 r_l5 r_l6 r_l7 r_l8 r_l9 cp_l3_bo cp_l4_bo cp_l5_bo cp_l6_bo cb oa_l1 oa_l2 an_0 an_1 an_2 an_3 hc_k61 hc_k3 => hk l1 l2 l3 l4 l5 l6 l7 l8 l9 V (by exact ⟨hS_V, m_l1, m_l2, r_l3, r_l4, r_l5, r_l6, r_l7, r_l8, r_l9, cp_l3_bo, cp_l4_bo, cp_l5_bo, cp_l6_bo, cb, oa_l1, oa_l2, an_0, an_1, an_2, an_3, hc_k3⟩) (hc_k61)) hS_V m_l1 m_l2 r_l3 r_l4 r_l5 r_l6 r_l7 r_l8 r_l9 cp_l3_bo cp_l4_bo cp_l5_bo cp_l6_bo cb oa_l1 oa_l2 an_0 an_1 an_2 an_3 hc_k3 (Int.le_refl _)) N (by have := hN; omega) _ _ _ _ _ _ _ _ _ _ (by exact ⟨hS_V, m_l1, m_l2, r_l3, (rg_m f_19 (by decide) (by decide)), (rg_m (rg_add (hS_V.rdSa (k := (l4 - (1 : Int32)).toNatClampNeg) (bo1_mem hR.1) rt_RcR_8394104114124134_0_99) (rg_c (x := (1 : Int32)) (n := 1) rfl) (by decide) (by decide)) (by decide) (by decide)), (rg_m f_25 (by decide) (by decide)), r_27, (rg_m r_27 (by decide) (by decide)), (rg_m (rg_c (x := (1 : Int32)) (n := 1) rfl) (by decide) (by decide)), (cap_S f_4 (by decide) r_l3), (cap_S f_4 (by decide) f_19), (cap_S f_4 (by decide) (rg_add (hS_V.rdSa (k := (l4 - (1 : Int32)).toNatClampNeg) (bo1_mem hR.1) rt_RcR_8394104114124134_0_99) (rg_c (x := (1 : Int32)) (n := 1) rfl) (by decide) (by decide))), (cap_S f_4 (by decide) f_25), (cap_mn f_4 (by decide)), oa_l1, oa_l2, (by have := (r_l3).1; have := (r_l3).2; have := (f_19).1; have := (f_19).2; have := ((rg_add (hS_V.rdSa (k := (l4 - (1 : Int32)).toNatClampNeg) (bo1_mem hR.1) rt_RcR_8394104114124134_0_99) (rg_c (x := (1 : Int32)) (n := 1) rfl) (by decide) (by decide))).1; have := ((rg_add (hS_V.rdSa (k := (l4 - (1 : Int32)).toNatClampNeg) (bo1_mem hR.1) rt_RcR_8394104114124134_0_99) (rg_c (x := (1 : Int32)) (n := 1) rfl) (by decide) (by decide))).2; have := rg_tia (hS_V.rdSa (k := (l4 - (1 : Int32)).toNatClampNeg) (bo1_mem hR.1) rt_RcR_8394104114124134_0_99) (rg_c (x := (1 : Int32)) (n := 1) rfl) (by decide) (by decide); have := ((hS_V.rdSa (k := (l4 - (1 : Int32)).toNatClampNeg) (bo1_mem hR.1) rt_RcR_8394104114124134_0_99)).1; have := ((hS_V.rdSa (k := (l4 - (1 : Int32)).toNatClampNeg) (bo1_mem hR.1) rt_RcR_8394104114124134_0_99)).2; have := (f_25).1; have := (f_25).2; have := congrArg Int32.toInt q_24; have := ((rg_add (rg_sub (hS_V.rdSa (k := l4.toNatClampNeg) (bo1_mem hR.1) rt_RcR_8394104114124134_0_99) (rg_add (hS_V.rdSa (k := (l4 - (1 : Int32)).toNatClampNeg) (bo1_mem hR.1) rt_RcR_8394104114124134_0_99) (rg_c (x := (1 : Int32)) (n := 1) rfl) (by decide) (by decide)) (by decide) (by decide)) (rg_c (x := (1 : Int32)) (n := 1) rfl) (by decide) (by decide))).1; have := ((rg_add (rg_sub (hS_V.rdSa (k := l4.toNatClampNeg) (bo1_mem hR.1) rt_RcR_8394104114124134_0_99) (rg_add (hS_V.rdSa (k := (l4 - (1 : Int32)).toNatClampNeg) (bo1_mem hR.1) rt_RcR_8394104114124134_0_99) (rg_c (x := (1 : Int32)) (n := 1) rfl) (by decide) (by decide)) (by decide) (by decide)) (rg_c (x := (1 : Int32)) (n := 1) rfl) (by decide) (by decide))).2; have := rg_tia (rg_sub (hS_V.rdSa (k := l4.toNatClampNeg) (bo1_mem hR.1) rt_RcR_8394104114124134_0_99) (rg_add (hS_V.rdSa (k := (l4 - (1 : Int32)).toNatClampNeg) (bo1_mem hR.1) rt_RcR_8394104114124134_0_99) (rg_c (x := (1 : Int32)) (n := 1) rfl) (by decide) (by decide)) (by decide) (by decide)) (rg_c (x := (1 : Int32)) (n := 1) rfl) (by decide) (by decide); have := ((rg_sub (hS_V.rdSa (k := l4.toNatClampNeg) (bo1_mem hR.1) rt_RcR_8394104114124134_0_99) (rg_add (hS_V.rdSa (k := (l4 - (1 : Int32)).toNatClampNeg) (bo1_mem hR.1) rt_RcR_8394104114124134_0_99) (rg_c (x := (1 : Int32)) (n := 1) rfl) (by decide) (by decide)) (by decide) (by decide))).1; have := ((rg_sub (hS_V.rdSa (k := l4.toNatClampNeg) (bo1_mem hR.1) rt_RcR_8394104114124134_0_99) (rg_add (hS_V.rdSa (k := (l4 - (1 : Int32)).toNatClampNeg) (bo1_mem hR.1) rt_RcR_8394104114124134_0_99) (rg_c (x := (1 : Int32)) (n := 1) rfl) (by decide) (by decide)) (by decide) (by decide))).2; have := rg_tis (hS_V.rdSa (k := l4.toNatClampNeg) (bo1_mem hR.1) rt_RcR_8394104114124134_0_99) (rg_add (hS_V.rdSa (k := (l4 - (1 : Int32)).toNatClampNeg) (bo1_mem hR.1) rt_RcR_8394104114124134_0_99) (rg_c (x := (1 : Int32)) (n := 1) rfl) (by decide) (by decide)) (by decide) (by decide); have := ((hS_V.rdSa (k := l4.toNatClampNeg) (bo1_mem hR.1) rt_RcR_8394104114124134_0_99)).1; have := ((hS_V.rdSa (k := l4.toNatClampNeg) (bo1_mem hR.1) rt_RcR_8394104114124134_0_99)).2; have := (r_27).1; have := (r_27).2; have := Int32.lt_iff_toInt_lt.mp (Int32.not_le.mp h_1); have := (f_20).1; have := (f_20).2; have := ne_ti h_10; have := p_28; have : (0 : Int32).toInt = 0 := rfl; have : (1 : Int32).toInt = 1 := rfl; omega), (by have := (r_l3).1; have := (r_l3).2; have := (f_19).1; have := (f_19).2; have := ((rg_add (hS_V.rdSa (k := (l4 - (1 : Int32)).toNatClampNeg) (bo1_mem hR.1) rt_RcR_8394104114124134_0_99) (rg_c (x := (1 : Int32)) (n := 1) rfl) (by decide) (by decide))).1; have := ((rg_add (hS_V.rdSa (k := (l4 - (1 : Int32)).toNatClampNeg) (bo1_mem hR.1) rt_RcR_8394104114124134_0_99) (rg_c (x := (1 : Int32)) (n := 1) rfl) (by decide) (by decide))).2; have := rg_tia (hS_V.rdSa (k := (l4 - (1 : Int32)).toNatClampNeg) (bo1_mem hR.1) rt_RcR_8394104114124134_0_99) (rg_c (x := (1 : Int32)) (n := 1) rfl) (by decide) (by decide); have := ((hS_V.rdSa (k := (l4 - (1 : Int32)).toNatClampNeg) (bo1_mem hR.1) rt_RcR_8394104114124134_0_99)).1; have := ((hS_V.rdSa (k := (l4 - (1 : Int32)).toNatClampNeg) (bo1_mem hR.1) rt_RcR_8394104114124134_0_99)).2; have := (f_25).1; have := (f_25).2; have := congrArg Int32.toInt q_24; have := ((rg_add (rg_sub (hS_V.rdSa (k := l4.toNatClampNeg) (bo1_mem hR.1) rt_RcR_8394104114124134_0_99) (rg_add (hS_V.rdSa (k := (l4 - (1 : Int32)).toNatClampNeg) (bo1_mem hR.1) rt_RcR_8394104114124134_0_99) (rg_c (x := (1 : Int32)) (n := 1) rfl) (by decide) (by decide)) (by decide) (by decide)) (rg_c (x := (1 : Int32)) (n := 1) rfl) (by decide) (by decide))).1; have := ((rg_add (rg_sub (hS_V.rdSa (k := l4.toNatClampNeg) (bo1_mem hR.1) rt_RcR_8394104114124134_0_99) (rg_add (hS_V.rdSa (k := (l4 - (1 : Int32)).toNatClampNeg) (bo1_mem hR.1) rt_RcR_8394104114124134_0_99) (rg_c (x := (1 : Int32)) (n := 1) rfl) (by decide) (by decide)) (by decide) (by decide)) (rg_c (x := (1 : Int32)) (n := 1) rfl) (by decide) (by decide))).2; have := rg_tia (rg_sub (hS_V.rdSa (k := l4.toNatClampNeg) (bo1_mem hR.1) rt_RcR_8394104114124134_0_99) (rg_add (hS_V.rdSa (k := (l4 - (1 : Int32)).toNatClampNeg) (bo1_mem hR.1) rt_RcR_8394104114124134_0_99) (rg_c (x := (1 : Int32)) (n := 1) rfl) (by decide) (by decide)) (by decide) (by decide)) (rg_c (x := (1 : Int32)) (n := 1) rfl) (by decide) (by decide); have := ((rg_sub (hS_V.rdSa (k := l4.toNatClampNeg) (bo1_mem hR.1) rt_RcR_8394104114124134_0_99) (rg_add (hS_V.rdSa (k := (l4 - (1 : Int32)).toNatClampNeg) (bo1_mem hR.1) rt_RcR_8394104114124134_0_99) (rg_c (x := (1 : Int32)) (n := 1) rfl) (by decide) (by decide)) (by decide) (by decide))).1; have := ((rg_sub (hS_V.rdSa (k := l4.toNatClampNeg) (bo1_mem hR.1) rt_RcR_8394104114124134_0_99) (rg_add (hS_V.rdSa (k := (l4 - (1 : Int32)).toNatClampNeg) (bo1_mem hR.1) rt_RcR_8394104114124134_0_99) (rg_c (x := (1 : Int32)) (n := 1) rfl) (by decide) (by decide)) (by decide) (by decide))).2; have := rg_tis (hS_V.rdSa (k := l4.toNatClampNeg) (bo1_mem hR.1) rt_RcR_8394104114124134_0_99) (rg_add (hS_V.rdSa (k := (l4 - (1 : Int32)).toNatClampNeg) (bo1_mem hR.1) rt_RcR_8394104114124134_0_99) (rg_c (x := (1 : Int32)) (n := 1) rfl) (by decide) (by decide)) (by decide) (by decide); have := ((hS_V.rdSa (k := l4.toNatClampNeg) (bo1_mem hR.1) rt_RcR_8394104114124134_0_99)).1; have := ((hS_V.rdSa (k := l4.toNatClampNeg) (bo1_mem hR.1) rt_RcR_8394104114124134_0_99)).2; have := (r_27).1; have := (r_27).2; have := Int32.lt_iff_toInt_lt.mp (Int32.not_le.mp h_1); have := (f_20).1; have := (f_20).2; have := ne_ti h_10; have := p_28; have : (0 : Int32).toInt = 0 := rfl; have : (1 : Int32).toInt = 1 := rfl; omega), (by have := (r_l3).1; have := (r_l3).2; have := (f_19).1; have := (f_19).2; have := ((rg_add (hS_V.rdSa (k := (l4 - (1 : Int32)).toNatClampNeg) (bo1_mem hR.1) rt_RcR_8394104114124134_0_99) (rg_c (x := (1 : Int32)) (n := 1) rfl) (by decide) (by decide))).1; have := ((rg_add (hS_V.rdSa (k := (l4 - (1 : Int32)).toNatClampNeg) (bo1_mem hR.1) rt_RcR_8394104114124134_0_99) (rg_c (x := (1 : Int32)) (n := 1) rfl) (by decide) (by decide))).2; have := rg_tia (hS_V.rdSa (k := (l4 - (1 : Int32)).toNatClampNeg) (bo1_mem hR.1) rt_RcR_8394104114124134_0_99) (rg_c (x := (1 : Int32)) (n := 1) rfl) (by decide) (by decide); have := ((hS_V.rdSa (k := (l4 - (1 : Int32)).toNatClampNeg) (bo1_mem hR.1) rt_RcR_8394104114124134_0_99)).1; have := ((hS_V.rdSa (k := (l4 - (1 : Int32)).toNatClampNeg) (bo1_mem hR.1) rt_RcR_8394104114124134_0_99)).2; have := (f_25).1; have := (f_25).2; have := congrArg Int32.toInt q_24; have := ((rg_add (rg_sub (hS_V.rdSa (k := l4.toNatClampNeg) (bo1_mem hR.1) rt_RcR_8394104114124134_0_99) (rg_add (hS_V.rdSa (k := (l4 - (1 : Int32)).toNatClampNeg) (bo1_mem hR.1) rt_RcR_8394104114124134_0_99) (rg_c (x := (1 : Int32)) (n := 1) rfl) (by decide) (by decide)) (by decide) (by decide)) (rg_c (x := (1 : Int32)) (n := 1) rfl) (by decide) (by decide))).1; have := ((rg_add (rg_sub (hS_V.rdSa (k := l4.toNatClampNeg) (bo1_mem hR.1) rt_RcR_8394104114124134_0_99) (rg_add (hS_V.rdSa (k := (l4 - (1 : Int32)).toNatClampNeg) (bo1_mem hR.1) rt_RcR_8394104114124134_0_99) (rg_c (x := (1 : Int32)) (n := 1) rfl) (by decide) (by decide)) (by decide) (by decide)) (rg_c (x := (1 : Int32)) (n := 1) rfl) (by decide) (by decide))).2; have := rg_tia (rg_sub (hS_V.rdSa (k := l4.toNatClampNeg) (bo1_mem hR.1) rt_RcR_8394104114124134_0_99) (rg_add (hS_V.rdSa (k := (l4 - (1 : Int32)).toNatClampNeg) (bo1_mem hR.1) rt_RcR_8394104114124134_0_99) (rg_c (x := (1 : Int32)) (n := 1) rfl) (by decide) (by decide)) (by decide) (by decide)) (rg_c (x := (1 : Int32)) (n := 1) rfl) (by decide) (by decide); have := ((rg_sub (hS_V.rdSa (k := l4.toNatClampNeg) (bo1_mem hR.1) rt_RcR_8394104114124134_0_99) (rg_add (hS_V.rdSa (k := (l4 - (1 : Int32)).toNatClampNeg) (bo1_mem hR.1) rt_RcR_8394104114124134_0_99) (rg_c (x := (1 : Int32)) (n := 1) rfl) (by decide) (by decide)) (by decide) (by decide))).1; have := ((rg_sub (hS_V.rdSa (k := l4.toNatClampNeg) (bo1_mem hR.1) rt_RcR_8394104114124134_0_99) (rg_add (hS_V.rdSa (k := (l4 - (1 : Int32)).toNatClampNeg) (bo1_mem hR.1) rt_RcR_8394104114124134_0_99) (rg_c (x := (1 : Int32)) (n := 1) rfl) (by decide) (by decide)) (by decide) (by decide))).2; have := rg_tis (hS_V.rdSa (k := l4.toNatClampNeg) (bo1_mem hR.1) rt_RcR_8394104114124134_0_99) (rg_add (hS_V.rdSa (k := (l4 - (1 : Int32)).toNatClampNeg) (bo1_mem hR.1) rt_RcR_8394104114124134_0_99) (rg_c (x := (1 : Int32)) (n := 1) rfl) (by decide) (by decide)) (by decide) (by decide); have := ((hS_V.rdSa (k := l4.toNatClampNeg) (bo1_mem hR.1) rt_RcR_8394104114124134_0_99)).1; have := ((hS_V.rdSa (k := l4.toNatClampNeg) (bo1_mem hR.1) rt_RcR_8394104114124134_0_99)).2; have := (r_27).1; have := (r_27).2; have := Int32.lt_iff_toInt_lt.mp (Int32.not_le.mp h_1); have := (f_20).1; have := (f_20).2; have := ne_ti h_10; have := p_28; have : (0 : Int32).toInt = 0 := rfl; have : (1 : Int32).toInt = 1 := rfl; omega), (by have := (r_l3).1; have := (r_l3).2; have := (f_19).1; have := (f_19).2; have := ((rg_add (hS_V.rdSa (k := (l4 - (1 : Int32)).toNatClampNeg) (bo1_mem hR.1) rt_RcR_8394104114124134_0_99) (rg_c (x := (1 : Int32)) (n := 1) rfl) (by decide) (by decide))).1; have := ((rg_add (hS_V.rdSa (k := (l4 - (1 : Int32)).toNatClampNeg) (bo1_mem hR.1) rt_RcR_8394104114124134_0_99) (rg_c (x := (1 : Int32)) (n := 1) rfl) (by decide) (by decide))).2; have := rg_tia (hS_V.rdSa (k := (l4 - (1 : Int32)).toNatClampNeg) (bo1_mem hR.1) rt_RcR_8394104114124134_0_99) (rg_c (x := (1 : Int32)) (n := 1) rfl) (by decide) (by decide); have := ((hS_V.rdSa (k := (l4 - (1 : Int32)).toNatClampNeg) (bo1_mem hR.1) rt_RcR_8394104114124134_0_99)).1; have := ((hS_V.rdSa (k := (l4 - (1 : Int32)).toNatClampNeg) (bo1_mem hR.1) rt_RcR_8394104114124134_0_99)).2; have := (f_25).1; have := (f_25).2; have := congrArg Int32.toInt q_24; have := ((rg_add (rg_sub (hS_V.rdSa (k := l4.toNatClampNeg) (bo1_mem hR.1) rt_RcR_8394104114124134_0_99) (rg_add (hS_V.rdSa (k := (l4 - (1 : Int32)).toNatClampNeg) (bo1_mem hR.1) rt_RcR_8394104114124134_0_99) (rg_c (x := (1 : Int32)) (n := 1) rfl) (by decide) (by decide)) (by decide) (by decide)) (rg_c (x := (1 : Int32)) (n := 1) rfl) (by decide) (by decide))).1; have := ((rg_add (rg_sub (hS_V.rdSa (k := l4.toNatClampNeg) (bo1_mem hR.1) rt_RcR_8394104114124134_0_99) (rg_add (hS_V.rdSa (k := (l4 - (1 : Int32)).toNatClampNeg) (bo1_mem hR.1) rt_RcR_8394104114124134_0_99) (rg_c (x := (1 : Int32)) (n := 1) rfl) (by decide) (by decide)) (by decide) (by decide)) (rg_c (x := (1 : Int32)) (n := 1) rfl) (by decide) (by decide))).2; have := rg_tia (rg_sub (hS_V.rdSa (k := l4.toNatClampNeg) (bo1_mem hR.1) rt_RcR_8394104114124134_0_99) (rg_add (hS_V.rdSa (k := (l4 - (1 : Int32)).toNatClampNeg) (bo1_mem hR.1) rt_RcR_8394104114124134_0_99) (rg_c (x := (1 : Int32)) (n := 1) rfl) (by decide) (by decide)) (by decide) (by decide)) (rg_c (x := (1 : Int32)) (n := 1) rfl) (by decide) (by decide); have := ((rg_sub (hS_V.rdSa (k := l4.toNatClampNeg) (bo1_mem hR.1) rt_RcR_8394104114124134_0_99) (rg_add (hS_V.rdSa (k := (l4 - (1 : Int32)).toNatClampNeg) (bo1_mem hR.1) rt_RcR_8394104114124134_0_99) (rg_c (x := (1 : Int32)) (n := 1) rfl) (by decide) (by decide)) (by decide) (by decide))).1; have := ((rg_sub (hS_V.rdSa (k := l4.toNatClampNeg) (bo1_mem hR.1) rt_RcR_8394104114124134_0_99) (rg_add (hS_V.rdSa (k := (l4 - (1 : Int32)).toNatClampNeg) (bo1_mem hR.1) rt_RcR_8394104114124134_0_99) (rg_c (x := (1 : Int32)) (n := 1) rfl) (by decide) (by decide)) (by decide) (by decide))).2; have := rg_tis (hS_V.rdSa (k := l4.toNatClampNeg) (bo1_mem hR.1) rt_RcR_8394104114124134_0_99) (rg_add (hS_V.rdSa (k := (l4 - (1 : Int32)).toNatClampNeg) (bo1_mem hR.1) rt_RcR_8394104114124134_0_99) (rg_c (x := (1 : Int32)) (n := 1) rfl) (by decide) (by decide)) (by decide) (by decide); have := ((hS_V.rdSa (k := l4.toNatClampNeg) (bo1_mem hR.1) rt_RcR_8394104114124134_0_99)).1; have := ((hS_V.rdSa (k := l4.toNatClampNeg) (bo1_mem hR.1) rt_RcR_8394104114124134_0_99)).2; have := (r_27).1; have := (r_27).2; have := Int32.lt_iff_toInt_lt.mp (Int32.not_le.mp h_1); have := (f_20).1; have := (f_20).2; have := ne_ti h_10; have := p_28; have : (0 : Int32).toInt = 0 := rfl; have : (1 : Int32).toInt = 1 := rfl; omega), hc_k3⟩)))
theorem s_F_X5_fillUntouched_R {G : sv_V} {N : Nat} (hN : 8589934592 ≤ N) {bo bm : Nat} (hR : RefsOf G bo bm) {l1 : Nat} {l2 : Nat} {l3 : Int32} {V : sv_V} (hS_V : SIx T_cR G V) (m_l1 : l1 ∈ [88, 89, 99, 100, 109, 110, 119, 120, 129, 130, 139, 140]) (m_l2 : l2 ∈ [86, 87, 97, 98, 107, 108, 117, 118, 127, 128, 137, 138]) (r_l3 : rg l3 (1) (2)) (oa_l1 : OA bo l1) (oa_l2 : OA bo l2) : Sg (SIx T_cR G) (F_X5_fillUntouched N l1 l2 l3 V) := by
  unfold F_X5_fillUntouched
  exact
    lp5_up (I := fun l1 l2 l3 l4 V => (SIx T_cR G V) ∧ (l1 ∈ [88, 89, 99, 100, 109, 110, 119, 120, 129, 130, 139, 140]) ∧ (l2 ∈ [86, 87, 97, 98, 107, 108, 117, 118, 127, 128, 137, 138]) ∧ (rg l3 (1) (2)) ∧ (rg l4 (0) (20)) ∧ (OA bo l1) ∧ (OA bo l2)) (fun _ _ _ l4 _ => l4.toInt) (0) (20) (fun l1 l2 l3 l4 V h => by
      obtain ⟨hS_V, m_l1, m_l2, r_l3, r_l4, oa_l1, oa_l2⟩ := h
      have := r_l4; unfold rg at this; omega) (fun k l1 l2 l3 l4 V h hk => by
      obtain ⟨hS_V, m_l1, m_l2, r_l3, r_l4, oa_l1, oa_l2⟩ := h
      exact s_B_X5_fillUntouched_3_R hN hR (fun l1 l2 l3 l4 V hS_V m_l1 m_l2 r_l3 r_l4 oa_l1 oa_l2 hc_k3  => hk l1 l2 l3 l4 V (by exact ⟨hS_V, m_l1, m_l2, r_l3, r_l4, oa_l1, oa_l2⟩) (hc_k3)) hS_V m_l1 m_l2 r_l3 r_l4 oa_l1 oa_l2 (Int.le_refl _)) N (by have := hN; omega) _ _ _ _ _ (by exact ⟨hS_V, m_l1, m_l2, r_l3, (rg_m (rg_c (x := (0 : Int32)) (n := 0) rfl) (by decide) (by decide)), oa_l1, oa_l2⟩)
theorem s_B_X5_manyPointCodes_57_R {G : sv_V} {N : Nat} (hN : 8589934592 ≤ N) {bo bm : Nat} (hR : RefsOf G bo bm) {V : sv_V} (hS_V : SIx T_cR G V) : Sg (SIx T_cR G) (B_X5_manyPointCodes_57 N V) := by
  unfold B_X5_manyPointCodes_57
  exact
    sf_eV (s_F_X5_turnPoints_R hN hR hS_V) fun V_1 e_2 hS_V_1 =>
    sf_sV hS_V_1
theorem s_F_X5_manyPointCodes_R {G : sv_V} {N : Nat} (hN : 8589934592 ≤ N) {bo bm : Nat} (hR : RefsOf G bo bm) {l1 : Int32} {V : sv_V} (hS_V : SIx T_cR G V) (r_l1 : rg l1 (0) (255)) : Sg (SIx T_cR G) (F_X5_manyPointCodes N l1 V) := by
  unfold F_X5_manyPointCodes
  exact
    sf_ite (fun h_1 =>
    sf_eV (s_F_X5_shiftByPixels_R hN hR hS_V) fun V_3 e_4 hS_V_3 =>
    sf_sV hS_V_3)
     (fun h_1 =>
    sf_ite (fun h_6 =>
    sf_eV (s_F_X5_interpolate_R hN hR hS_V) fun V_8 e_9 hS_V_8 =>
    sf_sV hS_V_8)
     (fun h_6 =>
    sf_ite (fun h_11 =>
    s_B_X5_manyPointCodes_57_R hN hR hS_V)
     (fun h_11 =>
    sf_ite (fun h_13 =>
    s_B_X5_manyPointCodes_57_R hN hR hS_V)
     (fun h_13 =>
    sf_ite (fun h_15 =>
    sf_eV (s_F_X5_alignToReference_R hN hR hS_V) fun V_17 e_18 hS_V_17 =>
    sf_sV hS_V_17)
     (fun h_15 =>
    s_B_X5_manyPointCodes_57_R hN hR hS_V)))))
theorem s_B_X5_shiftByReference_133_R {G : sv_V} {N : Nat} (hN : 8589934592 ≤ N) {bo bm : Nat} (hR : RefsOf G bo bm) {s1 : Int64} {s2 : Int32} {V : sv_V} (hS_V : SIx T_cR G V) (r_s1 : rl s1 (-2147483648) (2147483647)) (r_s2 : rg s2 (-1) (101)) : Sg (SIx T_cR G) (B_X5_shiftByReference_133 N s1 s2 V) := by
  unfold B_X5_shiftByReference_133
  exact
    sf_eV (s_F_X5_shiftContour_R hN hR hS_V r_s1 r_s2) fun V_1 e_2 hS_V_1 =>
    sf_sV hS_V_1
theorem s_B_X5_shiftByReference_43_R {G : sv_V} {N : Nat} (hN : 8589934592 ≤ N) {bo bm : Nat} (hR : RefsOf G bo bm) {l1 : Int32} {l3 : Nat} {s1 : Int32} {V : sv_V} (hS_V : SIx T_cR G V) (r_l1 : rg l1 (0) (255)) (m_l3 : l3 ∈ [34, 48, 82, 93, 103, 113, 123, 133]) (r_s1 : rg s1 (1) (2)) : Sg (SIx T_cR G) (B_X5_shiftByReference_43 N l1 l3 s1 V) := by
  unfold B_X5_shiftByReference_43
  exact
    sf_p (in_rg r_s1 (by decide) (by decide)) <|
    sf_let fun x_1 q_2 =>
    sf_assoc <|
    sf_iteb (fun h_12 =>
    have f_13 := (rg_hlt h_12 rg_t (rg_c (x := (0 : Int32)) (n := 0) rfl))
    sf_someb <|
    sf_pb (lay_S m_l3 (by decide +kernel)) <|
    sf_iteb (fun h_14 =>
    sf_wb (hS_V.wc oi_RcR_69_14 (rg_m (rg_c (x := (5 : Int32)) (n := 5) rfl) (by decide) (by decide))) fun V_15 q_16 hS_V_15 =>
    sf_assoc <|
    sf_iteb (fun h_25 =>
    sf_someb <|
    sf_pb (lay_S m_l3 (by decide +kernel)) <|
    sf_pb (bl_rg (rg_c (x := (0 : Int32)) (n := 0) rfl) (by decide) (by decide)) <|
    sf_someb <|
    sf_ite (fun h_26 =>
    sf_sV hS_V_15)
     (fun h_26 =>
    False.elim (rg_none h_26 (rg_c (x := (0 : Int32)) (n := 0) rfl) (rg_c (x := (0 : Int32)) (n := 0) rfl))))
     (fun h_25 =>
    False.elim (rg_nole (Int32.not_lt.mp h_25) (rg_c (x := (0 : Int32)) (n := 0) rfl) f_13 (by decide))))
     (fun h_14 =>
    False.elim (rg_none h_14 (rg_c (x := (0 : Int32)) (n := 0) rfl) (rg_c (x := (0 : Int32)) (n := 0) rfl))))
     (fun h_12 =>
    have f_27 := (rg_lle (Int32.not_lt.mp h_12) (rg_c (x := (0 : Int32)) (n := 0) rfl) rg_t)
    sf_pb (lay_S m_l3 (by decide +kernel)) <|
    sf_iteb (fun h_28 =>
    sf_someb <|
    sf_pb (lay_S m_l3 (by decide +kernel)) <|
    sf_iteb (fun h_29 =>
    sf_wb (hS_V.wc oi_RcR_69_14 (rg_m (rg_c (x := (5 : Int32)) (n := 5) rfl) (by decide) (by decide))) fun V_30 q_31 hS_V_30 =>
    sf_assoc <|
    sf_iteb (fun h_40 =>
    False.elim (rg_nolt h_40 f_27 (rg_c (x := (0 : Int32)) (n := 0) rfl) (by decide)))
     (fun h_40 =>
    sf_pb (lay_S m_l3 (by decide +kernel)) <|
    sf_iteb (fun h_41 =>
    sf_someb <|
    sf_pb (lay_S m_l3 (by decide +kernel)) <|
    sf_pb (bl_rg (rg_c (x := (0 : Int32)) (n := 0) rfl) (by decide) (by decide)) <|
    sf_someb <|
    sf_ite (fun h_42 =>
    sf_sV hS_V_30)
     (fun h_42 =>
    False.elim (rg_none h_42 (rg_c (x := (0 : Int32)) (n := 0) rfl) (rg_c (x := (0 : Int32)) (n := 0) rfl))))
     (fun h_41 =>
    have f_43 := (rg_hlt (Int32.not_le.mp h_41) f_27 (rg_add (hS_V_30.rdS m_l3 rs_RcR_34488293103113123133_9_0_100) (hS_V_30.rdS m_l3 rs_RcR_34488293103113123133_11_0_2) (by decide) (by decide)))
    sf_someb <|
    sf_pb (lay_S m_l3 (by decide +kernel)) <|
    sf_pb (bl_rg (rg_c (x := (1 : Int32)) (n := 1) rfl) (by decide) (by decide)) <|
    sf_someb <|
    sf_ite (fun h_47 =>
    False.elim (rg_noeq h_47 (rg_c (x := (1 : Int32)) (n := 1) rfl) (rg_c (x := (0 : Int32)) (n := 0) rfl) (by decide)))
     (fun h_47 =>
    have f_48 := (cap_of ck_RcR (mem_of m_l3 (by decide)) hS_V_30 (Int32.not_le.mp h_41))
    sf_p (lay_S m_l3 (by decide +kernel)) <|
    sf_crS (T := [38, 52, 86, 97, 107, 117, 127, 137]) m_l3 (by decide +kernel) fun b_49 m_51 q_50 =>
    sf_lenS (m := 0) m_51 (by decide +kernel) fun n_52 m_54 q_53 =>
    sf_p (in_cap f_48 f_43 (by decide) (cap_len (mem_of m_l3 (by decide)) q_50 q_53 (by decide))) <|
    sf_crS (T := [40, 54, 88, 99, 109, 119, 129, 139]) m_l3 (by decide +kernel) fun b_55 m_57 q_56 =>
    sf_lenS (m := 0) m_57 (by decide +kernel) fun n_58 m_60 q_59 =>
    sf_p (in_cap f_48 f_43 (by decide) (cap_len (mem_of m_l3 (by decide)) q_56 q_59 (by decide))) <|
    sf_crS (T := [39, 53, 87, 98, 108, 118, 128, 138]) m_l3 (by decide +kernel) fun b_61 m_63 q_62 =>
    sf_lenS (m := 0) m_63 (by decide +kernel) fun n_64 m_66 q_65 =>
    sf_p (in_cap f_48 f_43 (by decide) (cap_len (mem_of m_l3 (by decide)) q_62 q_65 (by decide))) <|
    sf_crS (T := [41, 55, 89, 100, 110, 120, 130, 140]) m_l3 (by decide +kernel) fun b_67 m_69 q_68 =>
    sf_lenS (m := 0) m_69 (by decide +kernel) fun n_70 m_72 q_71 =>
    sf_p (in_cap f_48 f_43 (by decide) (cap_len (mem_of m_l3 (by decide)) q_68 q_71 (by decide))) <|
    sf_qL (s_F_X5_longByP_R hN hR hS_V_30 (rl_m (rl_w rg_t) (by decide) (by decide)) (rl_m (rl_w rg_t) (by decide) (by decide))) fun x_73 r_74 =>
    sf_ite (fun h_75 =>
    sf_ite (fun h_78 =>
    have f_80 := (cap_of ck_RcR (mem_of m_l3 (by decide)) hS_V_30 (Int32.not_le.mp h_41))
    sf_eV (s_F_X5_shiftZone_R hN hR hS_V_30 r_74 m_l3 (rg_m f_43 (by decide) (by decide)) f_80) fun V_81 e_82 hS_V_81 =>
    sf_sV hS_V_81)
     (fun h_78 =>
    sf_o (c := bo) (ref7 hS_V_30 hR rfl) <|
    sf_p (lay_S hR.1 (by decide +kernel)) <|
    sf_ite (fun h_86 =>
    s_B_X5_shiftByReference_133_R hN hR hS_V_30 r_74 (rg_m f_43 (by decide) (by decide)))
     (fun h_86 =>
    s_B_X5_shiftByReference_133_R hN hR hS_V_30 r_74 (rg_m (rg_c (x := (-1 : Int32)) (n := -1) rfl) (by decide) (by decide)))))
     (fun h_75 =>
    sf_eV (s_F_X5_shiftPoints_R hN hR hS_V_30 r_74) fun V_89 e_90 hS_V_89 =>
    sf_sV hS_V_89)))))
     (fun h_29 =>
    False.elim (rg_none h_29 (rg_c (x := (0 : Int32)) (n := 0) rfl) (rg_c (x := (0 : Int32)) (n := 0) rfl))))
     (fun h_28 =>
    have f_92 := (rg_hlt (Int32.not_le.mp h_28) f_27 (rg_add (hS_V.rdS m_l3 rs_RcR_34488293103113123133_9_0_100) (hS_V.rdS m_l3 rs_RcR_34488293103113123133_11_0_2) (by decide) (by decide)))
    sf_someb <|
    sf_pb (lay_S m_l3 (by decide +kernel)) <|
    sf_iteb (fun h_95 =>
    False.elim (rg_noeq h_95 (rg_c (x := (1 : Int32)) (n := 1) rfl) (rg_c (x := (0 : Int32)) (n := 0) rfl) (by decide)))
     (fun h_95 =>
    sf_assoc <|
    sf_iteb (fun h_105 =>
    False.elim (rg_nolt h_105 f_92 (rg_c (x := (0 : Int32)) (n := 0) rfl) (by decide)))
     (fun h_105 =>
    sf_pb (lay_S m_l3 (by decide +kernel)) <|
    sf_iteb (fun h_107 =>
    sf_someb <|
    sf_pb (lay_S m_l3 (by decide +kernel)) <|
    sf_pb (bl_rg (rg_c (x := (0 : Int32)) (n := 0) rfl) (by decide) (by decide)) <|
    sf_someb <|
    sf_ite (fun h_113 =>
    sf_sV hS_V)
     (fun h_113 =>
    False.elim (rg_none h_113 (rg_c (x := (0 : Int32)) (n := 0) rfl) (rg_c (x := (0 : Int32)) (n := 0) rfl))))
     (fun h_107 =>
    sf_someb <|
    sf_pb (lay_S m_l3 (by decide +kernel)) <|
    sf_pb (bl_rg (rg_c (x := (1 : Int32)) (n := 1) rfl) (by decide) (by decide)) <|
    sf_someb <|
    sf_ite (fun h_119 =>
    False.elim (rg_noeq h_119 (rg_c (x := (1 : Int32)) (n := 1) rfl) (rg_c (x := (0 : Int32)) (n := 0) rfl) (by decide)))
     (fun h_119 =>
    have f_121 := (cap_of ck_RcR (mem_of m_l3 (by decide)) hS_V (Int32.not_le.mp h_107))
    sf_p (lay_S m_l3 (by decide +kernel)) <|
    sf_crS (T := [38, 52, 86, 97, 107, 117, 127, 137]) m_l3 (by decide +kernel) fun b_122 m_124 q_123 =>
    sf_lenS (m := 0) m_124 (by decide +kernel) fun n_125 m_127 q_126 =>
    sf_p (in_cap f_121 f_92 (by decide) (cap_len (mem_of m_l3 (by decide)) q_123 q_126 (by decide))) <|
    sf_crS (T := [40, 54, 88, 99, 109, 119, 129, 139]) m_l3 (by decide +kernel) fun b_128 m_130 q_129 =>
    sf_lenS (m := 0) m_130 (by decide +kernel) fun n_131 m_133 q_132 =>
    sf_p (in_cap f_121 f_92 (by decide) (cap_len (mem_of m_l3 (by decide)) q_129 q_132 (by decide))) <|
    sf_crS (T := [39, 53, 87, 98, 108, 118, 128, 138]) m_l3 (by decide +kernel) fun b_134 m_136 q_135 =>
    sf_lenS (m := 0) m_136 (by decide +kernel) fun n_137 m_139 q_138 =>
    sf_p (in_cap f_121 f_92 (by decide) (cap_len (mem_of m_l3 (by decide)) q_135 q_138 (by decide))) <|
    sf_crS (T := [41, 55, 89, 100, 110, 120, 130, 140]) m_l3 (by decide +kernel) fun b_140 m_142 q_141 =>
    sf_lenS (m := 0) m_142 (by decide +kernel) fun n_143 m_145 q_144 =>
    sf_p (in_cap f_121 f_92 (by decide) (cap_len (mem_of m_l3 (by decide)) q_141 q_144 (by decide))) <|
    sf_qL (s_F_X5_longByP_R hN hR hS_V (rl_m (rl_w rg_t) (by decide) (by decide)) (rl_m (rl_w rg_t) (by decide) (by decide))) fun x_146 r_147 =>
    sf_ite (fun h_148 =>
    sf_ite (fun h_152 =>
    have f_155 := (cap_of ck_RcR (mem_of m_l3 (by decide)) hS_V (Int32.not_le.mp h_107))
    sf_eV (s_F_X5_shiftZone_R hN hR hS_V r_147 m_l3 (rg_m f_92 (by decide) (by decide)) f_155) fun V_156 e_157 hS_V_156 =>
    sf_sV hS_V_156)
     (fun h_152 =>
    sf_o (c := bo) (ref7 hS_V hR rfl) <|
    sf_p (lay_S hR.1 (by decide +kernel)) <|
    sf_ite (fun h_162 =>
    s_B_X5_shiftByReference_133_R hN hR hS_V r_147 (rg_m f_92 (by decide) (by decide)))
     (fun h_162 =>
    s_B_X5_shiftByReference_133_R hN hR hS_V r_147 (rg_m (rg_c (x := (-1 : Int32)) (n := -1) rfl) (by decide) (by decide)))))
     (fun h_148 =>
    sf_eV (s_F_X5_shiftPoints_R hN hR hS_V r_147) fun V_166 e_167 hS_V_166 =>
    sf_sV hS_V_166)))))))
theorem s_B_X5_shiftByReference_23_R {G : sv_V} {N : Nat} (hN : 8589934592 ≤ N) {bo bm : Nat} (hR : RefsOf G bo bm) {l1 : Int32} {l2 : Int32} {s1 : Int32} {V : sv_V} (hS_V : SIx T_cR G V) (r_l1 : rg l1 (0) (255)) (r_l2 : rg l2 (0) (1)) (r_s1 : rg s1 (0) (1)) : Sg (SIx T_cR G) (B_X5_shiftByReference_23 N l1 l2 s1 V) := by
  unfold B_X5_shiftByReference_23
  exact
    sf_pb (in_rg r_s1 (by decide) (by decide)) <|
    sf_iteb (fun h_6 =>
    sf_ob (c := bm) (ref6 hS_V hR rfl) <|
    sf_pb (lay_S hR.2.1 (by decide +kernel)) <|
    sf_assoc <|
    sf_crS (T := [34, 48]) hR.2.1 (by decide +kernel) fun b_8 m_10 q_9 =>
    sf_someb <|
    sf_ite (fun h_11 =>
    s_B_X5_shiftByReference_43_R hN hR hS_V r_l1 (mem_of m_10 (by decide)) (rg_m (rg_c (x := (2 : Int32)) (n := 2) rfl) (by decide) (by decide)))
     (fun h_11 =>
    s_B_X5_shiftByReference_43_R hN hR hS_V r_l1 (mem_of m_10 (by decide)) (rg_m (rg_c (x := (1 : Int32)) (n := 1) rfl) (by decide) (by decide))))
     (fun h_6 =>
    sf_ob (c := bo) (ref7 hS_V hR rfl) <|
    sf_someb <|
    sf_ite (fun h_15 =>
    s_B_X5_shiftByReference_43_R hN hR hS_V r_l1 (mem_of hR.1 (by decide)) (rg_m (rg_c (x := (2 : Int32)) (n := 2) rfl) (by decide) (by decide)))
     (fun h_15 =>
    s_B_X5_shiftByReference_43_R hN hR hS_V r_l1 (mem_of hR.1 (by decide)) (rg_m (rg_c (x := (1 : Int32)) (n := 1) rfl) (by decide) (by decide))))
theorem s_B_X5_shiftByReference_12_R {G : sv_V} {N : Nat} (hN : 8589934592 ≤ N) {bo bm : Nat} (hR : RefsOf G bo bm) {l1 : Int32} {s0 : Int32} {V : sv_V} (hS_V : SIx T_cR G V) (r_l1 : rg l1 (0) (255)) (r_s0 : rg s0 (0) (1)) : Sg (SIx T_cR G) (B_X5_shiftByReference_12 N l1 s0 V) := by
  unfold B_X5_shiftByReference_12
  exact
    sf_ite (fun h_1 =>
    have f_2 := (rg_eq h_1 (rg_c (x := (0 : Int32)) (n := 0) rfl))
    s_B_X5_shiftByReference_23_R hN hR hS_V r_l1 (rg_m f_2 (by decide) (by decide)) (rg_m (rg_c (x := (1 : Int32)) (n := 1) rfl) (by decide) (by decide)))
     (fun h_1 =>
    have f_3 := (rg_nel h_1 r_s0 (rg_c (x := (0 : Int32)) (n := 0) rfl))
    s_B_X5_shiftByReference_23_R hN hR hS_V r_l1 (rg_m f_3 (by decide) (by decide)) (rg_m (rg_c (x := (0 : Int32)) (n := 0) rfl) (by decide) (by decide)))
theorem s_F_X5_shiftByReference_R {G : sv_V} {N : Nat} (hN : 8589934592 ≤ N) {bo bm : Nat} (hR : RefsOf G bo bm) {l1 : Int32} {V : sv_V} (hS_V : SIx T_cR G V) (r_l1 : rg l1 (0) (255)) : Sg (SIx T_cR G) (F_X5_shiftByReference N l1 V) := by
  unfold F_X5_shiftByReference
  exact
    sf_ite (fun h_1 =>
    s_B_X5_shiftByReference_12_R hN hR hS_V r_l1 (rg_m (rg_c (x := (1 : Int32)) (n := 1) rfl) (by decide) (by decide)))
     (fun h_1 =>
    s_B_X5_shiftByReference_12_R hN hR hS_V r_l1 (rg_m (rg_c (x := (0 : Int32)) (n := 0) rfl) (by decide) (by decide)))
theorem s_B_X5_moveToCvt_147_R {G : sv_V} {hN_ : Nat} (hN : 8589934592 ≤ hN_) {bo bm : Nat} (hR : RefsOf G bo bm) {l3 : Int32} {l4 : Nat} {l5 : Int64} {l7 : Int64} {V : sv_V} (hS_V : SIx T_cR G V) (r_l3 : rg l3 (0) (101)) (m_l4 : l4 ∈ [34, 48, 82, 93, 103, 113, 123, 133]) (r_l7 : rl l7 (-2147483648) (2147483647)) (cp_l3_l4 : l3.toInt < cap l4) : Sg (SIx T_cR G) (B_X5_moveToCvt_147 l3 l4 l5 l7 V) := by
  unfold B_X5_moveToCvt_147
  exact
    sf_eV (s_F_X5_move_R hN hR hS_V m_l4 r_l3 cp_l3_l4) fun V_1 e_2 hS_V_1 =>
    sf_w (hS_V_1.wn on_RcR_71_0) fun V_4 q_5 hS_V_4 =>
    sf_w (hS_V_4.wn on_RcR_71_1) fun V_6 q_7 hS_V_6 =>
    sf_sV hS_V_6
theorem s_B_X5_moveToCvt_142_R {G : sv_V} {hN_ : Nat} (hN : 8589934592 ≤ hN_) {bo bm : Nat} (hR : RefsOf G bo bm) {l3 : Int32} {l4 : Nat} {l7 : Int64} {s1 : Int64} {V : sv_V} (hS_V : SIx T_cR G V) (r_l3 : rg l3 (0) (101)) (m_l4 : l4 ∈ [34, 48, 82, 93, 103, 113, 123, 133]) (r_l7 : rl l7 (-2147483648) (2147483647)) (r_s1 : rl s1 (-2147483648) (2147483647)) (cp_l3_l4 : l3.toInt < cap l4) : Sg (SIx T_cR G) (B_X5_moveToCvt_142 l3 l4 l7 s1 V) := by
  unfold B_X5_moveToCvt_142
  exact
    sf_qL (s_F_X9_rounded_R hN hR hS_V) fun x_1 r_2 =>
    s_B_X5_moveToCvt_147_R hN hR hS_V r_l3 m_l4 r_l7 cp_l3_l4
theorem s_B_X5_moveToCvt_81_R {G : sv_V} {hN_ : Nat} (hN : 8589934592 ≤ hN_) {bo bm : Nat} (hR : RefsOf G bo bm) {l1 : Int32} {l3 : Int32} {l4 : Nat} {l5 : Int64} {V : sv_V} (hS_V : SIx T_cR G V) (r_l1 : rg l1 (60) (63)) (r_l3 : rg l3 (0) (101)) (m_l4 : l4 ∈ [34, 48, 82, 93, 103, 113, 123, 133]) (r_l5 : rl l5 (-2147483648) (2147483647)) (cp_l3_l4 : l3.toInt < cap l4) : Sg (SIx T_cR G) (B_X5_moveToCvt_81 l1 l3 l4 l5 V) := by
  unfold B_X5_moveToCvt_81
  exact
    sf_p (lay_S m_l4 (by decide +kernel)) <|
    sf_crS (T := [38, 52, 86, 97, 107, 117, 127, 137]) m_l4 (by decide +kernel) fun b_1 m_3 q_2 =>
    sf_lenS (m := 0) m_3 (by decide +kernel) fun n_4 m_6 q_5 =>
    sf_p (in_cap cp_l3_l4 r_l3 (by decide) (cap_len (mem_of m_l4 (by decide)) q_2 q_5 (by decide))) <|
    sf_crS (T := [39, 53, 87, 98, 108, 118, 128, 138]) m_l4 (by decide +kernel) fun b_7 m_9 q_8 =>
    sf_lenS (m := 0) m_9 (by decide +kernel) fun n_10 m_12 q_11 =>
    sf_p (in_cap cp_l3_l4 r_l3 (by decide) (cap_len (mem_of m_l4 (by decide)) q_8 q_11 (by decide))) <|
    sf_qL (s_F_X5_longByP_R hN hR hS_V (rl_m (rl_w rg_t) (by decide) (by decide)) (rl_m (rl_w rg_t) (by decide) (by decide))) fun x_13 r_14 =>
    sf_ite (fun h_15 =>
    sf_qL (s_F_J9_abs_067f4_R hN hR hS_V) fun x_17 r_18 =>
    sf_o (c := bm) (ref6 hS_V hR rfl) <|
    sf_p (lay_S hR.2.1 (by decide +kernel)) <|
    sf_crS (T := [44, 58]) hR.2.1 (by decide +kernel) fun b_19 m_21 q_20 =>
    sf_lenE (n := 9) m_21 (by decide +kernel) <|
    sf_p (in_rg (rg_c (x := (0 : Int32)) (n := 0) rfl) (by decide) (by decide)) <|
    sf_ite (fun h_23 =>
    s_B_X5_moveToCvt_142_R hN hR hS_V r_l3 m_l4 r_14 r_l5 cp_l3_l4)
     (fun h_23 =>
    s_B_X5_moveToCvt_142_R hN hR hS_V r_l3 m_l4 r_14 r_14 cp_l3_l4))
     (fun h_15 =>
    s_B_X5_moveToCvt_147_R hN hR hS_V r_l3 m_l4 r_14 cp_l3_l4)
theorem s_F_X5_moveToCvt_R {G : sv_V} {hN_ : Nat} (hN : 8589934592 ≤ hN_) {bo bm : Nat} (hR : RefsOf G bo bm) {l1 : Int32} {V : sv_V} (hS_V : SIx T_cR G V) (r_l1 : rg l1 (60) (63)) : Sg (SIx T_cR G) (F_X5_moveToCvt l1 V) := by
  unfold F_X5_moveToCvt
  exact
    sf_eI (s_F_X5_pop_R hN hR hS_V) fun x_1 V_2 e_4 hS_V_2 r_3 =>
    sf_eI (s_F_X5_pop_R hN hR hS_V_2) fun x_6 V_7 e_9 hS_V_7 r_8 =>
    sf_pb (in_rg (rg_c (x := (0 : Int32)) (n := 0) rfl) (by decide) (by decide)) <|
    sf_iteb (fun h_16 =>
    have f_17 := (rg_eq h_16 (rg_c (x := (0 : Int32)) (n := 0) rfl))
    sf_ob (c := bm) (ref6 hS_V_7 hR rfl) <|
    sf_pb (lay_S hR.2.1 (by decide +kernel)) <|
    sf_assoc <|
    sf_crS (T := [34, 48]) hR.2.1 (by decide +kernel) fun b_18 m_20 q_19 =>
    sf_someb <|
    sf_assoc <|
    sf_iteb (fun h_30 =>
    have f_31 := (rg_hlt h_30 r_8 (rg_c (x := (0 : Int32)) (n := 0) rfl))
    sf_someb <|
    sf_pb (lay_S m_20 (by decide +kernel)) <|
    sf_iteb (fun h_32 =>
    sf_wb (hS_V_7.wc oi_RcR_69_14 (rg_m (rg_c (x := (5 : Int32)) (n := 5) rfl) (by decide) (by decide))) fun V_33 q_34 hS_V_33 =>
    sf_assoc <|
    sf_iteb (fun h_43 =>
    sf_someb <|
    sf_pb (lay_S m_20 (by decide +kernel)) <|
    sf_pb (bl_rg (rg_c (x := (0 : Int32)) (n := 0) rfl) (by decide) (by decide)) <|
    sf_someb <|
    sf_ite (fun h_44 =>
    sf_sV hS_V_33)
     (fun h_44 =>
    False.elim (rg_none h_44 (rg_c (x := (0 : Int32)) (n := 0) rfl) (rg_c (x := (0 : Int32)) (n := 0) rfl))))
     (fun h_43 =>
    False.elim (rg_nole (Int32.not_lt.mp h_43) (rg_c (x := (0 : Int32)) (n := 0) rfl) f_31 (by decide))))
     (fun h_32 =>
    False.elim (rg_none h_32 (rg_c (x := (0 : Int32)) (n := 0) rfl) (rg_c (x := (0 : Int32)) (n := 0) rfl))))
     (fun h_30 =>
    have f_45 := (rg_lle (Int32.not_lt.mp h_30) (rg_c (x := (0 : Int32)) (n := 0) rfl) r_8)
    sf_pb (lay_S m_20 (by decide +kernel)) <|
    sf_iteb (fun h_46 =>
    sf_someb <|
    sf_pb (lay_S m_20 (by decide +kernel)) <|
    sf_iteb (fun h_47 =>
    sf_wb (hS_V_7.wc oi_RcR_69_14 (rg_m (rg_c (x := (5 : Int32)) (n := 5) rfl) (by decide) (by decide))) fun V_48 q_49 hS_V_48 =>
    sf_assoc <|
    sf_iteb (fun h_58 =>
    False.elim (rg_nolt h_58 f_45 (rg_c (x := (0 : Int32)) (n := 0) rfl) (by decide)))
     (fun h_58 =>
    sf_pb (lay_S m_20 (by decide +kernel)) <|
    sf_iteb (fun h_59 =>
    sf_someb <|
    sf_pb (lay_S m_20 (by decide +kernel)) <|
    sf_pb (bl_rg (rg_c (x := (0 : Int32)) (n := 0) rfl) (by decide) (by decide)) <|
    sf_someb <|
    sf_ite (fun h_60 =>
    sf_sV hS_V_48)
     (fun h_60 =>
    False.elim (rg_none h_60 (rg_c (x := (0 : Int32)) (n := 0) rfl) (rg_c (x := (0 : Int32)) (n := 0) rfl))))
     (fun h_59 =>
    have f_61 := (rg_hlt (Int32.not_le.mp h_59) f_45 (rg_add (hS_V_48.rdS m_20 rs_RcR_3448_9_0_64) (hS_V_48.rdS m_20 rs_RcR_3448_11_0_0) (by decide) (by decide)))
    have f_62 := (rg_llt (Int32.not_le.mp h_59) f_45 (rg_add (hS_V_48.rdS m_20 rs_RcR_3448_9_0_64) (hS_V_48.rdS m_20 rs_RcR_3448_11_0_0) (by decide) (by decide)))
    have f_63 := (rg_addL f_62 (hS_V_48.rdS m_20 rs_RcR_3448_9_0_64) (hS_V_48.rdS m_20 rs_RcR_3448_11_0_0) (by decide) (by decide))
    have f_65 := (rg_hle h_46 (rg_add (hS_V_7.rdS m_20 rs_RcR_3448_9_0_64) (hS_V_7.rdS m_20 rs_RcR_3448_11_0_0) (by decide) (by decide)) f_61)
    have f_66 := (rg_addL f_65 (hS_V_7.rdS m_20 rs_RcR_3448_9_0_64) (hS_V_7.rdS m_20 rs_RcR_3448_11_0_0) (by decide) (by decide))
    sf_someb <|
    sf_pb (lay_S m_20 (by decide +kernel)) <|
    sf_pb (bl_rg (rg_c (x := (1 : Int32)) (n := 1) rfl) (by decide) (by decide)) <|
    sf_someb <|
    sf_ite (fun h_67 =>
    False.elim (rg_noeq h_67 (rg_c (x := (1 : Int32)) (n := 1) rfl) (rg_c (x := (0 : Int32)) (n := 0) rfl) (by decide)))
     (fun h_67 =>
    have f_68 := (rg_hlt (Int32.not_le.mp h_59) f_61 (rg_add (rg_i f_63 (wr_k q_49 (by decide) f_66)) (hS_V_48.rdS m_20 rs_RcR_3448_11_0_0) (by decide) (by decide)))
    sf_o (c := bm) (ref6 hS_V_48 hR rfl) <|
    sf_iteb (fun h_73 =>
    sf_someb <|
    sf_p (lay_S hR.2.1 (by decide +kernel)) <|
    sf_ite (fun h_79 =>
    sf_w (hS_V_48.wc oi_RcR_69_14 (rg_m (rg_c (x := (6 : Int32)) (n := 6) rfl) (by decide) (by decide))) fun V_84 q_85 hS_V_84 =>
    sf_sV hS_V_84)
     (fun h_79 =>
    False.elim (rg_none h_79 (rg_c (x := (0 : Int32)) (n := 0) rfl) (rg_c (x := (0 : Int32)) (n := 0) rfl))))
     (fun h_73 =>
    have f_86 := (rg_lle (Int32.not_lt.mp h_73) (rg_c (x := (0 : Int32)) (n := 0) rfl) r_3)
    have f_87 := (rg_hle h_46 (rg_add f_66 (hS_V_7.rdS m_20 rs_RcR_3448_11_0_0) (by decide) (by decide)) f_68)
    have f_88 := (rg_addL f_87 f_66 (hS_V_7.rdS m_20 rs_RcR_3448_11_0_0) (by decide) (by decide))
    have f_89 := (rg_hlt (Int32.not_le.mp h_59) f_68 (rg_add (rg_i (rg_i f_63 (wr_k q_49 (by decide) f_66)) (wr_k q_49 (by decide) f_88)) (hS_V_48.rdS m_20 rs_RcR_3448_11_0_0) (by decide) (by decide)))
    sf_pb (lay_S hR.2.1 (by decide +kernel)) <|
    sf_iteb (fun h_91 =>
    sf_someb <|
    sf_p (lay_S hR.2.1 (by decide +kernel)) <|
    sf_ite (fun h_96 =>
    sf_w (hS_V_48.wc oi_RcR_69_14 (rg_m (rg_c (x := (6 : Int32)) (n := 6) rfl) (by decide) (by decide))) fun V_98 q_99 hS_V_98 =>
    sf_sV hS_V_98)
     (fun h_96 =>
    False.elim (rg_none h_96 (rg_c (x := (0 : Int32)) (n := 0) rfl) (rg_c (x := (0 : Int32)) (n := 0) rfl))))
     (fun h_91 =>
    have f_100 := (rg_hlt (Int32.not_le.mp h_91) f_86 (hS_V_48.rdS hR.2.1 rs_RcR_3145_1_0_256))
    have f_102 := (rg_hle h_46 (rg_add f_88 (hS_V_7.rdS m_20 rs_RcR_3448_11_0_0) (by decide) (by decide)) f_89)
    have f_103 := (rg_addL f_102 f_88 (hS_V_7.rdS m_20 rs_RcR_3448_11_0_0) (by decide) (by decide))
    have f_104 := (rg_hlt (Int32.not_le.mp h_59) f_89 (rg_add (rg_i (rg_i (rg_i f_63 (wr_k q_49 (by decide) f_66)) (wr_k q_49 (by decide) f_88)) (wr_k q_49 (by decide) f_103)) (hS_V_48.rdS m_20 rs_RcR_3448_11_0_0) (by decide) (by decide)))
    sf_someb <|
    sf_p (lay_S hR.2.1 (by decide +kernel)) <|
    sf_ite (fun h_106 =>
    False.elim (rg_noeq h_106 (rg_c (x := (1 : Int32)) (n := 1) rfl) (rg_c (x := (0 : Int32)) (n := 0) rfl) (by decide)))
     (fun h_106 =>
    sf_o (c := bm) (ref6 hS_V_48 hR rfl) <|
    sf_p (lay_S hR.2.1 (by decide +kernel)) <|
    sf_crS (T := [32, 46]) hR.2.1 (by decide +kernel) fun b_108 m_110 q_109 =>
    sf_lenE (n := 256) m_110 (by decide +kernel) <|
    sf_p (in_rg f_100 (by decide) (by decide)) <|
    sf_let fun x_112 q_113 =>
    have f_114 := rl_eq q_113 (rl_w rg_t)
    sf_ite (fun h_115 =>
    have f_116 := (cap_of ck_RcR (mem_of m_20 (by decide)) hS_V_48 (Int32.not_le.mp h_59))
    sf_eV (s_F_X5_plant_R hN hR hS_V_48 m_20 (rg_m f_104 (by decide) (by decide)) f_116) fun V_117 e_118 hS_V_117 =>
    s_B_X5_moveToCvt_81_R hN hR hS_V_117 r_l1 (rg_m f_104 (by decide) (by decide)) (mem_of m_20 (by decide)) (rl_m f_114 (by decide) (by decide)) f_116)
     (fun h_115 =>
    False.elim (rg_none h_115 (wr_k q_49 (by decide) f_17) (rg_c (x := (0 : Int32)) (n := 0) rfl))))))))))
     (fun h_47 =>
    False.elim (rg_none h_47 (rg_c (x := (0 : Int32)) (n := 0) rfl) (rg_c (x := (0 : Int32)) (n := 0) rfl))))
     (fun h_46 =>
    have f_120 := (rg_hlt (Int32.not_le.mp h_46) f_45 (rg_add (hS_V_7.rdS m_20 rs_RcR_3448_9_0_64) (hS_V_7.rdS m_20 rs_RcR_3448_11_0_0) (by decide) (by decide)))
    sf_someb <|
    sf_pb (lay_S m_20 (by decide +kernel)) <|
    sf_iteb (fun h_124 =>
    False.elim (rg_noeq h_124 (rg_c (x := (1 : Int32)) (n := 1) rfl) (rg_c (x := (0 : Int32)) (n := 0) rfl) (by decide)))
     (fun h_124 =>
    sf_assoc <|
    sf_iteb (fun h_134 =>
    False.elim (rg_nolt h_134 f_120 (rg_c (x := (0 : Int32)) (n := 0) rfl) (by decide)))
     (fun h_134 =>
    sf_pb (lay_S m_20 (by decide +kernel)) <|
    sf_iteb (fun h_136 =>
    sf_someb <|
    sf_pb (lay_S m_20 (by decide +kernel)) <|
    sf_pb (bl_rg (rg_c (x := (0 : Int32)) (n := 0) rfl) (by decide) (by decide)) <|
    sf_someb <|
    sf_ite (fun h_144 =>
    sf_sV hS_V_7)
     (fun h_144 =>
    False.elim (rg_none h_144 (rg_c (x := (0 : Int32)) (n := 0) rfl) (rg_c (x := (0 : Int32)) (n := 0) rfl))))
     (fun h_136 =>
    sf_someb <|
    sf_pb (lay_S m_20 (by decide +kernel)) <|
    sf_pb (bl_rg (rg_c (x := (1 : Int32)) (n := 1) rfl) (by decide) (by decide)) <|
    sf_someb <|
    sf_ite (fun h_151 =>
    False.elim (rg_noeq h_151 (rg_c (x := (1 : Int32)) (n := 1) rfl) (rg_c (x := (0 : Int32)) (n := 0) rfl) (by decide)))
     (fun h_151 =>
    sf_o (c := bm) (ref6 hS_V_7 hR rfl) <|
    sf_iteb (fun h_157 =>
    sf_someb <|
    sf_p (lay_S hR.2.1 (by decide +kernel)) <|
    sf_ite (fun h_161 =>
    sf_w (hS_V_7.wc oi_RcR_69_14 (rg_m (rg_c (x := (6 : Int32)) (n := 6) rfl) (by decide) (by decide))) fun V_164 q_165 hS_V_164 =>
    sf_sV hS_V_164)
     (fun h_161 =>
    False.elim (rg_none h_161 (rg_c (x := (0 : Int32)) (n := 0) rfl) (rg_c (x := (0 : Int32)) (n := 0) rfl))))
     (fun h_157 =>
    have f_166 := (rg_lle (Int32.not_lt.mp h_157) (rg_c (x := (0 : Int32)) (n := 0) rfl) r_3)
    sf_pb (lay_S hR.2.1 (by decide +kernel)) <|
    sf_iteb (fun h_169 =>
    sf_someb <|
    sf_p (lay_S hR.2.1 (by decide +kernel)) <|
    sf_ite (fun h_172 =>
    sf_w (hS_V_7.wc oi_RcR_69_14 (rg_m (rg_c (x := (6 : Int32)) (n := 6) rfl) (by decide) (by decide))) fun V_174 q_175 hS_V_174 =>
    sf_sV hS_V_174)
     (fun h_172 =>
    False.elim (rg_none h_172 (rg_c (x := (0 : Int32)) (n := 0) rfl) (rg_c (x := (0 : Int32)) (n := 0) rfl))))
     (fun h_169 =>
    have f_176 := (rg_hlt (Int32.not_le.mp h_169) f_166 (hS_V_7.rdS hR.2.1 rs_RcR_3145_1_0_256))
    sf_someb <|
    sf_p (lay_S hR.2.1 (by decide +kernel)) <|
    sf_ite (fun h_180 =>
    False.elim (rg_noeq h_180 (rg_c (x := (1 : Int32)) (n := 1) rfl) (rg_c (x := (0 : Int32)) (n := 0) rfl) (by decide)))
     (fun h_180 =>
    sf_o (c := bm) (ref6 hS_V_7 hR rfl) <|
    sf_p (lay_S hR.2.1 (by decide +kernel)) <|
    sf_crS (T := [32, 46]) hR.2.1 (by decide +kernel) fun b_182 m_184 q_183 =>
    sf_lenE (n := 256) m_184 (by decide +kernel) <|
    sf_p (in_rg f_176 (by decide) (by decide)) <|
    sf_let fun x_186 q_187 =>
    have f_188 := rl_eq q_187 (rl_w rg_t)
    sf_ite (fun h_189 =>
    have f_190 := (cap_of ck_RcR (mem_of m_20 (by decide)) hS_V_7 (Int32.not_le.mp h_136))
    sf_eV (s_F_X5_plant_R hN hR hS_V_7 m_20 (rg_m f_120 (by decide) (by decide)) f_190) fun V_191 e_192 hS_V_191 =>
    s_B_X5_moveToCvt_81_R hN hR hS_V_191 r_l1 (rg_m f_120 (by decide) (by decide)) (mem_of m_20 (by decide)) (rl_m f_188 (by decide) (by decide)) f_190)
     (fun h_189 =>
    False.elim (rg_none h_189 f_17 (rg_c (x := (0 : Int32)) (n := 0) rfl)))))))))))))
     (fun h_16 =>
    have f_194 := (rg_nel h_16 (hS_V_7.rd r_RcR_72_0) (rg_c (x := (0 : Int32)) (n := 0) rfl))
    sf_ob (c := bo) (ref7 hS_V_7 hR rfl) <|
    sf_someb <|
    sf_assoc <|
    sf_iteb (fun h_204 =>
    have f_205 := (rg_hlt h_204 r_8 (rg_c (x := (0 : Int32)) (n := 0) rfl))
    sf_someb <|
    sf_pb (lay_S hR.1 (by decide +kernel)) <|
    sf_iteb (fun h_206 =>
    sf_wb (hS_V_7.wc oi_RcR_69_14 (rg_m (rg_c (x := (5 : Int32)) (n := 5) rfl) (by decide) (by decide))) fun V_207 q_208 hS_V_207 =>
    sf_assoc <|
    sf_iteb (fun h_217 =>
    sf_someb <|
    sf_pb (lay_S hR.1 (by decide +kernel)) <|
    sf_pb (bl_rg (rg_c (x := (0 : Int32)) (n := 0) rfl) (by decide) (by decide)) <|
    sf_someb <|
    sf_ite (fun h_218 =>
    sf_sV hS_V_207)
     (fun h_218 =>
    False.elim (rg_none h_218 (rg_c (x := (0 : Int32)) (n := 0) rfl) (rg_c (x := (0 : Int32)) (n := 0) rfl))))
     (fun h_217 =>
    False.elim (rg_nole (Int32.not_lt.mp h_217) (rg_c (x := (0 : Int32)) (n := 0) rfl) f_205 (by decide))))
     (fun h_206 =>
    False.elim (rg_none h_206 (rg_c (x := (0 : Int32)) (n := 0) rfl) (rg_c (x := (0 : Int32)) (n := 0) rfl))))
     (fun h_204 =>
    have f_219 := (rg_lle (Int32.not_lt.mp h_204) (rg_c (x := (0 : Int32)) (n := 0) rfl) r_8)
    sf_pb (lay_S hR.1 (by decide +kernel)) <|
    sf_iteb (fun h_220 =>
    sf_someb <|
    sf_pb (lay_S hR.1 (by decide +kernel)) <|
    sf_iteb (fun h_221 =>
    sf_wb (hS_V_7.wc oi_RcR_69_14 (rg_m (rg_c (x := (5 : Int32)) (n := 5) rfl) (by decide) (by decide))) fun V_222 q_223 hS_V_222 =>
    sf_assoc <|
    sf_iteb (fun h_232 =>
    False.elim (rg_nolt h_232 f_219 (rg_c (x := (0 : Int32)) (n := 0) rfl) (by decide)))
     (fun h_232 =>
    sf_pb (lay_S hR.1 (by decide +kernel)) <|
    sf_iteb (fun h_233 =>
    sf_someb <|
    sf_pb (lay_S hR.1 (by decide +kernel)) <|
    sf_pb (bl_rg (rg_c (x := (0 : Int32)) (n := 0) rfl) (by decide) (by decide)) <|
    sf_someb <|
    sf_ite (fun h_234 =>
    sf_sV hS_V_222)
     (fun h_234 =>
    False.elim (rg_none h_234 (rg_c (x := (0 : Int32)) (n := 0) rfl) (rg_c (x := (0 : Int32)) (n := 0) rfl))))
     (fun h_233 =>
    have f_235 := (rg_hlt (Int32.not_le.mp h_233) f_219 (rg_add (hS_V_222.rdS hR.1 rs_RcR_8293103113123133_9_0_100) (hS_V_222.rdS hR.1 rs_RcR_8293103113123133_11_0_2) (by decide) (by decide)))
    sf_someb <|
    sf_pb (lay_S hR.1 (by decide +kernel)) <|
    sf_pb (bl_rg (rg_c (x := (1 : Int32)) (n := 1) rfl) (by decide) (by decide)) <|
    sf_someb <|
    sf_ite (fun h_239 =>
    False.elim (rg_noeq h_239 (rg_c (x := (1 : Int32)) (n := 1) rfl) (rg_c (x := (0 : Int32)) (n := 0) rfl) (by decide)))
     (fun h_239 =>
    sf_o (c := bm) (ref6 hS_V_222 hR rfl) <|
    sf_iteb (fun h_244 =>
    sf_someb <|
    sf_p (lay_S hR.2.1 (by decide +kernel)) <|
    sf_ite (fun h_247 =>
    sf_w (hS_V_222.wc oi_RcR_69_14 (rg_m (rg_c (x := (6 : Int32)) (n := 6) rfl) (by decide) (by decide))) fun V_249 q_250 hS_V_249 =>
    sf_sV hS_V_249)
     (fun h_247 =>
    False.elim (rg_none h_247 (rg_c (x := (0 : Int32)) (n := 0) rfl) (rg_c (x := (0 : Int32)) (n := 0) rfl))))
     (fun h_244 =>
    have f_251 := (rg_lle (Int32.not_lt.mp h_244) (rg_c (x := (0 : Int32)) (n := 0) rfl) r_3)
    sf_pb (lay_S hR.2.1 (by decide +kernel)) <|
    sf_iteb (fun h_253 =>
    sf_someb <|
    sf_p (lay_S hR.2.1 (by decide +kernel)) <|
    sf_ite (fun h_255 =>
    sf_w (hS_V_222.wc oi_RcR_69_14 (rg_m (rg_c (x := (6 : Int32)) (n := 6) rfl) (by decide) (by decide))) fun V_257 q_258 hS_V_257 =>
    sf_sV hS_V_257)
     (fun h_255 =>
    False.elim (rg_none h_255 (rg_c (x := (0 : Int32)) (n := 0) rfl) (rg_c (x := (0 : Int32)) (n := 0) rfl))))
     (fun h_253 =>
    have f_259 := (rg_hlt (Int32.not_le.mp h_253) f_251 (hS_V_222.rdS hR.2.1 rs_RcR_3145_1_0_256))
    sf_someb <|
    sf_p (lay_S hR.2.1 (by decide +kernel)) <|
    sf_ite (fun h_262 =>
    False.elim (rg_noeq h_262 (rg_c (x := (1 : Int32)) (n := 1) rfl) (rg_c (x := (0 : Int32)) (n := 0) rfl) (by decide)))
     (fun h_262 =>
    sf_o (c := bm) (ref6 hS_V_222 hR rfl) <|
    sf_p (lay_S hR.2.1 (by decide +kernel)) <|
    sf_crS (T := [32, 46]) hR.2.1 (by decide +kernel) fun b_264 m_266 q_265 =>
    sf_lenE (n := 256) m_266 (by decide +kernel) <|
    sf_p (in_rg f_259 (by decide) (by decide)) <|
    sf_let fun x_268 q_269 =>
    have f_270 := rl_eq q_269 (rl_w rg_t)
    sf_ite (fun h_271 =>
    False.elim (rg_noeq h_271 (wr_k q_223 (by decide) f_194) (rg_c (x := (0 : Int32)) (n := 0) rfl) (by decide)))
     (fun h_271 =>
    have f_272 := (cap_of ck_RcR (mem_of hR.1 (by decide)) hS_V_222 (Int32.not_le.mp h_233))
    s_B_X5_moveToCvt_81_R hN hR hS_V_222 r_l1 (rg_m f_235 (by decide) (by decide)) (mem_of hR.1 (by decide)) (rl_m f_270 (by decide) (by decide)) f_272))))))))
     (fun h_221 =>
    False.elim (rg_none h_221 (rg_c (x := (0 : Int32)) (n := 0) rfl) (rg_c (x := (0 : Int32)) (n := 0) rfl))))
     (fun h_220 =>
    have f_273 := (rg_hlt (Int32.not_le.mp h_220) f_219 (rg_add (hS_V_7.rdS hR.1 rs_RcR_8293103113123133_9_0_100) (hS_V_7.rdS hR.1 rs_RcR_8293103113123133_11_0_2) (by decide) (by decide)))
    sf_someb <|
    sf_pb (lay_S hR.1 (by decide +kernel)) <|
    sf_iteb (fun h_276 =>
    False.elim (rg_noeq h_276 (rg_c (x := (1 : Int32)) (n := 1) rfl) (rg_c (x := (0 : Int32)) (n := 0) rfl) (by decide)))
     (fun h_276 =>
    sf_assoc <|
    sf_iteb (fun h_286 =>
    False.elim (rg_nolt h_286 f_273 (rg_c (x := (0 : Int32)) (n := 0) rfl) (by decide)))
     (fun h_286 =>
    sf_pb (lay_S hR.1 (by decide +kernel)) <|
    sf_iteb (fun h_288 =>
    sf_someb <|
    sf_pb (lay_S hR.1 (by decide +kernel)) <|
    sf_pb (bl_rg (rg_c (x := (0 : Int32)) (n := 0) rfl) (by decide) (by decide)) <|
    sf_someb <|
    sf_ite (fun h_294 =>
    sf_sV hS_V_7)
     (fun h_294 =>
    False.elim (rg_none h_294 (rg_c (x := (0 : Int32)) (n := 0) rfl) (rg_c (x := (0 : Int32)) (n := 0) rfl))))
     (fun h_288 =>
    sf_someb <|
    sf_pb (lay_S hR.1 (by decide +kernel)) <|
    sf_pb (bl_rg (rg_c (x := (1 : Int32)) (n := 1) rfl) (by decide) (by decide)) <|
    sf_someb <|
    sf_ite (fun h_300 =>
    False.elim (rg_noeq h_300 (rg_c (x := (1 : Int32)) (n := 1) rfl) (rg_c (x := (0 : Int32)) (n := 0) rfl) (by decide)))
     (fun h_300 =>
    sf_o (c := bm) (ref6 hS_V_7 hR rfl) <|
    sf_iteb (fun h_306 =>
    sf_someb <|
    sf_p (lay_S hR.2.1 (by decide +kernel)) <|
    sf_ite (fun h_310 =>
    sf_w (hS_V_7.wc oi_RcR_69_14 (rg_m (rg_c (x := (6 : Int32)) (n := 6) rfl) (by decide) (by decide))) fun V_313 q_314 hS_V_313 =>
    sf_sV hS_V_313)
     (fun h_310 =>
    False.elim (rg_none h_310 (rg_c (x := (0 : Int32)) (n := 0) rfl) (rg_c (x := (0 : Int32)) (n := 0) rfl))))
     (fun h_306 =>
    have f_315 := (rg_lle (Int32.not_lt.mp h_306) (rg_c (x := (0 : Int32)) (n := 0) rfl) r_3)
    sf_pb (lay_S hR.2.1 (by decide +kernel)) <|
    sf_iteb (fun h_318 =>
    sf_someb <|
    sf_p (lay_S hR.2.1 (by decide +kernel)) <|
    sf_ite (fun h_321 =>
    sf_w (hS_V_7.wc oi_RcR_69_14 (rg_m (rg_c (x := (6 : Int32)) (n := 6) rfl) (by decide) (by decide))) fun V_323 q_324 hS_V_323 =>
    sf_sV hS_V_323)
     (fun h_321 =>
    False.elim (rg_none h_321 (rg_c (x := (0 : Int32)) (n := 0) rfl) (rg_c (x := (0 : Int32)) (n := 0) rfl))))
     (fun h_318 =>
    have f_325 := (rg_hlt (Int32.not_le.mp h_318) f_315 (hS_V_7.rdS hR.2.1 rs_RcR_3145_1_0_256))
    sf_someb <|
    sf_p (lay_S hR.2.1 (by decide +kernel)) <|
    sf_ite (fun h_329 =>
    False.elim (rg_noeq h_329 (rg_c (x := (1 : Int32)) (n := 1) rfl) (rg_c (x := (0 : Int32)) (n := 0) rfl) (by decide)))
     (fun h_329 =>
    sf_o (c := bm) (ref6 hS_V_7 hR rfl) <|
    sf_p (lay_S hR.2.1 (by decide +kernel)) <|
    sf_crS (T := [32, 46]) hR.2.1 (by decide +kernel) fun b_331 m_333 q_332 =>
    sf_lenE (n := 256) m_333 (by decide +kernel) <|
    sf_p (in_rg f_325 (by decide) (by decide)) <|
    sf_let fun x_335 q_336 =>
    have f_337 := rl_eq q_336 (rl_w rg_t)
    sf_ite (fun h_338 =>
    False.elim (rg_noeq h_338 f_194 (rg_c (x := (0 : Int32)) (n := 0) rfl) (by decide)))
     (fun h_338 =>
    have f_339 := (cap_of ck_RcR (mem_of hR.1 (by decide)) hS_V_7 (Int32.not_le.mp h_288))
    s_B_X5_moveToCvt_81_R hN hR hS_V_7 r_l1 (rg_m f_273 (by decide) (by decide)) (mem_of hR.1 (by decide)) (rl_m f_337 (by decide) (by decide)) f_339)))))))))))
theorem s_B_X5_moveAsOriginal_138_R {G : sv_V} {hN_ : Nat} (hN : 8589934592 ≤ hN_) {bo bm : Nat} (hR : RefsOf G bo bm) {s1 : Int32} {s2 : Int32} {V : sv_V} (hS_V : SIx T_cR G V) (r_s1 : rg s1 (0) (101)) (r_s2 : rg s2 (0) (1)) : Sg (SIx T_cR G) (B_X5_moveAsOriginal_138 s1 s2 V) := by
  unfold B_X5_moveAsOriginal_138
  exact
    sf_eV (s_F_X5_noteReferences_R hN hR hS_V r_s1 r_s2) fun V_1 e_2 hS_V_1 =>
    sf_sV hS_V_1
theorem s_B_X5_moveAsOriginal_105_R {G : sv_V} {hN_ : Nat} (hN : 8589934592 ≤ hN_) {bo bm : Nat} (hR : RefsOf G bo bm) {l1 : Int32} {l2 : Int32} {l3 : Nat} {l4 : Nat} {l5 : Int32} {l8 : Int64} {V : sv_V} (hS_V : SIx T_cR G V) (r_l1 : rg l1 (64) (223)) (r_l2 : rg l2 (0) (101)) (m_l3 : l3 ∈ [34, 48, 82, 93, 103, 113, 123, 133]) (m_l4 : l4 ∈ [34, 48, 82, 93, 103, 113, 123, 133]) (r_l5 : rg l5 (0) (101)) (cp_l2_l3 : l2.toInt < cap l3) (cp_l5_l4 : l5.toInt < cap l4) : Sg (SIx T_cR G) (B_X5_moveAsOriginal_105 l1 l2 l3 l4 l5 l8 V) := by
  unfold B_X5_moveAsOriginal_105
  exact
    sf_qL (s_F_X5_longBetween_R hN hR hS_V m_l3 r_l2 m_l4 r_l5 cp_l2_l3 cp_l5_l4) fun x_1 r_2 =>
    sf_eV (s_F_X5_move_R hN hR hS_V m_l3 r_l2 cp_l2_l3) fun V_3 e_4 hS_V_3 =>
    sf_ite (fun h_6 =>
    s_B_X5_moveAsOriginal_138_R hN hR hS_V_3 r_l2 (rg_m (rg_c (x := (0 : Int32)) (n := 0) rfl) (by decide) (by decide)))
     (fun h_6 =>
    s_B_X5_moveAsOriginal_138_R hN hR hS_V_3 r_l2 (rg_m (rg_c (x := (1 : Int32)) (n := 1) rfl) (by decide) (by decide)))
theorem s_B_X5_moveAsOriginal_86_R {G : sv_V} {hN_ : Nat} (hN : 8589934592 ≤ hN_) {bo bm : Nat} (hR : RefsOf G bo bm) {l1 : Int32} {l2 : Int32} {l3 : Nat} {l4 : Nat} {l5 : Int32} {l6 : Int64} {s0 : Int64} {V : sv_V} (hS_V : SIx T_cR G V) (r_l1 : rg l1 (64) (223)) (r_l2 : rg l2 (0) (101)) (m_l3 : l3 ∈ [34, 48, 82, 93, 103, 113, 123, 133]) (m_l4 : l4 ∈ [34, 48, 82, 93, 103, 113, 123, 133]) (r_l5 : rg l5 (0) (101)) (cp_l2_l3 : l2.toInt < cap l3) (cp_l5_l4 : l5.toInt < cap l4) : Sg (SIx T_cR G) (B_X5_moveAsOriginal_86 l1 l2 l3 l4 l5 l6 s0 V) := by
  unfold B_X5_moveAsOriginal_86
  exact
    sf_ite (fun h_1 =>
    s_B_X5_moveAsOriginal_105_R hN hR hS_V r_l1 r_l2 m_l3 m_l4 r_l5 cp_l2_l3 cp_l5_l4)
     (fun h_1 =>
    sf_qL (s_F_X5_atLeast_R hN hR hS_V) fun x_4 r_5 =>
    s_B_X5_moveAsOriginal_105_R hN hR hS_V r_l1 r_l2 m_l3 m_l4 r_l5 cp_l2_l3 cp_l5_l4)
end
section
/-! safety, c, 16 -/
theorem s_F_X5_moveAsOriginal_R {G : sv_V} {hN_ : Nat} (hN : 8589934592 ≤ hN_) {bo bm : Nat} (hR : RefsOf G bo bm) {l1 : Int32} {V : sv_V} (hS_V : SIx T_cR G V) (r_l1 : rg l1 (64) (223)) : Sg (SIx T_cR G) (F_X5_moveAsOriginal l1 V) := by
  unfold F_X5_moveAsOriginal
  exact
    sf_eI (s_F_X5_pop_R hN hR hS_V) fun x_1 V_2 e_4 hS_V_2 r_3 =>
    sf_pb (in_rg (rg_c (x := (1 : Int32)) (n := 1) rfl) (by decide) (by decide)) <|
    sf_iteb (fun h_11 =>
    sf_ob (c := bm) (ref6 hS_V_2 hR rfl) <|
    sf_pb (lay_S hR.2.1 (by decide +kernel)) <|
    sf_assoc <|
    sf_crS (T := [34, 48]) hR.2.1 (by decide +kernel) fun b_13 m_15 q_14 =>
    sf_someb <|
    sf_pb (in_rg (rg_c (x := (0 : Int32)) (n := 0) rfl) (by decide) (by decide)) <|
    sf_iteb (fun h_21 =>
    sf_ob (c := bm) (ref6 hS_V_2 hR rfl) <|
    sf_pb (lay_S hR.2.1 (by decide +kernel)) <|
    sf_ob (c := b_13) q_14 <|
    sf_someb <|
    sf_let fun x_23 q_24 =>
    sf_assoc <|
    sf_iteb (fun h_34 =>
    have f_35 := (rg_hlt h_34 r_3 (rg_c (x := (0 : Int32)) (n := 0) rfl))
    sf_someb <|
    sf_pb (lay_S m_15 (by decide +kernel)) <|
    sf_iteb (fun h_36 =>
    sf_wb (hS_V_2.wc oi_RcR_69_14 (rg_m (rg_c (x := (5 : Int32)) (n := 5) rfl) (by decide) (by decide))) fun V_37 q_38 hS_V_37 =>
    sf_assoc <|
    sf_iteb (fun h_47 =>
    sf_someb <|
    sf_pb (lay_S m_15 (by decide +kernel)) <|
    sf_pb (bl_rg (rg_c (x := (0 : Int32)) (n := 0) rfl) (by decide) (by decide)) <|
    sf_someb <|
    sf_ite (fun h_48 =>
    sf_sV hS_V_37)
     (fun h_48 =>
    False.elim (rg_none h_48 (rg_c (x := (0 : Int32)) (n := 0) rfl) (rg_c (x := (0 : Int32)) (n := 0) rfl))))
     (fun h_47 =>
    False.elim (rg_nole (Int32.not_lt.mp h_47) (rg_c (x := (0 : Int32)) (n := 0) rfl) f_35 (by decide))))
     (fun h_36 =>
    False.elim (rg_none h_36 (rg_c (x := (0 : Int32)) (n := 0) rfl) (rg_c (x := (0 : Int32)) (n := 0) rfl))))
     (fun h_34 =>
    have f_49 := (rg_lle (Int32.not_lt.mp h_34) (rg_c (x := (0 : Int32)) (n := 0) rfl) r_3)
    sf_pb (lay_S m_15 (by decide +kernel)) <|
    sf_iteb (fun h_50 =>
    sf_someb <|
    sf_pb (lay_S m_15 (by decide +kernel)) <|
    sf_iteb (fun h_51 =>
    sf_wb (hS_V_2.wc oi_RcR_69_14 (rg_m (rg_c (x := (5 : Int32)) (n := 5) rfl) (by decide) (by decide))) fun V_52 q_53 hS_V_52 =>
    sf_assoc <|
    sf_iteb (fun h_62 =>
    False.elim (rg_nolt h_62 f_49 (rg_c (x := (0 : Int32)) (n := 0) rfl) (by decide)))
     (fun h_62 =>
    sf_pb (lay_S m_15 (by decide +kernel)) <|
    sf_iteb (fun h_63 =>
    sf_someb <|
    sf_pb (lay_S m_15 (by decide +kernel)) <|
    sf_pb (bl_rg (rg_c (x := (0 : Int32)) (n := 0) rfl) (by decide) (by decide)) <|
    sf_someb <|
    sf_ite (fun h_64 =>
    sf_sV hS_V_52)
     (fun h_64 =>
    False.elim (rg_none h_64 (rg_c (x := (0 : Int32)) (n := 0) rfl) (rg_c (x := (0 : Int32)) (n := 0) rfl))))
     (fun h_63 =>
    have f_65 := (rg_hlt (Int32.not_le.mp h_63) f_49 (rg_add (hS_V_52.rdS m_15 rs_RcR_3448_9_0_64) (hS_V_52.rdS m_15 rs_RcR_3448_11_0_0) (by decide) (by decide)))
    have f_66 := (rg_llt (Int32.not_le.mp h_63) f_49 (rg_add (hS_V_52.rdS m_15 rs_RcR_3448_9_0_64) (hS_V_52.rdS m_15 rs_RcR_3448_11_0_0) (by decide) (by decide)))
    have f_67 := (rg_addL f_66 (hS_V_52.rdS m_15 rs_RcR_3448_9_0_64) (hS_V_52.rdS m_15 rs_RcR_3448_11_0_0) (by decide) (by decide))
    have f_69 := (rg_hle h_50 (rg_add (hS_V_2.rdS m_15 rs_RcR_3448_9_0_64) (hS_V_2.rdS m_15 rs_RcR_3448_11_0_0) (by decide) (by decide)) f_65)
    have f_70 := (rg_addL f_69 (hS_V_2.rdS m_15 rs_RcR_3448_9_0_64) (hS_V_2.rdS m_15 rs_RcR_3448_11_0_0) (by decide) (by decide))
    sf_someb <|
    sf_pb (lay_S m_15 (by decide +kernel)) <|
    sf_pb (bl_rg (rg_c (x := (1 : Int32)) (n := 1) rfl) (by decide) (by decide)) <|
    sf_someb <|
    sf_ite (fun h_71 =>
    False.elim (rg_noeq h_71 (rg_c (x := (1 : Int32)) (n := 1) rfl) (rg_c (x := (0 : Int32)) (n := 0) rfl) (by decide)))
     (fun h_71 =>
    have f_72 := (rg_hlt (Int32.not_le.mp h_63) f_65 (rg_add (rg_i f_67 (wr_k q_53 (by decide) f_70)) (hS_V_52.rdS m_15 rs_RcR_3448_11_0_0) (by decide) (by decide)))
    sf_assoc <|
    sf_iteb (fun h_83 =>
    have f_84 := (rg_hlt h_83 rg_t (rg_c (x := (0 : Int32)) (n := 0) rfl))
    sf_someb <|
    sf_pb (lay_S m_15 (by decide +kernel)) <|
    sf_iteb (fun h_89 =>
    sf_wb (hS_V_52.wc oi_RcR_69_14 (rg_m (rg_c (x := (5 : Int32)) (n := 5) rfl) (by decide) (by decide))) fun V_94 q_95 hS_V_94 =>
    sf_assoc <|
    sf_iteb (fun h_104 =>
    sf_someb <|
    sf_pb (lay_S m_15 (by decide +kernel)) <|
    sf_pb (bl_rg (rg_c (x := (0 : Int32)) (n := 0) rfl) (by decide) (by decide)) <|
    sf_someb <|
    sf_ite (fun h_106 =>
    sf_sV hS_V_94)
     (fun h_106 =>
    False.elim (rg_none h_106 (rg_c (x := (0 : Int32)) (n := 0) rfl) (rg_c (x := (0 : Int32)) (n := 0) rfl))))
     (fun h_104 =>
    False.elim (rg_nole (Int32.not_lt.mp h_104) (rg_c (x := (0 : Int32)) (n := 0) rfl) f_84 (by decide))))
     (fun h_89 =>
    False.elim (rg_none h_89 (rg_c (x := (0 : Int32)) (n := 0) rfl) (rg_c (x := (0 : Int32)) (n := 0) rfl))))
     (fun h_83 =>
    have f_108 := (rg_lle (Int32.not_lt.mp h_83) (rg_c (x := (0 : Int32)) (n := 0) rfl) rg_t)
    have f_109 := (rg_hle h_50 (rg_add f_70 (hS_V_2.rdS m_15 rs_RcR_3448_11_0_0) (by decide) (by decide)) f_72)
    have f_110 := (rg_addL f_109 f_70 (hS_V_2.rdS m_15 rs_RcR_3448_11_0_0) (by decide) (by decide))
    have f_111 := (rg_hlt (Int32.not_le.mp h_63) f_72 (rg_add (rg_i (rg_i f_67 (wr_k q_53 (by decide) f_70)) (wr_k q_53 (by decide) f_110)) (hS_V_52.rdS m_15 rs_RcR_3448_11_0_0) (by decide) (by decide)))
    sf_pb (lay_S m_15 (by decide +kernel)) <|
    sf_iteb (fun h_113 =>
    have f_114 := (rg_lle h_113 (rg_add (rg_i (rg_i f_67 (wr_k q_53 (by decide) f_70)) (wr_k q_53 (by decide) f_110)) (hS_V_52.rdS m_15 rs_RcR_3448_11_0_0) (by decide) (by decide)) f_108)
    have f_115 := (rg_hle h_50 (rg_add f_110 (hS_V_2.rdS m_15 rs_RcR_3448_11_0_0) (by decide) (by decide)) f_111)
    have f_116 := (rg_addL f_115 f_110 (hS_V_2.rdS m_15 rs_RcR_3448_11_0_0) (by decide) (by decide))
    have f_117 := (rg_hlt (Int32.not_le.mp h_63) f_111 (rg_add (rg_i (rg_i (rg_i f_67 (wr_k q_53 (by decide) f_70)) (wr_k q_53 (by decide) f_110)) (wr_k q_53 (by decide) f_116)) (hS_V_52.rdS m_15 rs_RcR_3448_11_0_0) (by decide) (by decide)))
    sf_someb <|
    sf_pb (lay_S m_15 (by decide +kernel)) <|
    sf_iteb (fun h_119 =>
    sf_wb (hS_V_52.wc oi_RcR_69_14 (rg_m (rg_c (x := (5 : Int32)) (n := 5) rfl) (by decide) (by decide))) fun V_121 q_122 hS_V_121 =>
    sf_assoc <|
    sf_iteb (fun h_131 =>
    False.elim (rg_nolt h_131 f_114 (rg_c (x := (0 : Int32)) (n := 0) rfl) (by decide)))
     (fun h_131 =>
    sf_pb (lay_S m_15 (by decide +kernel)) <|
    sf_iteb (fun h_133 =>
    sf_someb <|
    sf_pb (lay_S m_15 (by decide +kernel)) <|
    sf_pb (bl_rg (rg_c (x := (0 : Int32)) (n := 0) rfl) (by decide) (by decide)) <|
    sf_someb <|
    sf_ite (fun h_135 =>
    sf_sV hS_V_121)
     (fun h_135 =>
    False.elim (rg_none h_135 (rg_c (x := (0 : Int32)) (n := 0) rfl) (rg_c (x := (0 : Int32)) (n := 0) rfl))))
     (fun h_133 =>
    have f_136 := (rg_hlt (Int32.not_le.mp h_133) f_114 (rg_add (rg_i (rg_i (rg_i (wr_k q_122 (by decide) f_67) (wr_k q_122 (by decide) (wr_k q_53 (by decide) f_70))) (wr_k q_122 (by decide) (wr_k q_53 (by decide) f_110))) (wr_k q_122 (by decide) (wr_k q_53 (by decide) f_116))) (hS_V_121.rdS m_15 rs_RcR_3448_11_0_0) (by decide) (by decide)))
    have f_137 := (rg_llt (Int32.not_le.mp h_133) f_114 (rg_add (rg_i (rg_i (rg_i (wr_k q_122 (by decide) f_67) (wr_k q_122 (by decide) (wr_k q_53 (by decide) f_70))) (wr_k q_122 (by decide) (wr_k q_53 (by decide) f_110))) (wr_k q_122 (by decide) (wr_k q_53 (by decide) f_116))) (hS_V_121.rdS m_15 rs_RcR_3448_11_0_0) (by decide) (by decide)))
    have f_138 := (rg_addL f_137 (rg_i (rg_i (rg_i (wr_k q_122 (by decide) f_67) (wr_k q_122 (by decide) (wr_k q_53 (by decide) f_70))) (wr_k q_122 (by decide) (wr_k q_53 (by decide) f_110))) (wr_k q_122 (by decide) (wr_k q_53 (by decide) f_116))) (hS_V_121.rdS m_15 rs_RcR_3448_11_0_0) (by decide) (by decide))
    have f_140 := (cap_of ck_RcR (mem_of m_15 (by decide)) hS_V_52 (Int32.not_le.mp h_63))
    have f_141 := (rg_hle h_113 (rg_add (rg_i (rg_i (rg_i f_67 (wr_k q_53 (by decide) f_70)) (wr_k q_53 (by decide) f_110)) (wr_k q_53 (by decide) f_116)) (hS_V_52.rdS m_15 rs_RcR_3448_11_0_0) (by decide) (by decide)) f_136)
    have f_142 := (rg_addL f_141 (rg_i (rg_i (rg_i f_67 (wr_k q_53 (by decide) f_70)) (wr_k q_53 (by decide) f_110)) (wr_k q_53 (by decide) f_116)) (hS_V_52.rdS m_15 rs_RcR_3448_11_0_0) (by decide) (by decide))
    sf_someb <|
    sf_pb (lay_S m_15 (by decide +kernel)) <|
    sf_pb (bl_rg (rg_c (x := (1 : Int32)) (n := 1) rfl) (by decide) (by decide)) <|
    sf_someb <|
    sf_ite (fun h_143 =>
    False.elim (rg_noeq h_143 (rg_c (x := (1 : Int32)) (n := 1) rfl) (rg_c (x := (0 : Int32)) (n := 0) rfl) (by decide)))
     (fun h_143 =>
    have f_144 := (rg_hlt (Int32.not_le.mp h_133) f_136 (rg_add (rg_i f_138 (wr_k q_122 (by decide) f_142)) (hS_V_121.rdS m_15 rs_RcR_3448_11_0_0) (by decide) (by decide)))
    have f_145 := (cap_of ck_RcR (mem_of m_15 (by decide)) hS_V_121 (Int32.not_le.mp h_133))
    sf_qL (s_F_X5_originalBetween_R hN hR hS_V_121 (mem_of m_15 (by decide)) (rg_m f_117 (by decide) (by decide)) (mem_of m_15 (by decide)) (rg_m f_144 (by decide) (by decide)) f_140 f_145) fun x_146 r_147 =>
    sf_qL (s_F_X5_orSingle_R hN hR hS_V_121 r_147) fun x_148 r_149 =>
    sf_ite (fun h_150 =>
    have f_152 := (rg_hle h_113 (rg_add f_142 (hS_V_52.rdS m_15 rs_RcR_3448_11_0_0) (by decide) (by decide)) f_144)
    have f_153 := (rg_addL f_152 f_142 (hS_V_52.rdS m_15 rs_RcR_3448_11_0_0) (by decide) (by decide))
    have f_154 := (rg_hlt (Int32.not_le.mp h_133) f_144 (rg_add (rg_i (rg_i f_138 (wr_k q_122 (by decide) f_142)) (wr_k q_122 (by decide) f_153)) (hS_V_121.rdS m_15 rs_RcR_3448_11_0_0) (by decide) (by decide)))
    have f_155 := (cap_of ck_RcR (mem_of m_15 (by decide)) hS_V_121 (Int32.not_le.mp h_133))
    s_B_X5_moveAsOriginal_86_R hN hR hS_V_121 r_l1 (rg_m f_117 (by decide) (by decide)) (mem_of m_15 (by decide)) (mem_of m_15 (by decide)) (rg_m f_154 (by decide) (by decide)) f_140 f_155)
     (fun h_150 =>
    have f_157 := (rg_hle h_113 (rg_add f_142 (hS_V_52.rdS m_15 rs_RcR_3448_11_0_0) (by decide) (by decide)) f_144)
    have f_158 := (rg_addL f_157 f_142 (hS_V_52.rdS m_15 rs_RcR_3448_11_0_0) (by decide) (by decide))
    have f_159 := (rg_hlt (Int32.not_le.mp h_133) f_144 (rg_add (rg_i (rg_i f_138 (wr_k q_122 (by decide) f_142)) (wr_k q_122 (by decide) f_158)) (hS_V_121.rdS m_15 rs_RcR_3448_11_0_0) (by decide) (by decide)))
    have f_160 := (cap_of ck_RcR (mem_of m_15 (by decide)) hS_V_121 (Int32.not_le.mp h_133))
    sf_qL (s_F_X9_rounded_R hN hR hS_V_121) fun x_161 r_162 =>
    s_B_X5_moveAsOriginal_86_R hN hR hS_V_121 r_l1 (rg_m f_117 (by decide) (by decide)) (mem_of m_15 (by decide)) (mem_of m_15 (by decide)) (rg_m f_159 (by decide) (by decide)) f_140 f_160)))))
     (fun h_119 =>
    False.elim (rg_none h_119 (rg_c (x := (0 : Int32)) (n := 0) rfl) (rg_c (x := (0 : Int32)) (n := 0) rfl))))
     (fun h_113 =>
    have f_163 := (rg_hlt (Int32.not_le.mp h_113) f_108 (rg_add (rg_i (rg_i f_67 (wr_k q_53 (by decide) f_70)) (wr_k q_53 (by decide) f_110)) (hS_V_52.rdS m_15 rs_RcR_3448_11_0_0) (by decide) (by decide)))
    have f_165 := (rg_hle h_50 (rg_add f_110 (hS_V_2.rdS m_15 rs_RcR_3448_11_0_0) (by decide) (by decide)) f_111)
    have f_166 := (rg_addL f_165 f_110 (hS_V_2.rdS m_15 rs_RcR_3448_11_0_0) (by decide) (by decide))
    have f_167 := (rg_hlt (Int32.not_le.mp h_63) f_111 (rg_add (rg_i (rg_i (rg_i f_67 (wr_k q_53 (by decide) f_70)) (wr_k q_53 (by decide) f_110)) (wr_k q_53 (by decide) f_166)) (hS_V_52.rdS m_15 rs_RcR_3448_11_0_0) (by decide) (by decide)))
    sf_someb <|
    sf_pb (lay_S m_15 (by decide +kernel)) <|
    sf_iteb (fun h_169 =>
    False.elim (rg_noeq h_169 (rg_c (x := (1 : Int32)) (n := 1) rfl) (rg_c (x := (0 : Int32)) (n := 0) rfl) (by decide)))
     (fun h_169 =>
    have f_171 := (rg_hlt (Int32.not_le.mp h_113) f_163 (rg_add (rg_i (rg_i (rg_i f_67 (wr_k q_53 (by decide) f_70)) (wr_k q_53 (by decide) f_110)) (wr_k q_53 (by decide) f_166)) (hS_V_52.rdS m_15 rs_RcR_3448_11_0_0) (by decide) (by decide)))
    sf_assoc <|
    sf_iteb (fun h_181 =>
    False.elim (rg_nolt h_181 f_171 (rg_c (x := (0 : Int32)) (n := 0) rfl) (by decide)))
     (fun h_181 =>
    sf_pb (lay_S m_15 (by decide +kernel)) <|
    sf_iteb (fun h_184 =>
    sf_someb <|
    sf_pb (lay_S m_15 (by decide +kernel)) <|
    sf_pb (bl_rg (rg_c (x := (0 : Int32)) (n := 0) rfl) (by decide) (by decide)) <|
    sf_someb <|
    sf_ite (fun h_194 =>
    sf_sV hS_V_52)
     (fun h_194 =>
    False.elim (rg_none h_194 (rg_c (x := (0 : Int32)) (n := 0) rfl) (rg_c (x := (0 : Int32)) (n := 0) rfl))))
     (fun h_184 =>
    have f_200 := (cap_of ck_RcR (mem_of m_15 (by decide)) hS_V_52 (Int32.not_le.mp h_63))
    sf_someb <|
    sf_pb (lay_S m_15 (by decide +kernel)) <|
    sf_pb (bl_rg (rg_c (x := (1 : Int32)) (n := 1) rfl) (by decide) (by decide)) <|
    sf_someb <|
    sf_ite (fun h_202 =>
    False.elim (rg_noeq h_202 (rg_c (x := (1 : Int32)) (n := 1) rfl) (rg_c (x := (0 : Int32)) (n := 0) rfl) (by decide)))
     (fun h_202 =>
    have f_204 := (cap_of ck_RcR (mem_of m_15 (by decide)) hS_V_52 (Int32.not_le.mp h_184))
    sf_qL (s_F_X5_originalBetween_R hN hR hS_V_52 (mem_of m_15 (by decide)) (rg_m f_167 (by decide) (by decide)) (mem_of m_15 (by decide)) (rg_m f_171 (by decide) (by decide)) f_200 f_204) fun x_205 r_206 =>
    sf_qL (s_F_X5_orSingle_R hN hR hS_V_52 r_206) fun x_207 r_208 =>
    sf_ite (fun h_209 =>
    have f_212 := (cap_of ck_RcR (mem_of m_15 (by decide)) hS_V_52 (Int32.not_le.mp h_184))
    s_B_X5_moveAsOriginal_86_R hN hR hS_V_52 r_l1 (rg_m f_167 (by decide) (by decide)) (mem_of m_15 (by decide)) (mem_of m_15 (by decide)) (rg_m f_171 (by decide) (by decide)) f_200 f_212)
     (fun h_209 =>
    have f_215 := (cap_of ck_RcR (mem_of m_15 (by decide)) hS_V_52 (Int32.not_le.mp h_184))
    sf_qL (s_F_X9_rounded_R hN hR hS_V_52) fun x_216 r_217 =>
    s_B_X5_moveAsOriginal_86_R hN hR hS_V_52 r_l1 (rg_m f_167 (by decide) (by decide)) (mem_of m_15 (by decide)) (mem_of m_15 (by decide)) (rg_m f_171 (by decide) (by decide)) f_200 f_215)))))))))))
     (fun h_51 =>
    False.elim (rg_none h_51 (rg_c (x := (0 : Int32)) (n := 0) rfl) (rg_c (x := (0 : Int32)) (n := 0) rfl))))
     (fun h_50 =>
    have f_218 := (rg_hlt (Int32.not_le.mp h_50) f_49 (rg_add (hS_V_2.rdS m_15 rs_RcR_3448_9_0_64) (hS_V_2.rdS m_15 rs_RcR_3448_11_0_0) (by decide) (by decide)))
    have f_219 := (rg_llt (Int32.not_le.mp h_50) f_49 (rg_add (hS_V_2.rdS m_15 rs_RcR_3448_9_0_64) (hS_V_2.rdS m_15 rs_RcR_3448_11_0_0) (by decide) (by decide)))
    have f_220 := (rg_addL f_219 (hS_V_2.rdS m_15 rs_RcR_3448_9_0_64) (hS_V_2.rdS m_15 rs_RcR_3448_11_0_0) (by decide) (by decide))
    sf_someb <|
    sf_pb (lay_S m_15 (by decide +kernel)) <|
    sf_iteb (fun h_222 =>
    False.elim (rg_noeq h_222 (rg_c (x := (1 : Int32)) (n := 1) rfl) (rg_c (x := (0 : Int32)) (n := 0) rfl) (by decide)))
     (fun h_222 =>
    sf_assoc <|
    sf_iteb (fun h_232 =>
    False.elim (rg_nolt h_232 f_218 (rg_c (x := (0 : Int32)) (n := 0) rfl) (by decide)))
     (fun h_232 =>
    sf_pb (lay_S m_15 (by decide +kernel)) <|
    sf_iteb (fun h_234 =>
    sf_someb <|
    sf_pb (lay_S m_15 (by decide +kernel)) <|
    sf_pb (bl_rg (rg_c (x := (0 : Int32)) (n := 0) rfl) (by decide) (by decide)) <|
    sf_someb <|
    sf_ite (fun h_242 =>
    sf_sV hS_V_2)
     (fun h_242 =>
    False.elim (rg_none h_242 (rg_c (x := (0 : Int32)) (n := 0) rfl) (rg_c (x := (0 : Int32)) (n := 0) rfl))))
     (fun h_234 =>
    sf_someb <|
    sf_pb (lay_S m_15 (by decide +kernel)) <|
    sf_pb (bl_rg (rg_c (x := (1 : Int32)) (n := 1) rfl) (by decide) (by decide)) <|
    sf_someb <|
    sf_ite (fun h_249 =>
    False.elim (rg_noeq h_249 (rg_c (x := (1 : Int32)) (n := 1) rfl) (rg_c (x := (0 : Int32)) (n := 0) rfl) (by decide)))
     (fun h_249 =>
    sf_assoc <|
    sf_iteb (fun h_261 =>
    have f_262 := (rg_hlt h_261 rg_t (rg_c (x := (0 : Int32)) (n := 0) rfl))
    sf_someb <|
    sf_pb (lay_S m_15 (by decide +kernel)) <|
    sf_iteb (fun h_265 =>
    sf_wb (hS_V_2.wc oi_RcR_69_14 (rg_m (rg_c (x := (5 : Int32)) (n := 5) rfl) (by decide) (by decide))) fun V_268 q_269 hS_V_268 =>
    sf_assoc <|
    sf_iteb (fun h_278 =>
    sf_someb <|
    sf_pb (lay_S m_15 (by decide +kernel)) <|
    sf_pb (bl_rg (rg_c (x := (0 : Int32)) (n := 0) rfl) (by decide) (by decide)) <|
    sf_someb <|
    sf_ite (fun h_280 =>
    sf_sV hS_V_268)
     (fun h_280 =>
    False.elim (rg_none h_280 (rg_c (x := (0 : Int32)) (n := 0) rfl) (rg_c (x := (0 : Int32)) (n := 0) rfl))))
     (fun h_278 =>
    False.elim (rg_nole (Int32.not_lt.mp h_278) (rg_c (x := (0 : Int32)) (n := 0) rfl) f_262 (by decide))))
     (fun h_265 =>
    False.elim (rg_none h_265 (rg_c (x := (0 : Int32)) (n := 0) rfl) (rg_c (x := (0 : Int32)) (n := 0) rfl))))
     (fun h_261 =>
    have f_282 := (rg_lle (Int32.not_lt.mp h_261) (rg_c (x := (0 : Int32)) (n := 0) rfl) rg_t)
    sf_pb (lay_S m_15 (by decide +kernel)) <|
    sf_iteb (fun h_285 =>
    have f_286 := (rg_lle h_285 (rg_add f_220 (hS_V_2.rdS m_15 rs_RcR_3448_11_0_0) (by decide) (by decide)) f_282)
    sf_someb <|
    sf_pb (lay_S m_15 (by decide +kernel)) <|
    sf_iteb (fun h_289 =>
    sf_wb (hS_V_2.wc oi_RcR_69_14 (rg_m (rg_c (x := (5 : Int32)) (n := 5) rfl) (by decide) (by decide))) fun V_291 q_292 hS_V_291 =>
    sf_assoc <|
    sf_iteb (fun h_301 =>
    False.elim (rg_nolt h_301 f_286 (rg_c (x := (0 : Int32)) (n := 0) rfl) (by decide)))
     (fun h_301 =>
    sf_pb (lay_S m_15 (by decide +kernel)) <|
    sf_iteb (fun h_303 =>
    sf_someb <|
    sf_pb (lay_S m_15 (by decide +kernel)) <|
    sf_pb (bl_rg (rg_c (x := (0 : Int32)) (n := 0) rfl) (by decide) (by decide)) <|
    sf_someb <|
    sf_ite (fun h_305 =>
    sf_sV hS_V_291)
     (fun h_305 =>
    False.elim (rg_none h_305 (rg_c (x := (0 : Int32)) (n := 0) rfl) (rg_c (x := (0 : Int32)) (n := 0) rfl))))
     (fun h_303 =>
    have f_306 := (rg_hlt (Int32.not_le.mp h_303) f_286 (rg_add (wr_k q_292 (by decide) f_220) (hS_V_291.rdS m_15 rs_RcR_3448_11_0_0) (by decide) (by decide)))
    have f_307 := (rg_llt (Int32.not_le.mp h_303) f_286 (rg_add (wr_k q_292 (by decide) f_220) (hS_V_291.rdS m_15 rs_RcR_3448_11_0_0) (by decide) (by decide)))
    have f_308 := (rg_addL f_307 (wr_k q_292 (by decide) f_220) (hS_V_291.rdS m_15 rs_RcR_3448_11_0_0) (by decide) (by decide))
    have f_310 := (cap_of ck_RcR (mem_of m_15 (by decide)) hS_V_2 (Int32.not_le.mp h_234))
    have f_311 := (rg_hle h_285 (rg_add f_220 (hS_V_2.rdS m_15 rs_RcR_3448_11_0_0) (by decide) (by decide)) f_306)
    have f_312 := (rg_addL f_311 f_220 (hS_V_2.rdS m_15 rs_RcR_3448_11_0_0) (by decide) (by decide))
    sf_someb <|
    sf_pb (lay_S m_15 (by decide +kernel)) <|
    sf_pb (bl_rg (rg_c (x := (1 : Int32)) (n := 1) rfl) (by decide) (by decide)) <|
    sf_someb <|
    sf_ite (fun h_313 =>
    False.elim (rg_noeq h_313 (rg_c (x := (1 : Int32)) (n := 1) rfl) (rg_c (x := (0 : Int32)) (n := 0) rfl) (by decide)))
     (fun h_313 =>
    have f_314 := (rg_hlt (Int32.not_le.mp h_303) f_306 (rg_add (rg_i f_308 (wr_k q_292 (by decide) f_312)) (hS_V_291.rdS m_15 rs_RcR_3448_11_0_0) (by decide) (by decide)))
    have f_315 := (cap_of ck_RcR (mem_of m_15 (by decide)) hS_V_291 (Int32.not_le.mp h_303))
    sf_qL (s_F_X5_originalBetween_R hN hR hS_V_291 (mem_of m_15 (by decide)) (rg_m f_218 (by decide) (by decide)) (mem_of m_15 (by decide)) (rg_m f_314 (by decide) (by decide)) f_310 f_315) fun x_316 r_317 =>
    sf_qL (s_F_X5_orSingle_R hN hR hS_V_291 r_317) fun x_318 r_319 =>
    sf_ite (fun h_320 =>
    have f_322 := (rg_hle h_285 (rg_add f_312 (hS_V_2.rdS m_15 rs_RcR_3448_11_0_0) (by decide) (by decide)) f_314)
    have f_323 := (rg_addL f_322 f_312 (hS_V_2.rdS m_15 rs_RcR_3448_11_0_0) (by decide) (by decide))
    have f_324 := (rg_hlt (Int32.not_le.mp h_303) f_314 (rg_add (rg_i (rg_i f_308 (wr_k q_292 (by decide) f_312)) (wr_k q_292 (by decide) f_323)) (hS_V_291.rdS m_15 rs_RcR_3448_11_0_0) (by decide) (by decide)))
    have f_325 := (cap_of ck_RcR (mem_of m_15 (by decide)) hS_V_291 (Int32.not_le.mp h_303))
    s_B_X5_moveAsOriginal_86_R hN hR hS_V_291 r_l1 (rg_m f_218 (by decide) (by decide)) (mem_of m_15 (by decide)) (mem_of m_15 (by decide)) (rg_m f_324 (by decide) (by decide)) f_310 f_325)
     (fun h_320 =>
    have f_327 := (rg_hle h_285 (rg_add f_312 (hS_V_2.rdS m_15 rs_RcR_3448_11_0_0) (by decide) (by decide)) f_314)
    have f_328 := (rg_addL f_327 f_312 (hS_V_2.rdS m_15 rs_RcR_3448_11_0_0) (by decide) (by decide))
    have f_329 := (rg_hlt (Int32.not_le.mp h_303) f_314 (rg_add (rg_i (rg_i f_308 (wr_k q_292 (by decide) f_312)) (wr_k q_292 (by decide) f_328)) (hS_V_291.rdS m_15 rs_RcR_3448_11_0_0) (by decide) (by decide)))
    have f_330 := (cap_of ck_RcR (mem_of m_15 (by decide)) hS_V_291 (Int32.not_le.mp h_303))
    sf_qL (s_F_X9_rounded_R hN hR hS_V_291) fun x_331 r_332 =>
    s_B_X5_moveAsOriginal_86_R hN hR hS_V_291 r_l1 (rg_m f_218 (by decide) (by decide)) (mem_of m_15 (by decide)) (mem_of m_15 (by decide)) (rg_m f_329 (by decide) (by decide)) f_310 f_330)))))
     (fun h_289 =>
    False.elim (rg_none h_289 (rg_c (x := (0 : Int32)) (n := 0) rfl) (rg_c (x := (0 : Int32)) (n := 0) rfl))))
     (fun h_285 =>
    have f_333 := (rg_hlt (Int32.not_le.mp h_285) f_282 (rg_add f_220 (hS_V_2.rdS m_15 rs_RcR_3448_11_0_0) (by decide) (by decide)))
    sf_someb <|
    sf_pb (lay_S m_15 (by decide +kernel)) <|
    sf_iteb (fun h_337 =>
    False.elim (rg_noeq h_337 (rg_c (x := (1 : Int32)) (n := 1) rfl) (rg_c (x := (0 : Int32)) (n := 0) rfl) (by decide)))
     (fun h_337 =>
    sf_assoc <|
    sf_iteb (fun h_348 =>
    False.elim (rg_nolt h_348 f_333 (rg_c (x := (0 : Int32)) (n := 0) rfl) (by decide)))
     (fun h_348 =>
    sf_pb (lay_S m_15 (by decide +kernel)) <|
    sf_iteb (fun h_351 =>
    sf_someb <|
    sf_pb (lay_S m_15 (by decide +kernel)) <|
    sf_pb (bl_rg (rg_c (x := (0 : Int32)) (n := 0) rfl) (by decide) (by decide)) <|
    sf_someb <|
    sf_ite (fun h_361 =>
    sf_sV hS_V_2)
     (fun h_361 =>
    False.elim (rg_none h_361 (rg_c (x := (0 : Int32)) (n := 0) rfl) (rg_c (x := (0 : Int32)) (n := 0) rfl))))
     (fun h_351 =>
    have f_367 := (cap_of ck_RcR (mem_of m_15 (by decide)) hS_V_2 (Int32.not_le.mp h_234))
    sf_someb <|
    sf_pb (lay_S m_15 (by decide +kernel)) <|
    sf_pb (bl_rg (rg_c (x := (1 : Int32)) (n := 1) rfl) (by decide) (by decide)) <|
    sf_someb <|
    sf_ite (fun h_369 =>
    False.elim (rg_noeq h_369 (rg_c (x := (1 : Int32)) (n := 1) rfl) (rg_c (x := (0 : Int32)) (n := 0) rfl) (by decide)))
     (fun h_369 =>
    have f_371 := (cap_of ck_RcR (mem_of m_15 (by decide)) hS_V_2 (Int32.not_le.mp h_351))
    sf_qL (s_F_X5_originalBetween_R hN hR hS_V_2 (mem_of m_15 (by decide)) (rg_m f_218 (by decide) (by decide)) (mem_of m_15 (by decide)) (rg_m f_333 (by decide) (by decide)) f_367 f_371) fun x_372 r_373 =>
    sf_qL (s_F_X5_orSingle_R hN hR hS_V_2 r_373) fun x_374 r_375 =>
    sf_ite (fun h_376 =>
    have f_379 := (cap_of ck_RcR (mem_of m_15 (by decide)) hS_V_2 (Int32.not_le.mp h_351))
    s_B_X5_moveAsOriginal_86_R hN hR hS_V_2 r_l1 (rg_m f_218 (by decide) (by decide)) (mem_of m_15 (by decide)) (mem_of m_15 (by decide)) (rg_m f_333 (by decide) (by decide)) f_367 f_379)
     (fun h_376 =>
    have f_382 := (cap_of ck_RcR (mem_of m_15 (by decide)) hS_V_2 (Int32.not_le.mp h_351))
    sf_qL (s_F_X9_rounded_R hN hR hS_V_2) fun x_383 r_384 =>
    s_B_X5_moveAsOriginal_86_R hN hR hS_V_2 r_l1 (rg_m f_218 (by decide) (by decide)) (mem_of m_15 (by decide)) (mem_of m_15 (by decide)) (rg_m f_333 (by decide) (by decide)) f_367 f_382))))))))))))))
     (fun h_21 =>
    sf_ob (c := bo) (ref7 hS_V_2 hR rfl) <|
    sf_someb <|
    sf_let fun x_386 q_387 =>
    sf_assoc <|
    sf_iteb (fun h_397 =>
    have f_398 := (rg_hlt h_397 r_3 (rg_c (x := (0 : Int32)) (n := 0) rfl))
    sf_someb <|
    sf_pb (lay_S m_15 (by decide +kernel)) <|
    sf_iteb (fun h_399 =>
    sf_wb (hS_V_2.wc oi_RcR_69_14 (rg_m (rg_c (x := (5 : Int32)) (n := 5) rfl) (by decide) (by decide))) fun V_400 q_401 hS_V_400 =>
    sf_assoc <|
    sf_iteb (fun h_410 =>
    sf_someb <|
    sf_pb (lay_S m_15 (by decide +kernel)) <|
    sf_pb (bl_rg (rg_c (x := (0 : Int32)) (n := 0) rfl) (by decide) (by decide)) <|
    sf_someb <|
    sf_ite (fun h_411 =>
    sf_sV hS_V_400)
     (fun h_411 =>
    False.elim (rg_none h_411 (rg_c (x := (0 : Int32)) (n := 0) rfl) (rg_c (x := (0 : Int32)) (n := 0) rfl))))
     (fun h_410 =>
    False.elim (rg_nole (Int32.not_lt.mp h_410) (rg_c (x := (0 : Int32)) (n := 0) rfl) f_398 (by decide))))
     (fun h_399 =>
    False.elim (rg_none h_399 (rg_c (x := (0 : Int32)) (n := 0) rfl) (rg_c (x := (0 : Int32)) (n := 0) rfl))))
     (fun h_397 =>
    have f_412 := (rg_lle (Int32.not_lt.mp h_397) (rg_c (x := (0 : Int32)) (n := 0) rfl) r_3)
    sf_pb (lay_S m_15 (by decide +kernel)) <|
    sf_iteb (fun h_413 =>
    sf_someb <|
    sf_pb (lay_S m_15 (by decide +kernel)) <|
    sf_iteb (fun h_414 =>
    sf_wb (hS_V_2.wc oi_RcR_69_14 (rg_m (rg_c (x := (5 : Int32)) (n := 5) rfl) (by decide) (by decide))) fun V_415 q_416 hS_V_415 =>
    sf_assoc <|
    sf_iteb (fun h_425 =>
    False.elim (rg_nolt h_425 f_412 (rg_c (x := (0 : Int32)) (n := 0) rfl) (by decide)))
     (fun h_425 =>
    sf_pb (lay_S m_15 (by decide +kernel)) <|
    sf_iteb (fun h_426 =>
    sf_someb <|
    sf_pb (lay_S m_15 (by decide +kernel)) <|
    sf_pb (bl_rg (rg_c (x := (0 : Int32)) (n := 0) rfl) (by decide) (by decide)) <|
    sf_someb <|
    sf_ite (fun h_427 =>
    sf_sV hS_V_415)
     (fun h_427 =>
    False.elim (rg_none h_427 (rg_c (x := (0 : Int32)) (n := 0) rfl) (rg_c (x := (0 : Int32)) (n := 0) rfl))))
     (fun h_426 =>
    have f_428 := (rg_hlt (Int32.not_le.mp h_426) f_412 (rg_add (hS_V_415.rdS m_15 rs_RcR_3448_9_0_64) (hS_V_415.rdS m_15 rs_RcR_3448_11_0_0) (by decide) (by decide)))
    have f_429 := (rg_llt (Int32.not_le.mp h_426) f_412 (rg_add (hS_V_415.rdS m_15 rs_RcR_3448_9_0_64) (hS_V_415.rdS m_15 rs_RcR_3448_11_0_0) (by decide) (by decide)))
    have f_430 := (rg_addL f_429 (hS_V_415.rdS m_15 rs_RcR_3448_9_0_64) (hS_V_415.rdS m_15 rs_RcR_3448_11_0_0) (by decide) (by decide))
    have f_432 := (rg_hle h_413 (rg_add (hS_V_2.rdS m_15 rs_RcR_3448_9_0_64) (hS_V_2.rdS m_15 rs_RcR_3448_11_0_0) (by decide) (by decide)) f_428)
    have f_433 := (rg_addL f_432 (hS_V_2.rdS m_15 rs_RcR_3448_9_0_64) (hS_V_2.rdS m_15 rs_RcR_3448_11_0_0) (by decide) (by decide))
    sf_someb <|
    sf_pb (lay_S m_15 (by decide +kernel)) <|
    sf_pb (bl_rg (rg_c (x := (1 : Int32)) (n := 1) rfl) (by decide) (by decide)) <|
    sf_someb <|
    sf_ite (fun h_434 =>
    False.elim (rg_noeq h_434 (rg_c (x := (1 : Int32)) (n := 1) rfl) (rg_c (x := (0 : Int32)) (n := 0) rfl) (by decide)))
     (fun h_434 =>
    have f_435 := (rg_hlt (Int32.not_le.mp h_426) f_428 (rg_add (rg_i f_430 (wr_k q_416 (by decide) f_433)) (hS_V_415.rdS m_15 rs_RcR_3448_11_0_0) (by decide) (by decide)))
    sf_assoc <|
    sf_iteb (fun h_446 =>
    have f_447 := (rg_hlt h_446 rg_t (rg_c (x := (0 : Int32)) (n := 0) rfl))
    sf_someb <|
    sf_pb (lay_S hR.1 (by decide +kernel)) <|
    sf_iteb (fun h_452 =>
    sf_wb (hS_V_415.wc oi_RcR_69_14 (rg_m (rg_c (x := (5 : Int32)) (n := 5) rfl) (by decide) (by decide))) fun V_457 q_458 hS_V_457 =>
    sf_assoc <|
    sf_iteb (fun h_467 =>
    sf_someb <|
    sf_pb (lay_S hR.1 (by decide +kernel)) <|
    sf_pb (bl_rg (rg_c (x := (0 : Int32)) (n := 0) rfl) (by decide) (by decide)) <|
    sf_someb <|
    sf_ite (fun h_469 =>
    sf_sV hS_V_457)
     (fun h_469 =>
    False.elim (rg_none h_469 (rg_c (x := (0 : Int32)) (n := 0) rfl) (rg_c (x := (0 : Int32)) (n := 0) rfl))))
     (fun h_467 =>
    False.elim (rg_nole (Int32.not_lt.mp h_467) (rg_c (x := (0 : Int32)) (n := 0) rfl) f_447 (by decide))))
     (fun h_452 =>
    False.elim (rg_none h_452 (rg_c (x := (0 : Int32)) (n := 0) rfl) (rg_c (x := (0 : Int32)) (n := 0) rfl))))
     (fun h_446 =>
    have f_471 := (rg_lle (Int32.not_lt.mp h_446) (rg_c (x := (0 : Int32)) (n := 0) rfl) rg_t)
    have f_472 := (rg_hle h_413 (rg_add f_433 (hS_V_2.rdS m_15 rs_RcR_3448_11_0_0) (by decide) (by decide)) f_435)
    have f_473 := (rg_addL f_472 f_433 (hS_V_2.rdS m_15 rs_RcR_3448_11_0_0) (by decide) (by decide))
    have f_474 := (rg_hlt (Int32.not_le.mp h_426) f_435 (rg_add (rg_i (rg_i f_430 (wr_k q_416 (by decide) f_433)) (wr_k q_416 (by decide) f_473)) (hS_V_415.rdS m_15 rs_RcR_3448_11_0_0) (by decide) (by decide)))
    sf_pb (lay_S hR.1 (by decide +kernel)) <|
    sf_iteb (fun h_476 =>
    have f_477 := (rg_hle h_413 (rg_add f_473 (hS_V_2.rdS m_15 rs_RcR_3448_11_0_0) (by decide) (by decide)) f_474)
    have f_478 := (rg_addL f_477 f_473 (hS_V_2.rdS m_15 rs_RcR_3448_11_0_0) (by decide) (by decide))
    have f_479 := (rg_hlt (Int32.not_le.mp h_426) f_474 (rg_add (rg_i (rg_i (rg_i f_430 (wr_k q_416 (by decide) f_433)) (wr_k q_416 (by decide) f_473)) (wr_k q_416 (by decide) f_478)) (hS_V_415.rdS m_15 rs_RcR_3448_11_0_0) (by decide) (by decide)))
    sf_someb <|
    sf_pb (lay_S hR.1 (by decide +kernel)) <|
    sf_iteb (fun h_481 =>
    sf_wb (hS_V_415.wc oi_RcR_69_14 (rg_m (rg_c (x := (5 : Int32)) (n := 5) rfl) (by decide) (by decide))) fun V_483 q_484 hS_V_483 =>
    sf_assoc <|
    sf_iteb (fun h_493 =>
    False.elim (rg_nolt h_493 f_471 (rg_c (x := (0 : Int32)) (n := 0) rfl) (by decide)))
     (fun h_493 =>
    sf_pb (lay_S hR.1 (by decide +kernel)) <|
    sf_iteb (fun h_495 =>
    sf_someb <|
    sf_pb (lay_S hR.1 (by decide +kernel)) <|
    sf_pb (bl_rg (rg_c (x := (0 : Int32)) (n := 0) rfl) (by decide) (by decide)) <|
    sf_someb <|
    sf_ite (fun h_497 =>
    sf_sV hS_V_483)
     (fun h_497 =>
    False.elim (rg_none h_497 (rg_c (x := (0 : Int32)) (n := 0) rfl) (rg_c (x := (0 : Int32)) (n := 0) rfl))))
     (fun h_495 =>
    have f_498 := (rg_hlt (Int32.not_le.mp h_495) f_471 (rg_add (hS_V_483.rdS hR.1 rs_RcR_8293103113123133_9_0_100) (hS_V_483.rdS hR.1 rs_RcR_8293103113123133_11_0_2) (by decide) (by decide)))
    have f_501 := (cap_of ck_RcR (mem_of m_15 (by decide)) hS_V_415 (Int32.not_le.mp h_426))
    sf_someb <|
    sf_pb (lay_S hR.1 (by decide +kernel)) <|
    sf_pb (bl_rg (rg_c (x := (1 : Int32)) (n := 1) rfl) (by decide) (by decide)) <|
    sf_someb <|
    sf_ite (fun h_503 =>
    False.elim (rg_noeq h_503 (rg_c (x := (1 : Int32)) (n := 1) rfl) (rg_c (x := (0 : Int32)) (n := 0) rfl) (by decide)))
     (fun h_503 =>
    have f_504 := (cap_of ck_RcR (mem_of hR.1 (by decide)) hS_V_483 (Int32.not_le.mp h_495))
    sf_qL (s_F_X5_originalBetween_R hN hR hS_V_483 (mem_of m_15 (by decide)) (rg_m f_479 (by decide) (by decide)) (mem_of hR.1 (by decide)) (rg_m f_498 (by decide) (by decide)) f_501 f_504) fun x_505 r_506 =>
    sf_qL (s_F_X5_orSingle_R hN hR hS_V_483 r_506) fun x_507 r_508 =>
    sf_ite (fun h_509 =>
    have f_511 := (cap_of ck_RcR (mem_of hR.1 (by decide)) hS_V_483 (Int32.not_le.mp h_495))
    s_B_X5_moveAsOriginal_86_R hN hR hS_V_483 r_l1 (rg_m f_479 (by decide) (by decide)) (mem_of m_15 (by decide)) (mem_of hR.1 (by decide)) (rg_m f_498 (by decide) (by decide)) f_501 f_511)
     (fun h_509 =>
    have f_513 := (cap_of ck_RcR (mem_of hR.1 (by decide)) hS_V_483 (Int32.not_le.mp h_495))
    sf_qL (s_F_X9_rounded_R hN hR hS_V_483) fun x_514 r_515 =>
    s_B_X5_moveAsOriginal_86_R hN hR hS_V_483 r_l1 (rg_m f_479 (by decide) (by decide)) (mem_of m_15 (by decide)) (mem_of hR.1 (by decide)) (rg_m f_498 (by decide) (by decide)) f_501 f_513)))))
     (fun h_481 =>
    False.elim (rg_none h_481 (rg_c (x := (0 : Int32)) (n := 0) rfl) (rg_c (x := (0 : Int32)) (n := 0) rfl))))
     (fun h_476 =>
    have f_516 := (rg_hlt (Int32.not_le.mp h_476) f_471 (rg_add (hS_V_415.rdS hR.1 rs_RcR_8293103113123133_9_0_100) (hS_V_415.rdS hR.1 rs_RcR_8293103113123133_11_0_2) (by decide) (by decide)))
    have f_519 := (rg_hle h_413 (rg_add f_473 (hS_V_2.rdS m_15 rs_RcR_3448_11_0_0) (by decide) (by decide)) f_474)
    have f_520 := (rg_addL f_519 f_473 (hS_V_2.rdS m_15 rs_RcR_3448_11_0_0) (by decide) (by decide))
    have f_521 := (rg_hlt (Int32.not_le.mp h_426) f_474 (rg_add (rg_i (rg_i (rg_i f_430 (wr_k q_416 (by decide) f_433)) (wr_k q_416 (by decide) f_473)) (wr_k q_416 (by decide) f_520)) (hS_V_415.rdS m_15 rs_RcR_3448_11_0_0) (by decide) (by decide)))
    sf_someb <|
    sf_pb (lay_S hR.1 (by decide +kernel)) <|
    sf_iteb (fun h_523 =>
    False.elim (rg_noeq h_523 (rg_c (x := (1 : Int32)) (n := 1) rfl) (rg_c (x := (0 : Int32)) (n := 0) rfl) (by decide)))
     (fun h_523 =>
    sf_assoc <|
    sf_iteb (fun h_534 =>
    False.elim (rg_nolt h_534 f_516 (rg_c (x := (0 : Int32)) (n := 0) rfl) (by decide)))
     (fun h_534 =>
    sf_pb (lay_S hR.1 (by decide +kernel)) <|
    sf_iteb (fun h_537 =>
    sf_someb <|
    sf_pb (lay_S hR.1 (by decide +kernel)) <|
    sf_pb (bl_rg (rg_c (x := (0 : Int32)) (n := 0) rfl) (by decide) (by decide)) <|
    sf_someb <|
    sf_ite (fun h_544 =>
    sf_sV hS_V_415)
     (fun h_544 =>
    False.elim (rg_none h_544 (rg_c (x := (0 : Int32)) (n := 0) rfl) (rg_c (x := (0 : Int32)) (n := 0) rfl))))
     (fun h_537 =>
    have f_549 := (cap_of ck_RcR (mem_of m_15 (by decide)) hS_V_415 (Int32.not_le.mp h_426))
    sf_someb <|
    sf_pb (lay_S hR.1 (by decide +kernel)) <|
    sf_pb (bl_rg (rg_c (x := (1 : Int32)) (n := 1) rfl) (by decide) (by decide)) <|
    sf_someb <|
    sf_ite (fun h_551 =>
    False.elim (rg_noeq h_551 (rg_c (x := (1 : Int32)) (n := 1) rfl) (rg_c (x := (0 : Int32)) (n := 0) rfl) (by decide)))
     (fun h_551 =>
    have f_553 := (cap_of ck_RcR (mem_of hR.1 (by decide)) hS_V_415 (Int32.not_le.mp h_537))
    sf_qL (s_F_X5_originalBetween_R hN hR hS_V_415 (mem_of m_15 (by decide)) (rg_m f_521 (by decide) (by decide)) (mem_of hR.1 (by decide)) (rg_m f_516 (by decide) (by decide)) f_549 f_553) fun x_554 r_555 =>
    sf_qL (s_F_X5_orSingle_R hN hR hS_V_415 r_555) fun x_556 r_557 =>
    sf_ite (fun h_558 =>
    have f_561 := (cap_of ck_RcR (mem_of hR.1 (by decide)) hS_V_415 (Int32.not_le.mp h_537))
    s_B_X5_moveAsOriginal_86_R hN hR hS_V_415 r_l1 (rg_m f_521 (by decide) (by decide)) (mem_of m_15 (by decide)) (mem_of hR.1 (by decide)) (rg_m f_516 (by decide) (by decide)) f_549 f_561)
     (fun h_558 =>
    have f_564 := (cap_of ck_RcR (mem_of hR.1 (by decide)) hS_V_415 (Int32.not_le.mp h_537))
    sf_qL (s_F_X9_rounded_R hN hR hS_V_415) fun x_565 r_566 =>
    s_B_X5_moveAsOriginal_86_R hN hR hS_V_415 r_l1 (rg_m f_521 (by decide) (by decide)) (mem_of m_15 (by decide)) (mem_of hR.1 (by decide)) (rg_m f_516 (by decide) (by decide)) f_549 f_564)))))))))))
     (fun h_414 =>
    False.elim (rg_none h_414 (rg_c (x := (0 : Int32)) (n := 0) rfl) (rg_c (x := (0 : Int32)) (n := 0) rfl))))
     (fun h_413 =>
    have f_567 := (rg_hlt (Int32.not_le.mp h_413) f_412 (rg_add (hS_V_2.rdS m_15 rs_RcR_3448_9_0_64) (hS_V_2.rdS m_15 rs_RcR_3448_11_0_0) (by decide) (by decide)))
    sf_someb <|
    sf_pb (lay_S m_15 (by decide +kernel)) <|
    sf_iteb (fun h_571 =>
    False.elim (rg_noeq h_571 (rg_c (x := (1 : Int32)) (n := 1) rfl) (rg_c (x := (0 : Int32)) (n := 0) rfl) (by decide)))
     (fun h_571 =>
    sf_assoc <|
    sf_iteb (fun h_581 =>
    False.elim (rg_nolt h_581 f_567 (rg_c (x := (0 : Int32)) (n := 0) rfl) (by decide)))
     (fun h_581 =>
    sf_pb (lay_S m_15 (by decide +kernel)) <|
    sf_iteb (fun h_583 =>
    sf_someb <|
    sf_pb (lay_S m_15 (by decide +kernel)) <|
    sf_pb (bl_rg (rg_c (x := (0 : Int32)) (n := 0) rfl) (by decide) (by decide)) <|
    sf_someb <|
    sf_ite (fun h_591 =>
    sf_sV hS_V_2)
     (fun h_591 =>
    False.elim (rg_none h_591 (rg_c (x := (0 : Int32)) (n := 0) rfl) (rg_c (x := (0 : Int32)) (n := 0) rfl))))
     (fun h_583 =>
    sf_someb <|
    sf_pb (lay_S m_15 (by decide +kernel)) <|
    sf_pb (bl_rg (rg_c (x := (1 : Int32)) (n := 1) rfl) (by decide) (by decide)) <|
    sf_someb <|
    sf_ite (fun h_598 =>
    False.elim (rg_noeq h_598 (rg_c (x := (1 : Int32)) (n := 1) rfl) (rg_c (x := (0 : Int32)) (n := 0) rfl) (by decide)))
     (fun h_598 =>
    sf_assoc <|
    sf_iteb (fun h_610 =>
    have f_611 := (rg_hlt h_610 rg_t (rg_c (x := (0 : Int32)) (n := 0) rfl))
    sf_someb <|
    sf_pb (lay_S hR.1 (by decide +kernel)) <|
    sf_iteb (fun h_614 =>
    sf_wb (hS_V_2.wc oi_RcR_69_14 (rg_m (rg_c (x := (5 : Int32)) (n := 5) rfl) (by decide) (by decide))) fun V_617 q_618 hS_V_617 =>
    sf_assoc <|
    sf_iteb (fun h_627 =>
    sf_someb <|
    sf_pb (lay_S hR.1 (by decide +kernel)) <|
    sf_pb (bl_rg (rg_c (x := (0 : Int32)) (n := 0) rfl) (by decide) (by decide)) <|
    sf_someb <|
    sf_ite (fun h_629 =>
    sf_sV hS_V_617)
     (fun h_629 =>
    False.elim (rg_none h_629 (rg_c (x := (0 : Int32)) (n := 0) rfl) (rg_c (x := (0 : Int32)) (n := 0) rfl))))
     (fun h_627 =>
    False.elim (rg_nole (Int32.not_lt.mp h_627) (rg_c (x := (0 : Int32)) (n := 0) rfl) f_611 (by decide))))
     (fun h_614 =>
    False.elim (rg_none h_614 (rg_c (x := (0 : Int32)) (n := 0) rfl) (rg_c (x := (0 : Int32)) (n := 0) rfl))))
     (fun h_610 =>
    have f_631 := (rg_lle (Int32.not_lt.mp h_610) (rg_c (x := (0 : Int32)) (n := 0) rfl) rg_t)
    sf_pb (lay_S hR.1 (by decide +kernel)) <|
    sf_iteb (fun h_634 =>
    sf_someb <|
    sf_pb (lay_S hR.1 (by decide +kernel)) <|
    sf_iteb (fun h_637 =>
    sf_wb (hS_V_2.wc oi_RcR_69_14 (rg_m (rg_c (x := (5 : Int32)) (n := 5) rfl) (by decide) (by decide))) fun V_639 q_640 hS_V_639 =>
    sf_assoc <|
    sf_iteb (fun h_649 =>
    False.elim (rg_nolt h_649 f_631 (rg_c (x := (0 : Int32)) (n := 0) rfl) (by decide)))
     (fun h_649 =>
    sf_pb (lay_S hR.1 (by decide +kernel)) <|
    sf_iteb (fun h_651 =>
    sf_someb <|
    sf_pb (lay_S hR.1 (by decide +kernel)) <|
    sf_pb (bl_rg (rg_c (x := (0 : Int32)) (n := 0) rfl) (by decide) (by decide)) <|
    sf_someb <|
    sf_ite (fun h_653 =>
    sf_sV hS_V_639)
     (fun h_653 =>
    False.elim (rg_none h_653 (rg_c (x := (0 : Int32)) (n := 0) rfl) (rg_c (x := (0 : Int32)) (n := 0) rfl))))
     (fun h_651 =>
    have f_654 := (rg_hlt (Int32.not_le.mp h_651) f_631 (rg_add (hS_V_639.rdS hR.1 rs_RcR_8293103113123133_9_0_100) (hS_V_639.rdS hR.1 rs_RcR_8293103113123133_11_0_2) (by decide) (by decide)))
    have f_657 := (cap_of ck_RcR (mem_of m_15 (by decide)) hS_V_2 (Int32.not_le.mp h_583))
    sf_someb <|
    sf_pb (lay_S hR.1 (by decide +kernel)) <|
    sf_pb (bl_rg (rg_c (x := (1 : Int32)) (n := 1) rfl) (by decide) (by decide)) <|
    sf_someb <|
    sf_ite (fun h_659 =>
    False.elim (rg_noeq h_659 (rg_c (x := (1 : Int32)) (n := 1) rfl) (rg_c (x := (0 : Int32)) (n := 0) rfl) (by decide)))
     (fun h_659 =>
    have f_660 := (cap_of ck_RcR (mem_of hR.1 (by decide)) hS_V_639 (Int32.not_le.mp h_651))
    sf_qL (s_F_X5_originalBetween_R hN hR hS_V_639 (mem_of m_15 (by decide)) (rg_m f_567 (by decide) (by decide)) (mem_of hR.1 (by decide)) (rg_m f_654 (by decide) (by decide)) f_657 f_660) fun x_661 r_662 =>
    sf_qL (s_F_X5_orSingle_R hN hR hS_V_639 r_662) fun x_663 r_664 =>
    sf_ite (fun h_665 =>
    have f_667 := (cap_of ck_RcR (mem_of hR.1 (by decide)) hS_V_639 (Int32.not_le.mp h_651))
    s_B_X5_moveAsOriginal_86_R hN hR hS_V_639 r_l1 (rg_m f_567 (by decide) (by decide)) (mem_of m_15 (by decide)) (mem_of hR.1 (by decide)) (rg_m f_654 (by decide) (by decide)) f_657 f_667)
     (fun h_665 =>
    have f_669 := (cap_of ck_RcR (mem_of hR.1 (by decide)) hS_V_639 (Int32.not_le.mp h_651))
    sf_qL (s_F_X9_rounded_R hN hR hS_V_639) fun x_670 r_671 =>
    s_B_X5_moveAsOriginal_86_R hN hR hS_V_639 r_l1 (rg_m f_567 (by decide) (by decide)) (mem_of m_15 (by decide)) (mem_of hR.1 (by decide)) (rg_m f_654 (by decide) (by decide)) f_657 f_669)))))
     (fun h_637 =>
    False.elim (rg_none h_637 (rg_c (x := (0 : Int32)) (n := 0) rfl) (rg_c (x := (0 : Int32)) (n := 0) rfl))))
     (fun h_634 =>
    have f_672 := (rg_hlt (Int32.not_le.mp h_634) f_631 (rg_add (hS_V_2.rdS hR.1 rs_RcR_8293103113123133_9_0_100) (hS_V_2.rdS hR.1 rs_RcR_8293103113123133_11_0_2) (by decide) (by decide)))
    sf_someb <|
    sf_pb (lay_S hR.1 (by decide +kernel)) <|
    sf_iteb (fun h_677 =>
    False.elim (rg_noeq h_677 (rg_c (x := (1 : Int32)) (n := 1) rfl) (rg_c (x := (0 : Int32)) (n := 0) rfl) (by decide)))
     (fun h_677 =>
    sf_assoc <|
    sf_iteb (fun h_688 =>
    False.elim (rg_nolt h_688 f_672 (rg_c (x := (0 : Int32)) (n := 0) rfl) (by decide)))
     (fun h_688 =>
    sf_pb (lay_S hR.1 (by decide +kernel)) <|
    sf_iteb (fun h_691 =>
    sf_someb <|
    sf_pb (lay_S hR.1 (by decide +kernel)) <|
    sf_pb (bl_rg (rg_c (x := (0 : Int32)) (n := 0) rfl) (by decide) (by decide)) <|
    sf_someb <|
    sf_ite (fun h_698 =>
    sf_sV hS_V_2)
     (fun h_698 =>
    False.elim (rg_none h_698 (rg_c (x := (0 : Int32)) (n := 0) rfl) (rg_c (x := (0 : Int32)) (n := 0) rfl))))
     (fun h_691 =>
    have f_703 := (cap_of ck_RcR (mem_of m_15 (by decide)) hS_V_2 (Int32.not_le.mp h_583))
    sf_someb <|
    sf_pb (lay_S hR.1 (by decide +kernel)) <|
    sf_pb (bl_rg (rg_c (x := (1 : Int32)) (n := 1) rfl) (by decide) (by decide)) <|
    sf_someb <|
    sf_ite (fun h_705 =>
    False.elim (rg_noeq h_705 (rg_c (x := (1 : Int32)) (n := 1) rfl) (rg_c (x := (0 : Int32)) (n := 0) rfl) (by decide)))
     (fun h_705 =>
    have f_707 := (cap_of ck_RcR (mem_of hR.1 (by decide)) hS_V_2 (Int32.not_le.mp h_691))
    sf_qL (s_F_X5_originalBetween_R hN hR hS_V_2 (mem_of m_15 (by decide)) (rg_m f_567 (by decide) (by decide)) (mem_of hR.1 (by decide)) (rg_m f_672 (by decide) (by decide)) f_703 f_707) fun x_708 r_709 =>
    sf_qL (s_F_X5_orSingle_R hN hR hS_V_2 r_709) fun x_710 r_711 =>
    sf_ite (fun h_712 =>
    have f_715 := (cap_of ck_RcR (mem_of hR.1 (by decide)) hS_V_2 (Int32.not_le.mp h_691))
    s_B_X5_moveAsOriginal_86_R hN hR hS_V_2 r_l1 (rg_m f_567 (by decide) (by decide)) (mem_of m_15 (by decide)) (mem_of hR.1 (by decide)) (rg_m f_672 (by decide) (by decide)) f_703 f_715)
     (fun h_712 =>
    have f_718 := (cap_of ck_RcR (mem_of hR.1 (by decide)) hS_V_2 (Int32.not_le.mp h_691))
    sf_qL (s_F_X9_rounded_R hN hR hS_V_2) fun x_719 r_720 =>
    s_B_X5_moveAsOriginal_86_R hN hR hS_V_2 r_l1 (rg_m f_567 (by decide) (by decide)) (mem_of m_15 (by decide)) (mem_of hR.1 (by decide)) (rg_m f_672 (by decide) (by decide)) f_703 f_718)))))))))))))))
     (fun h_11 =>
    sf_ob (c := bo) (ref7 hS_V_2 hR rfl) <|
    sf_someb <|
    sf_pb (in_rg (rg_c (x := (0 : Int32)) (n := 0) rfl) (by decide) (by decide)) <|
    sf_iteb (fun h_727 =>
    sf_ob (c := bm) (ref6 hS_V_2 hR rfl) <|
    sf_pb (lay_S hR.2.1 (by decide +kernel)) <|
    sf_assoc <|
    sf_crS (T := [34, 48]) hR.2.1 (by decide +kernel) fun b_729 m_731 q_730 =>
    sf_someb <|
    sf_let fun x_732 q_733 =>
    sf_assoc <|
    sf_iteb (fun h_743 =>
    have f_744 := (rg_hlt h_743 r_3 (rg_c (x := (0 : Int32)) (n := 0) rfl))
    sf_someb <|
    sf_pb (lay_S hR.1 (by decide +kernel)) <|
    sf_iteb (fun h_745 =>
    sf_wb (hS_V_2.wc oi_RcR_69_14 (rg_m (rg_c (x := (5 : Int32)) (n := 5) rfl) (by decide) (by decide))) fun V_746 q_747 hS_V_746 =>
    sf_assoc <|
    sf_iteb (fun h_756 =>
    sf_someb <|
    sf_pb (lay_S hR.1 (by decide +kernel)) <|
    sf_pb (bl_rg (rg_c (x := (0 : Int32)) (n := 0) rfl) (by decide) (by decide)) <|
    sf_someb <|
    sf_ite (fun h_757 =>
    sf_sV hS_V_746)
     (fun h_757 =>
    False.elim (rg_none h_757 (rg_c (x := (0 : Int32)) (n := 0) rfl) (rg_c (x := (0 : Int32)) (n := 0) rfl))))
     (fun h_756 =>
    False.elim (rg_nole (Int32.not_lt.mp h_756) (rg_c (x := (0 : Int32)) (n := 0) rfl) f_744 (by decide))))
     (fun h_745 =>
    False.elim (rg_none h_745 (rg_c (x := (0 : Int32)) (n := 0) rfl) (rg_c (x := (0 : Int32)) (n := 0) rfl))))
     (fun h_743 =>
    have f_758 := (rg_lle (Int32.not_lt.mp h_743) (rg_c (x := (0 : Int32)) (n := 0) rfl) r_3)
    sf_pb (lay_S hR.1 (by decide +kernel)) <|
    sf_iteb (fun h_759 =>
    sf_someb <|
    sf_pb (lay_S hR.1 (by decide +kernel)) <|
    sf_iteb (fun h_760 =>
    sf_wb (hS_V_2.wc oi_RcR_69_14 (rg_m (rg_c (x := (5 : Int32)) (n := 5) rfl) (by decide) (by decide))) fun V_761 q_762 hS_V_761 =>
    sf_assoc <|
    sf_iteb (fun h_771 =>
    False.elim (rg_nolt h_771 f_758 (rg_c (x := (0 : Int32)) (n := 0) rfl) (by decide)))
     (fun h_771 =>
    sf_pb (lay_S hR.1 (by decide +kernel)) <|
    sf_iteb (fun h_772 =>
    sf_someb <|
    sf_pb (lay_S hR.1 (by decide +kernel)) <|
    sf_pb (bl_rg (rg_c (x := (0 : Int32)) (n := 0) rfl) (by decide) (by decide)) <|
    sf_someb <|
    sf_ite (fun h_773 =>
    sf_sV hS_V_761)
     (fun h_773 =>
    False.elim (rg_none h_773 (rg_c (x := (0 : Int32)) (n := 0) rfl) (rg_c (x := (0 : Int32)) (n := 0) rfl))))
     (fun h_772 =>
    have f_774 := (rg_hlt (Int32.not_le.mp h_772) f_758 (rg_add (hS_V_761.rdS hR.1 rs_RcR_8293103113123133_9_0_100) (hS_V_761.rdS hR.1 rs_RcR_8293103113123133_11_0_2) (by decide) (by decide)))
    sf_someb <|
    sf_pb (lay_S hR.1 (by decide +kernel)) <|
    sf_pb (bl_rg (rg_c (x := (1 : Int32)) (n := 1) rfl) (by decide) (by decide)) <|
    sf_someb <|
    sf_ite (fun h_778 =>
    False.elim (rg_noeq h_778 (rg_c (x := (1 : Int32)) (n := 1) rfl) (rg_c (x := (0 : Int32)) (n := 0) rfl) (by decide)))
     (fun h_778 =>
    sf_assoc <|
    sf_iteb (fun h_789 =>
    have f_790 := (rg_hlt h_789 rg_t (rg_c (x := (0 : Int32)) (n := 0) rfl))
    sf_someb <|
    sf_pb (lay_S m_731 (by decide +kernel)) <|
    sf_iteb (fun h_792 =>
    sf_wb (hS_V_761.wc oi_RcR_69_14 (rg_m (rg_c (x := (5 : Int32)) (n := 5) rfl) (by decide) (by decide))) fun V_794 q_795 hS_V_794 =>
    sf_assoc <|
    sf_iteb (fun h_804 =>
    sf_someb <|
    sf_pb (lay_S m_731 (by decide +kernel)) <|
    sf_pb (bl_rg (rg_c (x := (0 : Int32)) (n := 0) rfl) (by decide) (by decide)) <|
    sf_someb <|
    sf_ite (fun h_806 =>
    sf_sV hS_V_794)
     (fun h_806 =>
    False.elim (rg_none h_806 (rg_c (x := (0 : Int32)) (n := 0) rfl) (rg_c (x := (0 : Int32)) (n := 0) rfl))))
     (fun h_804 =>
    False.elim (rg_nole (Int32.not_lt.mp h_804) (rg_c (x := (0 : Int32)) (n := 0) rfl) f_790 (by decide))))
     (fun h_792 =>
    False.elim (rg_none h_792 (rg_c (x := (0 : Int32)) (n := 0) rfl) (rg_c (x := (0 : Int32)) (n := 0) rfl))))
     (fun h_789 =>
    have f_808 := (rg_lle (Int32.not_lt.mp h_789) (rg_c (x := (0 : Int32)) (n := 0) rfl) rg_t)
    sf_pb (lay_S m_731 (by decide +kernel)) <|
    sf_iteb (fun h_810 =>
    sf_someb <|
    sf_pb (lay_S m_731 (by decide +kernel)) <|
    sf_iteb (fun h_812 =>
    sf_wb (hS_V_761.wc oi_RcR_69_14 (rg_m (rg_c (x := (5 : Int32)) (n := 5) rfl) (by decide) (by decide))) fun V_814 q_815 hS_V_814 =>
    sf_assoc <|
    sf_iteb (fun h_824 =>
    False.elim (rg_nolt h_824 f_808 (rg_c (x := (0 : Int32)) (n := 0) rfl) (by decide)))
     (fun h_824 =>
    sf_pb (lay_S m_731 (by decide +kernel)) <|
    sf_iteb (fun h_826 =>
    sf_someb <|
    sf_pb (lay_S m_731 (by decide +kernel)) <|
    sf_pb (bl_rg (rg_c (x := (0 : Int32)) (n := 0) rfl) (by decide) (by decide)) <|
    sf_someb <|
    sf_ite (fun h_828 =>
    sf_sV hS_V_814)
     (fun h_828 =>
    False.elim (rg_none h_828 (rg_c (x := (0 : Int32)) (n := 0) rfl) (rg_c (x := (0 : Int32)) (n := 0) rfl))))
     (fun h_826 =>
    have f_829 := (rg_hlt (Int32.not_le.mp h_826) f_808 (rg_add (hS_V_814.rdS m_731 rs_RcR_3448_9_0_64) (hS_V_814.rdS m_731 rs_RcR_3448_11_0_0) (by decide) (by decide)))
    have f_830 := (rg_llt (Int32.not_le.mp h_826) f_808 (rg_add (hS_V_814.rdS m_731 rs_RcR_3448_9_0_64) (hS_V_814.rdS m_731 rs_RcR_3448_11_0_0) (by decide) (by decide)))
    have f_831 := (rg_addL f_830 (hS_V_814.rdS m_731 rs_RcR_3448_9_0_64) (hS_V_814.rdS m_731 rs_RcR_3448_11_0_0) (by decide) (by decide))
    have f_833 := (cap_of ck_RcR (mem_of hR.1 (by decide)) hS_V_761 (Int32.not_le.mp h_772))
    have f_834 := (rg_hle h_810 (rg_add (hS_V_761.rdS m_731 rs_RcR_3448_9_0_64) (hS_V_761.rdS m_731 rs_RcR_3448_11_0_0) (by decide) (by decide)) f_829)
    have f_835 := (rg_addL f_834 (hS_V_761.rdS m_731 rs_RcR_3448_9_0_64) (hS_V_761.rdS m_731 rs_RcR_3448_11_0_0) (by decide) (by decide))
    sf_someb <|
    sf_pb (lay_S m_731 (by decide +kernel)) <|
    sf_pb (bl_rg (rg_c (x := (1 : Int32)) (n := 1) rfl) (by decide) (by decide)) <|
    sf_someb <|
    sf_ite (fun h_836 =>
    False.elim (rg_noeq h_836 (rg_c (x := (1 : Int32)) (n := 1) rfl) (rg_c (x := (0 : Int32)) (n := 0) rfl) (by decide)))
     (fun h_836 =>
    have f_837 := (rg_hlt (Int32.not_le.mp h_826) f_829 (rg_add (rg_i f_831 (wr_k q_815 (by decide) f_835)) (hS_V_814.rdS m_731 rs_RcR_3448_11_0_0) (by decide) (by decide)))
    have f_838 := (cap_of ck_RcR (mem_of m_731 (by decide)) hS_V_814 (Int32.not_le.mp h_826))
    sf_qL (s_F_X5_originalBetween_R hN hR hS_V_814 (mem_of hR.1 (by decide)) (rg_m f_774 (by decide) (by decide)) (mem_of m_731 (by decide)) (rg_m f_837 (by decide) (by decide)) f_833 f_838) fun x_839 r_840 =>
    sf_qL (s_F_X5_orSingle_R hN hR hS_V_814 r_840) fun x_841 r_842 =>
    sf_ite (fun h_843 =>
    have f_845 := (rg_hle h_810 (rg_add f_835 (hS_V_761.rdS m_731 rs_RcR_3448_11_0_0) (by decide) (by decide)) f_837)
    have f_846 := (rg_addL f_845 f_835 (hS_V_761.rdS m_731 rs_RcR_3448_11_0_0) (by decide) (by decide))
    have f_847 := (rg_hlt (Int32.not_le.mp h_826) f_837 (rg_add (rg_i (rg_i f_831 (wr_k q_815 (by decide) f_835)) (wr_k q_815 (by decide) f_846)) (hS_V_814.rdS m_731 rs_RcR_3448_11_0_0) (by decide) (by decide)))
    have f_848 := (cap_of ck_RcR (mem_of m_731 (by decide)) hS_V_814 (Int32.not_le.mp h_826))
    s_B_X5_moveAsOriginal_86_R hN hR hS_V_814 r_l1 (rg_m f_774 (by decide) (by decide)) (mem_of hR.1 (by decide)) (mem_of m_731 (by decide)) (rg_m f_847 (by decide) (by decide)) f_833 f_848)
     (fun h_843 =>
    have f_850 := (rg_hle h_810 (rg_add f_835 (hS_V_761.rdS m_731 rs_RcR_3448_11_0_0) (by decide) (by decide)) f_837)
    have f_851 := (rg_addL f_850 f_835 (hS_V_761.rdS m_731 rs_RcR_3448_11_0_0) (by decide) (by decide))
    have f_852 := (rg_hlt (Int32.not_le.mp h_826) f_837 (rg_add (rg_i (rg_i f_831 (wr_k q_815 (by decide) f_835)) (wr_k q_815 (by decide) f_851)) (hS_V_814.rdS m_731 rs_RcR_3448_11_0_0) (by decide) (by decide)))
    have f_853 := (cap_of ck_RcR (mem_of m_731 (by decide)) hS_V_814 (Int32.not_le.mp h_826))
    sf_qL (s_F_X9_rounded_R hN hR hS_V_814) fun x_854 r_855 =>
    s_B_X5_moveAsOriginal_86_R hN hR hS_V_814 r_l1 (rg_m f_774 (by decide) (by decide)) (mem_of hR.1 (by decide)) (mem_of m_731 (by decide)) (rg_m f_852 (by decide) (by decide)) f_833 f_853)))))
     (fun h_812 =>
    False.elim (rg_none h_812 (rg_c (x := (0 : Int32)) (n := 0) rfl) (rg_c (x := (0 : Int32)) (n := 0) rfl))))
     (fun h_810 =>
    have f_856 := (rg_hlt (Int32.not_le.mp h_810) f_808 (rg_add (hS_V_761.rdS m_731 rs_RcR_3448_9_0_64) (hS_V_761.rdS m_731 rs_RcR_3448_11_0_0) (by decide) (by decide)))
    sf_someb <|
    sf_pb (lay_S m_731 (by decide +kernel)) <|
    sf_iteb (fun h_861 =>
    False.elim (rg_noeq h_861 (rg_c (x := (1 : Int32)) (n := 1) rfl) (rg_c (x := (0 : Int32)) (n := 0) rfl) (by decide)))
     (fun h_861 =>
    sf_assoc <|
    sf_iteb (fun h_872 =>
    False.elim (rg_nolt h_872 f_856 (rg_c (x := (0 : Int32)) (n := 0) rfl) (by decide)))
     (fun h_872 =>
    sf_pb (lay_S m_731 (by decide +kernel)) <|
    sf_iteb (fun h_875 =>
    sf_someb <|
    sf_pb (lay_S m_731 (by decide +kernel)) <|
    sf_pb (bl_rg (rg_c (x := (0 : Int32)) (n := 0) rfl) (by decide) (by decide)) <|
    sf_someb <|
    sf_ite (fun h_884 =>
    sf_sV hS_V_761)
     (fun h_884 =>
    False.elim (rg_none h_884 (rg_c (x := (0 : Int32)) (n := 0) rfl) (rg_c (x := (0 : Int32)) (n := 0) rfl))))
     (fun h_875 =>
    have f_890 := (cap_of ck_RcR (mem_of hR.1 (by decide)) hS_V_761 (Int32.not_le.mp h_772))
    sf_someb <|
    sf_pb (lay_S m_731 (by decide +kernel)) <|
    sf_pb (bl_rg (rg_c (x := (1 : Int32)) (n := 1) rfl) (by decide) (by decide)) <|
    sf_someb <|
    sf_ite (fun h_892 =>
    False.elim (rg_noeq h_892 (rg_c (x := (1 : Int32)) (n := 1) rfl) (rg_c (x := (0 : Int32)) (n := 0) rfl) (by decide)))
     (fun h_892 =>
    have f_894 := (cap_of ck_RcR (mem_of m_731 (by decide)) hS_V_761 (Int32.not_le.mp h_875))
    sf_qL (s_F_X5_originalBetween_R hN hR hS_V_761 (mem_of hR.1 (by decide)) (rg_m f_774 (by decide) (by decide)) (mem_of m_731 (by decide)) (rg_m f_856 (by decide) (by decide)) f_890 f_894) fun x_895 r_896 =>
    sf_qL (s_F_X5_orSingle_R hN hR hS_V_761 r_896) fun x_897 r_898 =>
    sf_ite (fun h_899 =>
    have f_902 := (cap_of ck_RcR (mem_of m_731 (by decide)) hS_V_761 (Int32.not_le.mp h_875))
    s_B_X5_moveAsOriginal_86_R hN hR hS_V_761 r_l1 (rg_m f_774 (by decide) (by decide)) (mem_of hR.1 (by decide)) (mem_of m_731 (by decide)) (rg_m f_856 (by decide) (by decide)) f_890 f_902)
     (fun h_899 =>
    have f_905 := (cap_of ck_RcR (mem_of m_731 (by decide)) hS_V_761 (Int32.not_le.mp h_875))
    sf_qL (s_F_X9_rounded_R hN hR hS_V_761) fun x_906 r_907 =>
    s_B_X5_moveAsOriginal_86_R hN hR hS_V_761 r_l1 (rg_m f_774 (by decide) (by decide)) (mem_of hR.1 (by decide)) (mem_of m_731 (by decide)) (rg_m f_856 (by decide) (by decide)) f_890 f_905)))))))))))
     (fun h_760 =>
    False.elim (rg_none h_760 (rg_c (x := (0 : Int32)) (n := 0) rfl) (rg_c (x := (0 : Int32)) (n := 0) rfl))))
     (fun h_759 =>
    have f_908 := (rg_hlt (Int32.not_le.mp h_759) f_758 (rg_add (hS_V_2.rdS hR.1 rs_RcR_8293103113123133_9_0_100) (hS_V_2.rdS hR.1 rs_RcR_8293103113123133_11_0_2) (by decide) (by decide)))
    sf_someb <|
    sf_pb (lay_S hR.1 (by decide +kernel)) <|
    sf_iteb (fun h_911 =>
    False.elim (rg_noeq h_911 (rg_c (x := (1 : Int32)) (n := 1) rfl) (rg_c (x := (0 : Int32)) (n := 0) rfl) (by decide)))
     (fun h_911 =>
    sf_assoc <|
    sf_iteb (fun h_921 =>
    False.elim (rg_nolt h_921 f_908 (rg_c (x := (0 : Int32)) (n := 0) rfl) (by decide)))
     (fun h_921 =>
    sf_pb (lay_S hR.1 (by decide +kernel)) <|
    sf_iteb (fun h_923 =>
    sf_someb <|
    sf_pb (lay_S hR.1 (by decide +kernel)) <|
    sf_pb (bl_rg (rg_c (x := (0 : Int32)) (n := 0) rfl) (by decide) (by decide)) <|
    sf_someb <|
    sf_ite (fun h_929 =>
    sf_sV hS_V_2)
     (fun h_929 =>
    False.elim (rg_none h_929 (rg_c (x := (0 : Int32)) (n := 0) rfl) (rg_c (x := (0 : Int32)) (n := 0) rfl))))
     (fun h_923 =>
    sf_someb <|
    sf_pb (lay_S hR.1 (by decide +kernel)) <|
    sf_pb (bl_rg (rg_c (x := (1 : Int32)) (n := 1) rfl) (by decide) (by decide)) <|
    sf_someb <|
    sf_ite (fun h_935 =>
    False.elim (rg_noeq h_935 (rg_c (x := (1 : Int32)) (n := 1) rfl) (rg_c (x := (0 : Int32)) (n := 0) rfl) (by decide)))
     (fun h_935 =>
    sf_assoc <|
    sf_iteb (fun h_947 =>
    have f_948 := (rg_hlt h_947 rg_t (rg_c (x := (0 : Int32)) (n := 0) rfl))
    sf_someb <|
    sf_pb (lay_S m_731 (by decide +kernel)) <|
    sf_iteb (fun h_951 =>
    sf_wb (hS_V_2.wc oi_RcR_69_14 (rg_m (rg_c (x := (5 : Int32)) (n := 5) rfl) (by decide) (by decide))) fun V_954 q_955 hS_V_954 =>
    sf_assoc <|
    sf_iteb (fun h_964 =>
    sf_someb <|
    sf_pb (lay_S m_731 (by decide +kernel)) <|
    sf_pb (bl_rg (rg_c (x := (0 : Int32)) (n := 0) rfl) (by decide) (by decide)) <|
    sf_someb <|
    sf_ite (fun h_966 =>
    sf_sV hS_V_954)
     (fun h_966 =>
    False.elim (rg_none h_966 (rg_c (x := (0 : Int32)) (n := 0) rfl) (rg_c (x := (0 : Int32)) (n := 0) rfl))))
     (fun h_964 =>
    False.elim (rg_nole (Int32.not_lt.mp h_964) (rg_c (x := (0 : Int32)) (n := 0) rfl) f_948 (by decide))))
     (fun h_951 =>
    False.elim (rg_none h_951 (rg_c (x := (0 : Int32)) (n := 0) rfl) (rg_c (x := (0 : Int32)) (n := 0) rfl))))
     (fun h_947 =>
    have f_968 := (rg_lle (Int32.not_lt.mp h_947) (rg_c (x := (0 : Int32)) (n := 0) rfl) rg_t)
    sf_pb (lay_S m_731 (by decide +kernel)) <|
    sf_iteb (fun h_971 =>
    sf_someb <|
    sf_pb (lay_S m_731 (by decide +kernel)) <|
    sf_iteb (fun h_974 =>
    sf_wb (hS_V_2.wc oi_RcR_69_14 (rg_m (rg_c (x := (5 : Int32)) (n := 5) rfl) (by decide) (by decide))) fun V_976 q_977 hS_V_976 =>
    sf_assoc <|
    sf_iteb (fun h_986 =>
    False.elim (rg_nolt h_986 f_968 (rg_c (x := (0 : Int32)) (n := 0) rfl) (by decide)))
     (fun h_986 =>
    sf_pb (lay_S m_731 (by decide +kernel)) <|
    sf_iteb (fun h_988 =>
    sf_someb <|
    sf_pb (lay_S m_731 (by decide +kernel)) <|
    sf_pb (bl_rg (rg_c (x := (0 : Int32)) (n := 0) rfl) (by decide) (by decide)) <|
    sf_someb <|
    sf_ite (fun h_990 =>
    sf_sV hS_V_976)
     (fun h_990 =>
    False.elim (rg_none h_990 (rg_c (x := (0 : Int32)) (n := 0) rfl) (rg_c (x := (0 : Int32)) (n := 0) rfl))))
     (fun h_988 =>
    have f_991 := (rg_hlt (Int32.not_le.mp h_988) f_968 (rg_add (hS_V_976.rdS m_731 rs_RcR_3448_9_0_64) (hS_V_976.rdS m_731 rs_RcR_3448_11_0_0) (by decide) (by decide)))
    have f_992 := (rg_llt (Int32.not_le.mp h_988) f_968 (rg_add (hS_V_976.rdS m_731 rs_RcR_3448_9_0_64) (hS_V_976.rdS m_731 rs_RcR_3448_11_0_0) (by decide) (by decide)))
    have f_993 := (rg_addL f_992 (hS_V_976.rdS m_731 rs_RcR_3448_9_0_64) (hS_V_976.rdS m_731 rs_RcR_3448_11_0_0) (by decide) (by decide))
    have f_995 := (cap_of ck_RcR (mem_of hR.1 (by decide)) hS_V_2 (Int32.not_le.mp h_923))
    have f_996 := (rg_hle h_971 (rg_add (hS_V_2.rdS m_731 rs_RcR_3448_9_0_64) (hS_V_2.rdS m_731 rs_RcR_3448_11_0_0) (by decide) (by decide)) f_991)
    have f_997 := (rg_addL f_996 (hS_V_2.rdS m_731 rs_RcR_3448_9_0_64) (hS_V_2.rdS m_731 rs_RcR_3448_11_0_0) (by decide) (by decide))
    sf_someb <|
    sf_pb (lay_S m_731 (by decide +kernel)) <|
    sf_pb (bl_rg (rg_c (x := (1 : Int32)) (n := 1) rfl) (by decide) (by decide)) <|
    sf_someb <|
    sf_ite (fun h_998 =>
    False.elim (rg_noeq h_998 (rg_c (x := (1 : Int32)) (n := 1) rfl) (rg_c (x := (0 : Int32)) (n := 0) rfl) (by decide)))
     (fun h_998 =>
    have f_999 := (rg_hlt (Int32.not_le.mp h_988) f_991 (rg_add (rg_i f_993 (wr_k q_977 (by decide) f_997)) (hS_V_976.rdS m_731 rs_RcR_3448_11_0_0) (by decide) (by decide)))
    have f_1000 := (cap_of ck_RcR (mem_of m_731 (by decide)) hS_V_976 (Int32.not_le.mp h_988))
    sf_qL (s_F_X5_originalBetween_R hN hR hS_V_976 (mem_of hR.1 (by decide)) (rg_m f_908 (by decide) (by decide)) (mem_of m_731 (by decide)) (rg_m f_999 (by decide) (by decide)) f_995 f_1000) fun x_1001 r_1002 =>
    sf_qL (s_F_X5_orSingle_R hN hR hS_V_976 r_1002) fun x_1003 r_1004 =>
    sf_ite (fun h_1005 =>
    have f_1007 := (rg_hle h_971 (rg_add f_997 (hS_V_2.rdS m_731 rs_RcR_3448_11_0_0) (by decide) (by decide)) f_999)
    have f_1008 := (rg_addL f_1007 f_997 (hS_V_2.rdS m_731 rs_RcR_3448_11_0_0) (by decide) (by decide))
    have f_1009 := (rg_hlt (Int32.not_le.mp h_988) f_999 (rg_add (rg_i (rg_i f_993 (wr_k q_977 (by decide) f_997)) (wr_k q_977 (by decide) f_1008)) (hS_V_976.rdS m_731 rs_RcR_3448_11_0_0) (by decide) (by decide)))
    have f_1010 := (cap_of ck_RcR (mem_of m_731 (by decide)) hS_V_976 (Int32.not_le.mp h_988))
    s_B_X5_moveAsOriginal_86_R hN hR hS_V_976 r_l1 (rg_m f_908 (by decide) (by decide)) (mem_of hR.1 (by decide)) (mem_of m_731 (by decide)) (rg_m f_1009 (by decide) (by decide)) f_995 f_1010)
     (fun h_1005 =>
    have f_1012 := (rg_hle h_971 (rg_add f_997 (hS_V_2.rdS m_731 rs_RcR_3448_11_0_0) (by decide) (by decide)) f_999)
    have f_1013 := (rg_addL f_1012 f_997 (hS_V_2.rdS m_731 rs_RcR_3448_11_0_0) (by decide) (by decide))
    have f_1014 := (rg_hlt (Int32.not_le.mp h_988) f_999 (rg_add (rg_i (rg_i f_993 (wr_k q_977 (by decide) f_997)) (wr_k q_977 (by decide) f_1013)) (hS_V_976.rdS m_731 rs_RcR_3448_11_0_0) (by decide) (by decide)))
    have f_1015 := (cap_of ck_RcR (mem_of m_731 (by decide)) hS_V_976 (Int32.not_le.mp h_988))
    sf_qL (s_F_X9_rounded_R hN hR hS_V_976) fun x_1016 r_1017 =>
    s_B_X5_moveAsOriginal_86_R hN hR hS_V_976 r_l1 (rg_m f_908 (by decide) (by decide)) (mem_of hR.1 (by decide)) (mem_of m_731 (by decide)) (rg_m f_1014 (by decide) (by decide)) f_995 f_1015)))))
     (fun h_974 =>
    False.elim (rg_none h_974 (rg_c (x := (0 : Int32)) (n := 0) rfl) (rg_c (x := (0 : Int32)) (n := 0) rfl))))
     (fun h_971 =>
    have f_1018 := (rg_hlt (Int32.not_le.mp h_971) f_968 (rg_add (hS_V_2.rdS m_731 rs_RcR_3448_9_0_64) (hS_V_2.rdS m_731 rs_RcR_3448_11_0_0) (by decide) (by decide)))
    sf_someb <|
    sf_pb (lay_S m_731 (by decide +kernel)) <|
    sf_iteb (fun h_1024 =>
    False.elim (rg_noeq h_1024 (rg_c (x := (1 : Int32)) (n := 1) rfl) (rg_c (x := (0 : Int32)) (n := 0) rfl) (by decide)))
     (fun h_1024 =>
    sf_assoc <|
    sf_iteb (fun h_1035 =>
    False.elim (rg_nolt h_1035 f_1018 (rg_c (x := (0 : Int32)) (n := 0) rfl) (by decide)))
     (fun h_1035 =>
    sf_pb (lay_S m_731 (by decide +kernel)) <|
    sf_iteb (fun h_1038 =>
    sf_someb <|
    sf_pb (lay_S m_731 (by decide +kernel)) <|
    sf_pb (bl_rg (rg_c (x := (0 : Int32)) (n := 0) rfl) (by decide) (by decide)) <|
    sf_someb <|
    sf_ite (fun h_1047 =>
    sf_sV hS_V_2)
     (fun h_1047 =>
    False.elim (rg_none h_1047 (rg_c (x := (0 : Int32)) (n := 0) rfl) (rg_c (x := (0 : Int32)) (n := 0) rfl))))
     (fun h_1038 =>
    have f_1053 := (cap_of ck_RcR (mem_of hR.1 (by decide)) hS_V_2 (Int32.not_le.mp h_923))
    sf_someb <|
    sf_pb (lay_S m_731 (by decide +kernel)) <|
    sf_pb (bl_rg (rg_c (x := (1 : Int32)) (n := 1) rfl) (by decide) (by decide)) <|
    sf_someb <|
    sf_ite (fun h_1055 =>
    False.elim (rg_noeq h_1055 (rg_c (x := (1 : Int32)) (n := 1) rfl) (rg_c (x := (0 : Int32)) (n := 0) rfl) (by decide)))
     (fun h_1055 =>
    have f_1057 := (cap_of ck_RcR (mem_of m_731 (by decide)) hS_V_2 (Int32.not_le.mp h_1038))
    sf_qL (s_F_X5_originalBetween_R hN hR hS_V_2 (mem_of hR.1 (by decide)) (rg_m f_908 (by decide) (by decide)) (mem_of m_731 (by decide)) (rg_m f_1018 (by decide) (by decide)) f_1053 f_1057) fun x_1058 r_1059 =>
    sf_qL (s_F_X5_orSingle_R hN hR hS_V_2 r_1059) fun x_1060 r_1061 =>
    sf_ite (fun h_1062 =>
    have f_1065 := (cap_of ck_RcR (mem_of m_731 (by decide)) hS_V_2 (Int32.not_le.mp h_1038))
    s_B_X5_moveAsOriginal_86_R hN hR hS_V_2 r_l1 (rg_m f_908 (by decide) (by decide)) (mem_of hR.1 (by decide)) (mem_of m_731 (by decide)) (rg_m f_1018 (by decide) (by decide)) f_1053 f_1065)
     (fun h_1062 =>
    have f_1068 := (cap_of ck_RcR (mem_of m_731 (by decide)) hS_V_2 (Int32.not_le.mp h_1038))
    sf_qL (s_F_X9_rounded_R hN hR hS_V_2) fun x_1069 r_1070 =>
    s_B_X5_moveAsOriginal_86_R hN hR hS_V_2 r_l1 (rg_m f_908 (by decide) (by decide)) (mem_of hR.1 (by decide)) (mem_of m_731 (by decide)) (rg_m f_1018 (by decide) (by decide)) f_1053 f_1068))))))))))))))
     (fun h_727 =>
    sf_ob (c := bo) (ref7 hS_V_2 hR rfl) <|
    sf_someb <|
    sf_let fun x_1072 q_1073 =>
    sf_assoc <|
    sf_iteb (fun h_1083 =>
    have f_1084 := (rg_hlt h_1083 r_3 (rg_c (x := (0 : Int32)) (n := 0) rfl))
    sf_someb <|
    sf_pb (lay_S hR.1 (by decide +kernel)) <|
    sf_iteb (fun h_1085 =>
    sf_wb (hS_V_2.wc oi_RcR_69_14 (rg_m (rg_c (x := (5 : Int32)) (n := 5) rfl) (by decide) (by decide))) fun V_1086 q_1087 hS_V_1086 =>
    sf_assoc <|
    sf_iteb (fun h_1096 =>
    sf_someb <|
    sf_pb (lay_S hR.1 (by decide +kernel)) <|
    sf_pb (bl_rg (rg_c (x := (0 : Int32)) (n := 0) rfl) (by decide) (by decide)) <|
    sf_someb <|
    sf_ite (fun h_1097 =>
    sf_sV hS_V_1086)
     (fun h_1097 =>
    False.elim (rg_none h_1097 (rg_c (x := (0 : Int32)) (n := 0) rfl) (rg_c (x := (0 : Int32)) (n := 0) rfl))))
     (fun h_1096 =>
    False.elim (rg_nole (Int32.not_lt.mp h_1096) (rg_c (x := (0 : Int32)) (n := 0) rfl) f_1084 (by decide))))
     (fun h_1085 =>
    False.elim (rg_none h_1085 (rg_c (x := (0 : Int32)) (n := 0) rfl) (rg_c (x := (0 : Int32)) (n := 0) rfl))))
     (fun h_1083 =>
    have f_1098 := (rg_lle (Int32.not_lt.mp h_1083) (rg_c (x := (0 : Int32)) (n := 0) rfl) r_3)
    sf_pb (lay_S hR.1 (by decide +kernel)) <|
    sf_iteb (fun h_1099 =>
    sf_someb <|
    sf_pb (lay_S hR.1 (by decide +kernel)) <|
    sf_iteb (fun h_1100 =>
    sf_wb (hS_V_2.wc oi_RcR_69_14 (rg_m (rg_c (x := (5 : Int32)) (n := 5) rfl) (by decide) (by decide))) fun V_1101 q_1102 hS_V_1101 =>
    sf_assoc <|
    sf_iteb (fun h_1111 =>
    False.elim (rg_nolt h_1111 f_1098 (rg_c (x := (0 : Int32)) (n := 0) rfl) (by decide)))
     (fun h_1111 =>
    sf_pb (lay_S hR.1 (by decide +kernel)) <|
    sf_iteb (fun h_1112 =>
    sf_someb <|
    sf_pb (lay_S hR.1 (by decide +kernel)) <|
    sf_pb (bl_rg (rg_c (x := (0 : Int32)) (n := 0) rfl) (by decide) (by decide)) <|
    sf_someb <|
    sf_ite (fun h_1113 =>
    sf_sV hS_V_1101)
     (fun h_1113 =>
    False.elim (rg_none h_1113 (rg_c (x := (0 : Int32)) (n := 0) rfl) (rg_c (x := (0 : Int32)) (n := 0) rfl))))
     (fun h_1112 =>
    have f_1114 := (rg_hlt (Int32.not_le.mp h_1112) f_1098 (rg_add (hS_V_1101.rdS hR.1 rs_RcR_8293103113123133_9_0_100) (hS_V_1101.rdS hR.1 rs_RcR_8293103113123133_11_0_2) (by decide) (by decide)))
    have f_1115 := (rg_llt (Int32.not_le.mp h_1112) f_1098 (rg_add (hS_V_1101.rdS hR.1 rs_RcR_8293103113123133_9_0_100) (hS_V_1101.rdS hR.1 rs_RcR_8293103113123133_11_0_2) (by decide) (by decide)))
    sf_someb <|
    sf_pb (lay_S hR.1 (by decide +kernel)) <|
    sf_pb (bl_rg (rg_c (x := (1 : Int32)) (n := 1) rfl) (by decide) (by decide)) <|
    sf_someb <|
    sf_ite (fun h_1118 =>
    False.elim (rg_noeq h_1118 (rg_c (x := (1 : Int32)) (n := 1) rfl) (rg_c (x := (0 : Int32)) (n := 0) rfl) (by decide)))
     (fun h_1118 =>
    sf_assoc <|
    sf_iteb (fun h_1129 =>
    have f_1130 := (rg_hlt h_1129 rg_t (rg_c (x := (0 : Int32)) (n := 0) rfl))
    sf_someb <|
    sf_pb (lay_S hR.1 (by decide +kernel)) <|
    sf_iteb (fun h_1132 =>
    sf_wb (hS_V_1101.wc oi_RcR_69_14 (rg_m (rg_c (x := (5 : Int32)) (n := 5) rfl) (by decide) (by decide))) fun V_1134 q_1135 hS_V_1134 =>
    sf_assoc <|
    sf_iteb (fun h_1144 =>
    sf_someb <|
    sf_pb (lay_S hR.1 (by decide +kernel)) <|
    sf_pb (bl_rg (rg_c (x := (0 : Int32)) (n := 0) rfl) (by decide) (by decide)) <|
    sf_someb <|
    sf_ite (fun h_1146 =>
    sf_sV hS_V_1134)
     (fun h_1146 =>
    False.elim (rg_none h_1146 (rg_c (x := (0 : Int32)) (n := 0) rfl) (rg_c (x := (0 : Int32)) (n := 0) rfl))))
     (fun h_1144 =>
    False.elim (rg_nole (Int32.not_lt.mp h_1144) (rg_c (x := (0 : Int32)) (n := 0) rfl) f_1130 (by decide))))
     (fun h_1132 =>
    False.elim (rg_none h_1132 (rg_c (x := (0 : Int32)) (n := 0) rfl) (rg_c (x := (0 : Int32)) (n := 0) rfl))))
     (fun h_1129 =>
    have f_1148 := (rg_lle (Int32.not_lt.mp h_1129) (rg_c (x := (0 : Int32)) (n := 0) rfl) rg_t)
    sf_pb (lay_S hR.1 (by decide +kernel)) <|
    sf_iteb (fun h_1150 =>
    have f_1151 := (rg_lle h_1150 f_1115 f_1148)
    sf_someb <|
    sf_pb (lay_S hR.1 (by decide +kernel)) <|
    sf_iteb (fun h_1153 =>
    sf_wb (hS_V_1101.wc oi_RcR_69_14 (rg_m (rg_c (x := (5 : Int32)) (n := 5) rfl) (by decide) (by decide))) fun V_1155 q_1156 hS_V_1155 =>
    sf_assoc <|
    sf_iteb (fun h_1165 =>
    False.elim (rg_nolt h_1165 f_1151 (rg_c (x := (0 : Int32)) (n := 0) rfl) (by decide)))
     (fun h_1165 =>
    sf_pb (lay_S hR.1 (by decide +kernel)) <|
    sf_iteb (fun h_1167 =>
    sf_someb <|
    sf_pb (lay_S hR.1 (by decide +kernel)) <|
    sf_pb (bl_rg (rg_c (x := (0 : Int32)) (n := 0) rfl) (by decide) (by decide)) <|
    sf_someb <|
    sf_ite (fun h_1169 =>
    sf_sV hS_V_1155)
     (fun h_1169 =>
    False.elim (rg_none h_1169 (rg_c (x := (0 : Int32)) (n := 0) rfl) (rg_c (x := (0 : Int32)) (n := 0) rfl))))
     (fun h_1167 =>
    have f_1170 := (rg_hlt (Int32.not_le.mp h_1167) f_1151 (rg_add (hS_V_1155.rdS hR.1 rs_RcR_8293103113123133_9_0_100) (hS_V_1155.rdS hR.1 rs_RcR_8293103113123133_11_0_2) (by decide) (by decide)))
    have f_1173 := (cap_of ck_RcR (mem_of hR.1 (by decide)) hS_V_1101 (Int32.not_le.mp h_1112))
    sf_someb <|
    sf_pb (lay_S hR.1 (by decide +kernel)) <|
    sf_pb (bl_rg (rg_c (x := (1 : Int32)) (n := 1) rfl) (by decide) (by decide)) <|
    sf_someb <|
    sf_ite (fun h_1175 =>
    False.elim (rg_noeq h_1175 (rg_c (x := (1 : Int32)) (n := 1) rfl) (rg_c (x := (0 : Int32)) (n := 0) rfl) (by decide)))
     (fun h_1175 =>
    have f_1176 := (cap_of ck_RcR (mem_of hR.1 (by decide)) hS_V_1155 (Int32.not_le.mp h_1167))
    sf_qL (s_F_X5_originalBetween_R hN hR hS_V_1155 (mem_of hR.1 (by decide)) (rg_m f_1114 (by decide) (by decide)) (mem_of hR.1 (by decide)) (rg_m f_1170 (by decide) (by decide)) f_1173 f_1176) fun x_1177 r_1178 =>
    sf_qL (s_F_X5_orSingle_R hN hR hS_V_1155 r_1178) fun x_1179 r_1180 =>
    sf_ite (fun h_1181 =>
    have f_1183 := (cap_of ck_RcR (mem_of hR.1 (by decide)) hS_V_1155 (Int32.not_le.mp h_1167))
    s_B_X5_moveAsOriginal_86_R hN hR hS_V_1155 r_l1 (rg_m f_1114 (by decide) (by decide)) (mem_of hR.1 (by decide)) (mem_of hR.1 (by decide)) (rg_m f_1170 (by decide) (by decide)) f_1173 f_1183)
     (fun h_1181 =>
    have f_1185 := (cap_of ck_RcR (mem_of hR.1 (by decide)) hS_V_1155 (Int32.not_le.mp h_1167))
    sf_qL (s_F_X9_rounded_R hN hR hS_V_1155) fun x_1186 r_1187 =>
    s_B_X5_moveAsOriginal_86_R hN hR hS_V_1155 r_l1 (rg_m f_1114 (by decide) (by decide)) (mem_of hR.1 (by decide)) (mem_of hR.1 (by decide)) (rg_m f_1170 (by decide) (by decide)) f_1173 f_1185)))))
     (fun h_1153 =>
    False.elim (rg_none h_1153 (rg_c (x := (0 : Int32)) (n := 0) rfl) (rg_c (x := (0 : Int32)) (n := 0) rfl))))
     (fun h_1150 =>
    have f_1188 := (rg_hlt (Int32.not_le.mp h_1150) f_1148 f_1115)
    sf_someb <|
    sf_pb (lay_S hR.1 (by decide +kernel)) <|
    sf_iteb (fun h_1191 =>
    False.elim (rg_noeq h_1191 (rg_c (x := (1 : Int32)) (n := 1) rfl) (rg_c (x := (0 : Int32)) (n := 0) rfl) (by decide)))
     (fun h_1191 =>
    sf_assoc <|
    sf_iteb (fun h_1202 =>
    False.elim (rg_nolt h_1202 f_1188 (rg_c (x := (0 : Int32)) (n := 0) rfl) (by decide)))
     (fun h_1202 =>
    sf_pb (lay_S hR.1 (by decide +kernel)) <|
    sf_iteb (fun h_1205 =>
    sf_someb <|
    sf_pb (lay_S hR.1 (by decide +kernel)) <|
    sf_pb (bl_rg (rg_c (x := (0 : Int32)) (n := 0) rfl) (by decide) (by decide)) <|
    sf_someb <|
    sf_ite (fun h_1213 =>
    sf_sV hS_V_1101)
     (fun h_1213 =>
    False.elim (rg_none h_1213 (rg_c (x := (0 : Int32)) (n := 0) rfl) (rg_c (x := (0 : Int32)) (n := 0) rfl))))
     (fun h_1205 =>
    have f_1218 := (cap_of ck_RcR (mem_of hR.1 (by decide)) hS_V_1101 (Int32.not_le.mp h_1112))
    sf_someb <|
    sf_pb (lay_S hR.1 (by decide +kernel)) <|
    sf_pb (bl_rg (rg_c (x := (1 : Int32)) (n := 1) rfl) (by decide) (by decide)) <|
    sf_someb <|
    sf_ite (fun h_1220 =>
    False.elim (rg_noeq h_1220 (rg_c (x := (1 : Int32)) (n := 1) rfl) (rg_c (x := (0 : Int32)) (n := 0) rfl) (by decide)))
     (fun h_1220 =>
    have f_1222 := (cap_of ck_RcR (mem_of hR.1 (by decide)) hS_V_1101 (Int32.not_le.mp h_1205))
    sf_qL (s_F_X5_originalBetween_R hN hR hS_V_1101 (mem_of hR.1 (by decide)) (rg_m f_1114 (by decide) (by decide)) (mem_of hR.1 (by decide)) (rg_m f_1188 (by decide) (by decide)) f_1218 f_1222) fun x_1223 r_1224 =>
    sf_qL (s_F_X5_orSingle_R hN hR hS_V_1101 r_1224) fun x_1225 r_1226 =>
    sf_ite (fun h_1227 =>
    have f_1230 := (cap_of ck_RcR (mem_of hR.1 (by decide)) hS_V_1101 (Int32.not_le.mp h_1205))
    s_B_X5_moveAsOriginal_86_R hN hR hS_V_1101 r_l1 (rg_m f_1114 (by decide) (by decide)) (mem_of hR.1 (by decide)) (mem_of hR.1 (by decide)) (rg_m f_1188 (by decide) (by decide)) f_1218 f_1230)
     (fun h_1227 =>
    have f_1233 := (cap_of ck_RcR (mem_of hR.1 (by decide)) hS_V_1101 (Int32.not_le.mp h_1205))
    sf_qL (s_F_X9_rounded_R hN hR hS_V_1101) fun x_1234 r_1235 =>
    s_B_X5_moveAsOriginal_86_R hN hR hS_V_1101 r_l1 (rg_m f_1114 (by decide) (by decide)) (mem_of hR.1 (by decide)) (mem_of hR.1 (by decide)) (rg_m f_1188 (by decide) (by decide)) f_1218 f_1233)))))))))))
     (fun h_1100 =>
    False.elim (rg_none h_1100 (rg_c (x := (0 : Int32)) (n := 0) rfl) (rg_c (x := (0 : Int32)) (n := 0) rfl))))
     (fun h_1099 =>
    have f_1236 := (rg_hlt (Int32.not_le.mp h_1099) f_1098 (rg_add (hS_V_2.rdS hR.1 rs_RcR_8293103113123133_9_0_100) (hS_V_2.rdS hR.1 rs_RcR_8293103113123133_11_0_2) (by decide) (by decide)))
    have f_1237 := (rg_llt (Int32.not_le.mp h_1099) f_1098 (rg_add (hS_V_2.rdS hR.1 rs_RcR_8293103113123133_9_0_100) (hS_V_2.rdS hR.1 rs_RcR_8293103113123133_11_0_2) (by decide) (by decide)))
    sf_someb <|
    sf_pb (lay_S hR.1 (by decide +kernel)) <|
    sf_iteb (fun h_1239 =>
    False.elim (rg_noeq h_1239 (rg_c (x := (1 : Int32)) (n := 1) rfl) (rg_c (x := (0 : Int32)) (n := 0) rfl) (by decide)))
     (fun h_1239 =>
    sf_assoc <|
    sf_iteb (fun h_1249 =>
    False.elim (rg_nolt h_1249 f_1236 (rg_c (x := (0 : Int32)) (n := 0) rfl) (by decide)))
     (fun h_1249 =>
    sf_pb (lay_S hR.1 (by decide +kernel)) <|
    sf_iteb (fun h_1251 =>
    sf_someb <|
    sf_pb (lay_S hR.1 (by decide +kernel)) <|
    sf_pb (bl_rg (rg_c (x := (0 : Int32)) (n := 0) rfl) (by decide) (by decide)) <|
    sf_someb <|
    sf_ite (fun h_1257 =>
    sf_sV hS_V_2)
     (fun h_1257 =>
    False.elim (rg_none h_1257 (rg_c (x := (0 : Int32)) (n := 0) rfl) (rg_c (x := (0 : Int32)) (n := 0) rfl))))
     (fun h_1251 =>
    sf_someb <|
    sf_pb (lay_S hR.1 (by decide +kernel)) <|
    sf_pb (bl_rg (rg_c (x := (1 : Int32)) (n := 1) rfl) (by decide) (by decide)) <|
    sf_someb <|
    sf_ite (fun h_1263 =>
    False.elim (rg_noeq h_1263 (rg_c (x := (1 : Int32)) (n := 1) rfl) (rg_c (x := (0 : Int32)) (n := 0) rfl) (by decide)))
     (fun h_1263 =>
    sf_assoc <|
    sf_iteb (fun h_1275 =>
    have f_1276 := (rg_hlt h_1275 rg_t (rg_c (x := (0 : Int32)) (n := 0) rfl))
    sf_someb <|
    sf_pb (lay_S hR.1 (by decide +kernel)) <|
    sf_iteb (fun h_1279 =>
    sf_wb (hS_V_2.wc oi_RcR_69_14 (rg_m (rg_c (x := (5 : Int32)) (n := 5) rfl) (by decide) (by decide))) fun V_1282 q_1283 hS_V_1282 =>
    sf_assoc <|
    sf_iteb (fun h_1292 =>
    sf_someb <|
    sf_pb (lay_S hR.1 (by decide +kernel)) <|
    sf_pb (bl_rg (rg_c (x := (0 : Int32)) (n := 0) rfl) (by decide) (by decide)) <|
    sf_someb <|
    sf_ite (fun h_1294 =>
    sf_sV hS_V_1282)
     (fun h_1294 =>
    False.elim (rg_none h_1294 (rg_c (x := (0 : Int32)) (n := 0) rfl) (rg_c (x := (0 : Int32)) (n := 0) rfl))))
     (fun h_1292 =>
    False.elim (rg_nole (Int32.not_lt.mp h_1292) (rg_c (x := (0 : Int32)) (n := 0) rfl) f_1276 (by decide))))
     (fun h_1279 =>
    False.elim (rg_none h_1279 (rg_c (x := (0 : Int32)) (n := 0) rfl) (rg_c (x := (0 : Int32)) (n := 0) rfl))))
     (fun h_1275 =>
    have f_1296 := (rg_lle (Int32.not_lt.mp h_1275) (rg_c (x := (0 : Int32)) (n := 0) rfl) rg_t)
    sf_pb (lay_S hR.1 (by decide +kernel)) <|
    sf_iteb (fun h_1299 =>
    have f_1300 := (rg_lle h_1299 f_1237 f_1296)
    sf_someb <|
    sf_pb (lay_S hR.1 (by decide +kernel)) <|
    sf_iteb (fun h_1303 =>
    sf_wb (hS_V_2.wc oi_RcR_69_14 (rg_m (rg_c (x := (5 : Int32)) (n := 5) rfl) (by decide) (by decide))) fun V_1305 q_1306 hS_V_1305 =>
    sf_assoc <|
    sf_iteb (fun h_1315 =>
    False.elim (rg_nolt h_1315 f_1300 (rg_c (x := (0 : Int32)) (n := 0) rfl) (by decide)))
     (fun h_1315 =>
    sf_pb (lay_S hR.1 (by decide +kernel)) <|
    sf_iteb (fun h_1317 =>
    sf_someb <|
    sf_pb (lay_S hR.1 (by decide +kernel)) <|
    sf_pb (bl_rg (rg_c (x := (0 : Int32)) (n := 0) rfl) (by decide) (by decide)) <|
    sf_someb <|
    sf_ite (fun h_1319 =>
    sf_sV hS_V_1305)
     (fun h_1319 =>
    False.elim (rg_none h_1319 (rg_c (x := (0 : Int32)) (n := 0) rfl) (rg_c (x := (0 : Int32)) (n := 0) rfl))))
     (fun h_1317 =>
    have f_1320 := (rg_hlt (Int32.not_le.mp h_1317) f_1300 (rg_add (hS_V_1305.rdS hR.1 rs_RcR_8293103113123133_9_0_100) (hS_V_1305.rdS hR.1 rs_RcR_8293103113123133_11_0_2) (by decide) (by decide)))
    have f_1323 := (cap_of ck_RcR (mem_of hR.1 (by decide)) hS_V_2 (Int32.not_le.mp h_1251))
    sf_someb <|
    sf_pb (lay_S hR.1 (by decide +kernel)) <|
    sf_pb (bl_rg (rg_c (x := (1 : Int32)) (n := 1) rfl) (by decide) (by decide)) <|
    sf_someb <|
    sf_ite (fun h_1325 =>
    False.elim (rg_noeq h_1325 (rg_c (x := (1 : Int32)) (n := 1) rfl) (rg_c (x := (0 : Int32)) (n := 0) rfl) (by decide)))
     (fun h_1325 =>
    have f_1326 := (cap_of ck_RcR (mem_of hR.1 (by decide)) hS_V_1305 (Int32.not_le.mp h_1317))
    sf_qL (s_F_X5_originalBetween_R hN hR hS_V_1305 (mem_of hR.1 (by decide)) (rg_m f_1236 (by decide) (by decide)) (mem_of hR.1 (by decide)) (rg_m f_1320 (by decide) (by decide)) f_1323 f_1326) fun x_1327 r_1328 =>
    sf_qL (s_F_X5_orSingle_R hN hR hS_V_1305 r_1328) fun x_1329 r_1330 =>
    sf_ite (fun h_1331 =>
    have f_1333 := (cap_of ck_RcR (mem_of hR.1 (by decide)) hS_V_1305 (Int32.not_le.mp h_1317))
    s_B_X5_moveAsOriginal_86_R hN hR hS_V_1305 r_l1 (rg_m f_1236 (by decide) (by decide)) (mem_of hR.1 (by decide)) (mem_of hR.1 (by decide)) (rg_m f_1320 (by decide) (by decide)) f_1323 f_1333)
     (fun h_1331 =>
    have f_1335 := (cap_of ck_RcR (mem_of hR.1 (by decide)) hS_V_1305 (Int32.not_le.mp h_1317))
    sf_qL (s_F_X9_rounded_R hN hR hS_V_1305) fun x_1336 r_1337 =>
    s_B_X5_moveAsOriginal_86_R hN hR hS_V_1305 r_l1 (rg_m f_1236 (by decide) (by decide)) (mem_of hR.1 (by decide)) (mem_of hR.1 (by decide)) (rg_m f_1320 (by decide) (by decide)) f_1323 f_1335)))))
     (fun h_1303 =>
    False.elim (rg_none h_1303 (rg_c (x := (0 : Int32)) (n := 0) rfl) (rg_c (x := (0 : Int32)) (n := 0) rfl))))
     (fun h_1299 =>
    have f_1338 := (rg_hlt (Int32.not_le.mp h_1299) f_1296 f_1237)
    sf_someb <|
    sf_pb (lay_S hR.1 (by decide +kernel)) <|
    sf_iteb (fun h_1342 =>
    False.elim (rg_noeq h_1342 (rg_c (x := (1 : Int32)) (n := 1) rfl) (rg_c (x := (0 : Int32)) (n := 0) rfl) (by decide)))
     (fun h_1342 =>
    sf_assoc <|
    sf_iteb (fun h_1353 =>
    False.elim (rg_nolt h_1353 f_1338 (rg_c (x := (0 : Int32)) (n := 0) rfl) (by decide)))
     (fun h_1353 =>
    sf_pb (lay_S hR.1 (by decide +kernel)) <|
    sf_iteb (fun h_1356 =>
    sf_someb <|
    sf_pb (lay_S hR.1 (by decide +kernel)) <|
    sf_pb (bl_rg (rg_c (x := (0 : Int32)) (n := 0) rfl) (by decide) (by decide)) <|
    sf_someb <|
    sf_ite (fun h_1364 =>
    sf_sV hS_V_2)
     (fun h_1364 =>
    False.elim (rg_none h_1364 (rg_c (x := (0 : Int32)) (n := 0) rfl) (rg_c (x := (0 : Int32)) (n := 0) rfl))))
     (fun h_1356 =>
    have f_1369 := (cap_of ck_RcR (mem_of hR.1 (by decide)) hS_V_2 (Int32.not_le.mp h_1251))
    sf_someb <|
    sf_pb (lay_S hR.1 (by decide +kernel)) <|
    sf_pb (bl_rg (rg_c (x := (1 : Int32)) (n := 1) rfl) (by decide) (by decide)) <|
    sf_someb <|
    sf_ite (fun h_1371 =>
    False.elim (rg_noeq h_1371 (rg_c (x := (1 : Int32)) (n := 1) rfl) (rg_c (x := (0 : Int32)) (n := 0) rfl) (by decide)))
     (fun h_1371 =>
    have f_1373 := (cap_of ck_RcR (mem_of hR.1 (by decide)) hS_V_2 (Int32.not_le.mp h_1356))
    sf_qL (s_F_X5_originalBetween_R hN hR hS_V_2 (mem_of hR.1 (by decide)) (rg_m f_1236 (by decide) (by decide)) (mem_of hR.1 (by decide)) (rg_m f_1338 (by decide) (by decide)) f_1369 f_1373) fun x_1374 r_1375 =>
    sf_qL (s_F_X5_orSingle_R hN hR hS_V_2 r_1375) fun x_1376 r_1377 =>
    sf_ite (fun h_1378 =>
    have f_1381 := (cap_of ck_RcR (mem_of hR.1 (by decide)) hS_V_2 (Int32.not_le.mp h_1356))
    s_B_X5_moveAsOriginal_86_R hN hR hS_V_2 r_l1 (rg_m f_1236 (by decide) (by decide)) (mem_of hR.1 (by decide)) (mem_of hR.1 (by decide)) (rg_m f_1338 (by decide) (by decide)) f_1369 f_1381)
     (fun h_1378 =>
    have f_1384 := (cap_of ck_RcR (mem_of hR.1 (by decide)) hS_V_2 (Int32.not_le.mp h_1356))
    sf_qL (s_F_X9_rounded_R hN hR hS_V_2) fun x_1385 r_1386 =>
    s_B_X5_moveAsOriginal_86_R hN hR hS_V_2 r_l1 (rg_m f_1236 (by decide) (by decide)) (mem_of hR.1 (by decide)) (mem_of hR.1 (by decide)) (rg_m f_1338 (by decide) (by decide)) f_1369 f_1384)))))))))))))))
theorem s_B_X5_moveAsCvt_314_R {G : sv_V} {hN_ : Nat} (hN : 8589934592 ≤ hN_) {bo bm : Nat} (hR : RefsOf G bo bm) {s1 : Int32} {s2 : Int32} {V : sv_V} (hS_V : SIx T_cR G V) (r_s1 : rg s1 (0) (101)) (r_s2 : rg s2 (0) (1)) : Sg (SIx T_cR G) (B_X5_moveAsCvt_314 s1 s2 V) := by
  unfold B_X5_moveAsCvt_314
  exact
    sf_eV (s_F_X5_noteReferences_R hN hR hS_V r_s1 r_s2) fun V_1 e_2 hS_V_1 =>
    sf_sV hS_V_1
theorem s_B_X5_moveAsCvt_279_R {G : sv_V} {hN_ : Nat} (hN : 8589934592 ≤ hN_) {bo bm : Nat} (hR : RefsOf G bo bm) {l1 : Int32} {l3 : Int32} {l4 : Nat} {l5 : Nat} {l6 : Int32} {l7 : Int64} {V : sv_V} (hS_V : SIx T_cR G V) (r_l1 : rg l1 (224) (255)) (r_l3 : rg l3 (0) (101)) (m_l4 : l4 ∈ [34, 48, 82, 93, 103, 113, 123, 133]) (m_l5 : l5 ∈ [34, 48, 82, 93, 103, 113, 123, 133]) (r_l6 : rg l6 (0) (101)) (cp_l3_l4 : l3.toInt < cap l4) (cp_l6_l5 : l6.toInt < cap l5) : Sg (SIx T_cR G) (B_X5_moveAsCvt_279 l1 l3 l4 l5 l6 l7 V) := by
  unfold B_X5_moveAsCvt_279
  exact
    sf_qL (s_F_X5_longBetween_R hN hR hS_V m_l4 r_l3 m_l5 r_l6 cp_l3_l4 cp_l6_l5) fun x_1 r_2 =>
    sf_eV (s_F_X5_move_R hN hR hS_V m_l4 r_l3 cp_l3_l4) fun V_3 e_4 hS_V_3 =>
    sf_ite (fun h_6 =>
    s_B_X5_moveAsCvt_314_R hN hR hS_V_3 r_l3 (rg_m (rg_c (x := (0 : Int32)) (n := 0) rfl) (by decide) (by decide)))
     (fun h_6 =>
    s_B_X5_moveAsCvt_314_R hN hR hS_V_3 r_l3 (rg_m (rg_c (x := (1 : Int32)) (n := 1) rfl) (by decide) (by decide)))
theorem s_B_X5_moveAsCvt_262_R {G : sv_V} {hN_ : Nat} (hN : 8589934592 ≤ hN_) {bo bm : Nat} (hR : RefsOf G bo bm) {l1 : Int32} {l3 : Int32} {l4 : Nat} {l5 : Nat} {l6 : Int32} {l7 : Int64} {l9 : Int64} {V : sv_V} (hS_V : SIx T_cR G V) (r_l1 : rg l1 (224) (255)) (r_l3 : rg l3 (0) (101)) (m_l4 : l4 ∈ [34, 48, 82, 93, 103, 113, 123, 133]) (m_l5 : l5 ∈ [34, 48, 82, 93, 103, 113, 123, 133]) (r_l6 : rg l6 (0) (101)) (r_l9 : rl l9 (-2147483648) (2147483647)) (cp_l3_l4 : l3.toInt < cap l4) (cp_l6_l5 : l6.toInt < cap l5) : Sg (SIx T_cR G) (B_X5_moveAsCvt_262 l1 l3 l4 l5 l6 l7 l9 V) := by
  unfold B_X5_moveAsCvt_262
  exact
    sf_ite (fun h_1 =>
    s_B_X5_moveAsCvt_279_R hN hR hS_V r_l1 r_l3 m_l4 m_l5 r_l6 cp_l3_l4 cp_l6_l5)
     (fun h_1 =>
    sf_qL (s_F_X5_atLeast_R hN hR hS_V) fun x_4 r_5 =>
    s_B_X5_moveAsCvt_279_R hN hR hS_V r_l1 r_l3 m_l4 m_l5 r_l6 cp_l3_l4 cp_l6_l5)
theorem s_B_X5_moveAsCvt_257_R {G : sv_V} {hN_ : Nat} (hN : 8589934592 ≤ hN_) {bo bm : Nat} (hR : RefsOf G bo bm) {l1 : Int32} {l3 : Int32} {l4 : Nat} {l5 : Nat} {l6 : Int32} {l9 : Int64} {s1 : Int64} {V : sv_V} (hS_V : SIx T_cR G V) (r_l1 : rg l1 (224) (255)) (r_l3 : rg l3 (0) (101)) (m_l4 : l4 ∈ [34, 48, 82, 93, 103, 113, 123, 133]) (m_l5 : l5 ∈ [34, 48, 82, 93, 103, 113, 123, 133]) (r_l6 : rg l6 (0) (101)) (r_l9 : rl l9 (-2147483648) (2147483647)) (cp_l3_l4 : l3.toInt < cap l4) (cp_l6_l5 : l6.toInt < cap l5) : Sg (SIx T_cR G) (B_X5_moveAsCvt_257 l1 l3 l4 l5 l6 l9 s1 V) := by
  unfold B_X5_moveAsCvt_257
  exact
    sf_qL (s_F_X9_rounded_R hN hR hS_V) fun x_1 r_2 =>
    s_B_X5_moveAsCvt_262_R hN hR hS_V r_l1 r_l3 m_l4 m_l5 r_l6 r_l9 cp_l3_l4 cp_l6_l5
theorem s_B_X5_moveAsCvt_239_R {G : sv_V} {hN_ : Nat} (hN : 8589934592 ≤ hN_) {bo bm : Nat} (hR : RefsOf G bo bm) {l1 : Int32} {l3 : Int32} {l4 : Nat} {l5 : Nat} {l6 : Int32} {l7 : Int64} {l9 : Int64} {s0 : Int32} {V : sv_V} (hS_V : SIx T_cR G V) (r_l1 : rg l1 (224) (255)) (r_l3 : rg l3 (0) (101)) (m_l4 : l4 ∈ [34, 48, 82, 93, 103, 113, 123, 133]) (m_l5 : l5 ∈ [34, 48, 82, 93, 103, 113, 123, 133]) (r_l6 : rg l6 (0) (101)) (r_l9 : rl l9 (-2147483648) (2147483647)) (r_s0 : rg s0 (0) (1)) (cp_l3_l4 : l3.toInt < cap l4) (cp_l6_l5 : l6.toInt < cap l5) : Sg (SIx T_cR G) (B_X5_moveAsCvt_239 l1 l3 l4 l5 l6 l7 l9 s0 V) := by
  unfold B_X5_moveAsCvt_239
  exact
    sf_ite (fun h_1 =>
    s_B_X5_moveAsCvt_257_R hN hR hS_V r_l1 r_l3 m_l4 m_l5 r_l6 r_l9 cp_l3_l4 cp_l6_l5)
     (fun h_1 =>
    s_B_X5_moveAsCvt_257_R hN hR hS_V r_l1 r_l3 m_l4 m_l5 r_l6 r_l9 cp_l3_l4 cp_l6_l5)
theorem s_B_X5_moveAsCvt_238_R {G : sv_V} {hN_ : Nat} (hN : 8589934592 ≤ hN_) {bo bm : Nat} (hR : RefsOf G bo bm) {l1 : Int32} {l3 : Int32} {l4 : Nat} {l5 : Nat} {l6 : Int32} {l7 : Int64} {l9 : Int64} {V : sv_V} (hS_V : SIx T_cR G V) (r_l1 : rg l1 (224) (255)) (r_l3 : rg l3 (0) (101)) (m_l4 : l4 ∈ [34, 48, 82, 93, 103, 113, 123, 133]) (m_l5 : l5 ∈ [34, 48, 82, 93, 103, 113, 123, 133]) (r_l6 : rg l6 (0) (101)) (r_l9 : rl l9 (-2147483648) (2147483647)) (cp_l3_l4 : l3.toInt < cap l4) (cp_l6_l5 : l6.toInt < cap l5) : Sg (SIx T_cR G) (B_X5_moveAsCvt_238 l1 l3 l4 l5 l6 l7 l9 V) := by
  unfold B_X5_moveAsCvt_238
  exact
    s_B_X5_moveAsCvt_239_R hN hR hS_V r_l1 r_l3 m_l4 m_l5 r_l6 r_l9 (rg_m (rg_c (x := (0 : Int32)) (n := 0) rfl) (by decide) (by decide)) cp_l3_l4 cp_l6_l5
theorem s_B_X5_moveAsCvt_185_R {G : sv_V} {hN_ : Nat} (hN : 8589934592 ≤ hN_) {bo bm : Nat} (hR : RefsOf G bo bm) {l1 : Int32} {l3 : Int32} {l4 : Nat} {l5 : Nat} {l6 : Int32} {l7 : Int64} {l9 : Int64} {V : sv_V} (hS_V : SIx T_cR G V) (r_l1 : rg l1 (224) (255)) (r_l3 : rg l3 (0) (101)) (m_l4 : l4 ∈ [34, 48, 82, 93, 103, 113, 123, 133]) (m_l5 : l5 ∈ [34, 48, 82, 93, 103, 113, 123, 133]) (r_l6 : rg l6 (0) (101)) (r_l9 : rl l9 (-2147483648) (2147483647)) (cp_l3_l4 : l3.toInt < cap l4) (cp_l6_l5 : l6.toInt < cap l5) : Sg (SIx T_cR G) (B_X5_moveAsCvt_185 l1 l3 l4 l5 l6 l7 l9 V) := by
  unfold B_X5_moveAsCvt_185
  exact
    sf_ite (fun h_1 =>
    s_B_X5_moveAsCvt_262_R hN hR hS_V r_l1 r_l3 m_l4 m_l5 r_l6 r_l9 cp_l3_l4 cp_l6_l5)
     (fun h_1 =>
    sf_ite (fun h_4 =>
    sf_qL (s_F_J9_abs_067f4_R hN hR hS_V) fun x_5 r_6 =>
    sf_o (c := bm) (ref6 hS_V hR rfl) <|
    sf_p (lay_S hR.2.1 (by decide +kernel)) <|
    sf_crS (T := [44, 58]) hR.2.1 (by decide +kernel) fun b_7 m_9 q_8 =>
    sf_lenE (n := 9) m_9 (by decide +kernel) <|
    sf_p (in_rg (rg_c (x := (0 : Int32)) (n := 0) rfl) (by decide) (by decide)) <|
    sf_ite (fun h_11 =>
    s_B_X5_moveAsCvt_238_R hN hR hS_V r_l1 r_l3 m_l4 m_l5 r_l6 r_l9 cp_l3_l4 cp_l6_l5)
     (fun h_11 =>
    s_B_X5_moveAsCvt_239_R hN hR hS_V r_l1 r_l3 m_l4 m_l5 r_l6 r_l9 (rg_m (rg_c (x := (1 : Int32)) (n := 1) rfl) (by decide) (by decide)) cp_l3_l4 cp_l6_l5))
     (fun h_4 =>
    s_B_X5_moveAsCvt_238_R hN hR hS_V r_l1 r_l3 m_l4 m_l5 r_l6 r_l9 cp_l3_l4 cp_l6_l5))
theorem s_B_X5_moveAsCvt_177_R {G : sv_V} {hN_ : Nat} (hN : 8589934592 ≤ hN_) {bo bm : Nat} (hR : RefsOf G bo bm) {l1 : Int32} {l3 : Int32} {l4 : Nat} {l5 : Nat} {l6 : Int32} {l7 : Int64} {l9 : Int64} {s0 : Int32} {s1 : Int32} {V : sv_V} (hS_V : SIx T_cR G V) (r_l1 : rg l1 (224) (255)) (r_l3 : rg l3 (0) (101)) (m_l4 : l4 ∈ [34, 48, 82, 93, 103, 113, 123, 133]) (m_l5 : l5 ∈ [34, 48, 82, 93, 103, 113, 123, 133]) (r_l6 : rg l6 (0) (101)) (r_l9 : rl l9 (-2147483648) (2147483647)) (r_s0 : rg s0 (0) (1)) (r_s1 : rg s1 (0) (1)) (cp_l3_l4 : l3.toInt < cap l4) (cp_l6_l5 : l6.toInt < cap l5) : Sg (SIx T_cR G) (B_X5_moveAsCvt_177 l1 l3 l4 l5 l6 l7 l9 s0 s1 V) := by
  unfold B_X5_moveAsCvt_177
  exact
    sf_ite (fun h_1 =>
    s_B_X5_moveAsCvt_185_R hN hR hS_V r_l1 r_l3 m_l4 m_l5 r_l6 r_l9 cp_l3_l4 cp_l6_l5)
     (fun h_1 =>
    sf_let fun x_2 q_3 =>
    s_B_X5_moveAsCvt_185_R hN hR hS_V r_l1 r_l3 m_l4 m_l5 r_l6 r_l9 cp_l3_l4 cp_l6_l5)
theorem s_B_X5_moveAsCvt_165_R {G : sv_V} {hN_ : Nat} (hN : 8589934592 ≤ hN_) {bo bm : Nat} (hR : RefsOf G bo bm) {l1 : Int32} {l3 : Int32} {l4 : Nat} {l5 : Nat} {l6 : Int32} {l7 : Int64} {l9 : Int64} {s0 : Int32} {V : sv_V} (hS_V : SIx T_cR G V) (r_l1 : rg l1 (224) (255)) (r_l3 : rg l3 (0) (101)) (m_l4 : l4 ∈ [34, 48, 82, 93, 103, 113, 123, 133]) (m_l5 : l5 ∈ [34, 48, 82, 93, 103, 113, 123, 133]) (r_l6 : rg l6 (0) (101)) (r_l9 : rl l9 (-2147483648) (2147483647)) (r_s0 : rg s0 (0) (1)) (cp_l3_l4 : l3.toInt < cap l4) (cp_l6_l5 : l6.toInt < cap l5) : Sg (SIx T_cR G) (B_X5_moveAsCvt_165 l1 l3 l4 l5 l6 l7 l9 s0 V) := by
  unfold B_X5_moveAsCvt_165
  exact
    sf_ite (fun h_1 =>
    s_B_X5_moveAsCvt_177_R hN hR hS_V r_l1 r_l3 m_l4 m_l5 r_l6 r_l9 r_s0 (rg_m (rg_c (x := (0 : Int32)) (n := 0) rfl) (by decide) (by decide)) cp_l3_l4 cp_l6_l5)
     (fun h_1 =>
    s_B_X5_moveAsCvt_177_R hN hR hS_V r_l1 r_l3 m_l4 m_l5 r_l6 r_l9 r_s0 (rg_m (rg_c (x := (1 : Int32)) (n := 1) rfl) (by decide) (by decide)) cp_l3_l4 cp_l6_l5)
theorem s_B_X5_moveAsCvt_128_R {G : sv_V} {hN_ : Nat} (hN : 8589934592 ≤ hN_) {bo bm : Nat} (hR : RefsOf G bo bm) {l1 : Int32} {l3 : Int32} {l4 : Nat} {l5 : Nat} {l6 : Int32} {l7 : Int64} {V : sv_V} (hS_V : SIx T_cR G V) (r_l1 : rg l1 (224) (255)) (r_l3 : rg l3 (0) (101)) (m_l4 : l4 ∈ [34, 48, 82, 93, 103, 113, 123, 133]) (m_l5 : l5 ∈ [34, 48, 82, 93, 103, 113, 123, 133]) (r_l6 : rg l6 (0) (101)) (cp_l3_l4 : l3.toInt < cap l4) (cp_l6_l5 : l6.toInt < cap l5) : Sg (SIx T_cR G) (B_X5_moveAsCvt_128 l1 l3 l4 l5 l6 l7 V) := by
  unfold B_X5_moveAsCvt_128
  exact
    sf_qL (s_F_X5_originalBetween_R hN hR hS_V m_l4 r_l3 m_l5 r_l6 cp_l3_l4 cp_l6_l5) fun x_1 r_2 =>
    sf_o (c := bm) (ref6 hS_V hR rfl) <|
    sf_p (lay_S hR.2.1 (by decide +kernel)) <|
    sf_crS (T := [44, 58]) hR.2.1 (by decide +kernel) fun b_3 m_5 q_4 =>
    sf_lenE (n := 9) m_5 (by decide +kernel) <|
    sf_p (in_rg (rg_c (x := (4 : Int32)) (n := 4) rfl) (by decide) (by decide)) <|
    sf_ite (fun h_7 =>
    s_B_X5_moveAsCvt_185_R hN hR hS_V r_l1 r_l3 m_l4 m_l5 r_l6 r_2 cp_l3_l4 cp_l6_l5)
     (fun h_7 =>
    sf_ite (fun h_9 =>
    have f_10 := (rl_lle (lgc_ge.mp h_9) (rl_c (x := (0 : Int64)) (n := 0) rfl) r_2)
    s_B_X5_moveAsCvt_165_R hN hR hS_V r_l1 r_l3 m_l4 m_l5 r_l6 (rl_m f_10 (by decide) (by decide)) (rg_m (rg_c (x := (0 : Int32)) (n := 0) rfl) (by decide) (by decide)) cp_l3_l4 cp_l6_l5)
     (fun h_9 =>
    have f_11 := (rl_hlt (Int64.not_le.mp (fun q => h_9 (lgc_ge.mpr q))) r_2 (rl_c (x := (0 : Int64)) (n := 0) rfl))
    s_B_X5_moveAsCvt_165_R hN hR hS_V r_l1 r_l3 m_l4 m_l5 r_l6 (rl_m f_11 (by decide) (by decide)) (rg_m (rg_c (x := (1 : Int32)) (n := 1) rfl) (by decide) (by decide)) cp_l3_l4 cp_l6_l5))
end
section
/-! safety, c, 17 -/
theorem s_F_X5_moveAsCvt_R {G : sv_V} {hN_ : Nat} (hN : 8589934592 ≤ hN_) {bo bm : Nat} (hR : RefsOf G bo bm) {l1 : Int32} {V : sv_V} (hS_V : SIx T_cR G V) (r_l1 : rg l1 (224) (255)) : Sg (SIx T_cR G) (F_X5_moveAsCvt l1 V) := by
  unfold F_X5_moveAsCvt
  exact
    sf_eI (s_F_X5_pop_R hN hR hS_V) fun x_1 V_2 e_4 hS_V_2 r_3 =>
    sf_eI (s_F_X5_pop_R hN hR hS_V_2) fun x_6 V_7 e_9 hS_V_7 r_8 =>
    sf_pb (in_rg (rg_c (x := (1 : Int32)) (n := 1) rfl) (by decide) (by decide)) <|
    sf_iteb (fun h_16 =>
    have f_17 := (rg_eq h_16 (rg_c (x := (0 : Int32)) (n := 0) rfl))
    sf_ob (c := bm) (ref6 hS_V_7 hR rfl) <|
    sf_pb (lay_S hR.2.1 (by decide +kernel)) <|
    sf_assoc <|
    sf_crS (T := [34, 48]) hR.2.1 (by decide +kernel) fun b_18 m_20 q_19 =>
    sf_someb <|
    sf_pb (in_rg (rg_c (x := (0 : Int32)) (n := 0) rfl) (by decide) (by decide)) <|
    sf_iteb (fun h_26 =>
    sf_ob (c := bm) (ref6 hS_V_7 hR rfl) <|
    sf_pb (lay_S hR.2.1 (by decide +kernel)) <|
    sf_ob (c := b_18) q_19 <|
    sf_someb <|
    sf_let fun x_28 q_29 =>
    sf_assoc <|
    sf_iteb (fun h_39 =>
    have f_40 := (rg_hlt h_39 r_8 (rg_c (x := (0 : Int32)) (n := 0) rfl))
    sf_someb <|
    sf_pb (lay_S m_20 (by decide +kernel)) <|
    sf_iteb (fun h_41 =>
    sf_wb (hS_V_7.wc oi_RcR_69_14 (rg_m (rg_c (x := (5 : Int32)) (n := 5) rfl) (by decide) (by decide))) fun V_42 q_43 hS_V_42 =>
    sf_assoc <|
    sf_iteb (fun h_52 =>
    sf_someb <|
    sf_pb (lay_S m_20 (by decide +kernel)) <|
    sf_pb (bl_rg (rg_c (x := (0 : Int32)) (n := 0) rfl) (by decide) (by decide)) <|
    sf_someb <|
    sf_ite (fun h_53 =>
    sf_sV hS_V_42)
     (fun h_53 =>
    False.elim (rg_none h_53 (rg_c (x := (0 : Int32)) (n := 0) rfl) (rg_c (x := (0 : Int32)) (n := 0) rfl))))
     (fun h_52 =>
    False.elim (rg_nole (Int32.not_lt.mp h_52) (rg_c (x := (0 : Int32)) (n := 0) rfl) f_40 (by decide))))
     (fun h_41 =>
    False.elim (rg_none h_41 (rg_c (x := (0 : Int32)) (n := 0) rfl) (rg_c (x := (0 : Int32)) (n := 0) rfl))))
     (fun h_39 =>
    have f_54 := (rg_lle (Int32.not_lt.mp h_39) (rg_c (x := (0 : Int32)) (n := 0) rfl) r_8)
    sf_pb (lay_S m_20 (by decide +kernel)) <|
    sf_iteb (fun h_55 =>
    sf_someb <|
    sf_pb (lay_S m_20 (by decide +kernel)) <|
    sf_iteb (fun h_56 =>
    sf_wb (hS_V_7.wc oi_RcR_69_14 (rg_m (rg_c (x := (5 : Int32)) (n := 5) rfl) (by decide) (by decide))) fun V_57 q_58 hS_V_57 =>
    sf_assoc <|
    sf_iteb (fun h_67 =>
    False.elim (rg_nolt h_67 f_54 (rg_c (x := (0 : Int32)) (n := 0) rfl) (by decide)))
     (fun h_67 =>
    sf_pb (lay_S m_20 (by decide +kernel)) <|
    sf_iteb (fun h_68 =>
    sf_someb <|
    sf_pb (lay_S m_20 (by decide +kernel)) <|
    sf_pb (bl_rg (rg_c (x := (0 : Int32)) (n := 0) rfl) (by decide) (by decide)) <|
    sf_someb <|
    sf_ite (fun h_69 =>
    sf_sV hS_V_57)
     (fun h_69 =>
    False.elim (rg_none h_69 (rg_c (x := (0 : Int32)) (n := 0) rfl) (rg_c (x := (0 : Int32)) (n := 0) rfl))))
     (fun h_68 =>
    have f_70 := (rg_hlt (Int32.not_le.mp h_68) f_54 (rg_add (hS_V_57.rdS m_20 rs_RcR_3448_9_0_64) (hS_V_57.rdS m_20 rs_RcR_3448_11_0_0) (by decide) (by decide)))
    have f_71 := (rg_llt (Int32.not_le.mp h_68) f_54 (rg_add (hS_V_57.rdS m_20 rs_RcR_3448_9_0_64) (hS_V_57.rdS m_20 rs_RcR_3448_11_0_0) (by decide) (by decide)))
    have f_72 := (rg_addL f_71 (hS_V_57.rdS m_20 rs_RcR_3448_9_0_64) (hS_V_57.rdS m_20 rs_RcR_3448_11_0_0) (by decide) (by decide))
    have f_74 := (rg_hle h_55 (rg_add (hS_V_7.rdS m_20 rs_RcR_3448_9_0_64) (hS_V_7.rdS m_20 rs_RcR_3448_11_0_0) (by decide) (by decide)) f_70)
    have f_75 := (rg_addL f_74 (hS_V_7.rdS m_20 rs_RcR_3448_9_0_64) (hS_V_7.rdS m_20 rs_RcR_3448_11_0_0) (by decide) (by decide))
    sf_someb <|
    sf_pb (lay_S m_20 (by decide +kernel)) <|
    sf_pb (bl_rg (rg_c (x := (1 : Int32)) (n := 1) rfl) (by decide) (by decide)) <|
    sf_someb <|
    sf_ite (fun h_76 =>
    False.elim (rg_noeq h_76 (rg_c (x := (1 : Int32)) (n := 1) rfl) (rg_c (x := (0 : Int32)) (n := 0) rfl) (by decide)))
     (fun h_76 =>
    have f_77 := (rg_hlt (Int32.not_le.mp h_68) f_70 (rg_add (rg_i f_72 (wr_k q_58 (by decide) f_75)) (hS_V_57.rdS m_20 rs_RcR_3448_11_0_0) (by decide) (by decide)))
    sf_assoc <|
    sf_iteb (fun h_88 =>
    have f_89 := (rg_hlt h_88 rg_t (rg_c (x := (0 : Int32)) (n := 0) rfl))
    sf_someb <|
    sf_pb (lay_S m_20 (by decide +kernel)) <|
    sf_iteb (fun h_94 =>
    sf_wb (hS_V_57.wc oi_RcR_69_14 (rg_m (rg_c (x := (5 : Int32)) (n := 5) rfl) (by decide) (by decide))) fun V_99 q_100 hS_V_99 =>
    sf_assoc <|
    sf_iteb (fun h_109 =>
    sf_someb <|
    sf_pb (lay_S m_20 (by decide +kernel)) <|
    sf_pb (bl_rg (rg_c (x := (0 : Int32)) (n := 0) rfl) (by decide) (by decide)) <|
    sf_someb <|
    sf_ite (fun h_111 =>
    sf_sV hS_V_99)
     (fun h_111 =>
    False.elim (rg_none h_111 (rg_c (x := (0 : Int32)) (n := 0) rfl) (rg_c (x := (0 : Int32)) (n := 0) rfl))))
     (fun h_109 =>
    False.elim (rg_nole (Int32.not_lt.mp h_109) (rg_c (x := (0 : Int32)) (n := 0) rfl) f_89 (by decide))))
     (fun h_94 =>
    False.elim (rg_none h_94 (rg_c (x := (0 : Int32)) (n := 0) rfl) (rg_c (x := (0 : Int32)) (n := 0) rfl))))
     (fun h_88 =>
    have f_113 := (rg_lle (Int32.not_lt.mp h_88) (rg_c (x := (0 : Int32)) (n := 0) rfl) rg_t)
    have f_114 := (rg_hle h_55 (rg_add f_75 (hS_V_7.rdS m_20 rs_RcR_3448_11_0_0) (by decide) (by decide)) f_77)
    have f_115 := (rg_addL f_114 f_75 (hS_V_7.rdS m_20 rs_RcR_3448_11_0_0) (by decide) (by decide))
    have f_116 := (rg_hlt (Int32.not_le.mp h_68) f_77 (rg_add (rg_i (rg_i f_72 (wr_k q_58 (by decide) f_75)) (wr_k q_58 (by decide) f_115)) (hS_V_57.rdS m_20 rs_RcR_3448_11_0_0) (by decide) (by decide)))
    sf_pb (lay_S m_20 (by decide +kernel)) <|
    sf_iteb (fun h_118 =>
    have f_119 := (rg_lle h_118 (rg_add (rg_i (rg_i f_72 (wr_k q_58 (by decide) f_75)) (wr_k q_58 (by decide) f_115)) (hS_V_57.rdS m_20 rs_RcR_3448_11_0_0) (by decide) (by decide)) f_113)
    have f_120 := (rg_hle h_55 (rg_add f_115 (hS_V_7.rdS m_20 rs_RcR_3448_11_0_0) (by decide) (by decide)) f_116)
    have f_121 := (rg_addL f_120 f_115 (hS_V_7.rdS m_20 rs_RcR_3448_11_0_0) (by decide) (by decide))
    have f_122 := (rg_hlt (Int32.not_le.mp h_68) f_116 (rg_add (rg_i (rg_i (rg_i f_72 (wr_k q_58 (by decide) f_75)) (wr_k q_58 (by decide) f_115)) (wr_k q_58 (by decide) f_121)) (hS_V_57.rdS m_20 rs_RcR_3448_11_0_0) (by decide) (by decide)))
    sf_someb <|
    sf_pb (lay_S m_20 (by decide +kernel)) <|
    sf_iteb (fun h_124 =>
    sf_wb (hS_V_57.wc oi_RcR_69_14 (rg_m (rg_c (x := (5 : Int32)) (n := 5) rfl) (by decide) (by decide))) fun V_126 q_127 hS_V_126 =>
    sf_assoc <|
    sf_iteb (fun h_136 =>
    False.elim (rg_nolt h_136 f_119 (rg_c (x := (0 : Int32)) (n := 0) rfl) (by decide)))
     (fun h_136 =>
    sf_pb (lay_S m_20 (by decide +kernel)) <|
    sf_iteb (fun h_138 =>
    sf_someb <|
    sf_pb (lay_S m_20 (by decide +kernel)) <|
    sf_pb (bl_rg (rg_c (x := (0 : Int32)) (n := 0) rfl) (by decide) (by decide)) <|
    sf_someb <|
    sf_ite (fun h_140 =>
    sf_sV hS_V_126)
     (fun h_140 =>
    False.elim (rg_none h_140 (rg_c (x := (0 : Int32)) (n := 0) rfl) (rg_c (x := (0 : Int32)) (n := 0) rfl))))
     (fun h_138 =>
    have f_141 := (rg_hlt (Int32.not_le.mp h_138) f_119 (rg_add (rg_i (rg_i (rg_i (wr_k q_127 (by decide) f_72) (wr_k q_127 (by decide) (wr_k q_58 (by decide) f_75))) (wr_k q_127 (by decide) (wr_k q_58 (by decide) f_115))) (wr_k q_127 (by decide) (wr_k q_58 (by decide) f_121))) (hS_V_126.rdS m_20 rs_RcR_3448_11_0_0) (by decide) (by decide)))
    have f_142 := (rg_llt (Int32.not_le.mp h_138) f_119 (rg_add (rg_i (rg_i (rg_i (wr_k q_127 (by decide) f_72) (wr_k q_127 (by decide) (wr_k q_58 (by decide) f_75))) (wr_k q_127 (by decide) (wr_k q_58 (by decide) f_115))) (wr_k q_127 (by decide) (wr_k q_58 (by decide) f_121))) (hS_V_126.rdS m_20 rs_RcR_3448_11_0_0) (by decide) (by decide)))
    have f_143 := (rg_addL f_142 (rg_i (rg_i (rg_i (wr_k q_127 (by decide) f_72) (wr_k q_127 (by decide) (wr_k q_58 (by decide) f_75))) (wr_k q_127 (by decide) (wr_k q_58 (by decide) f_115))) (wr_k q_127 (by decide) (wr_k q_58 (by decide) f_121))) (hS_V_126.rdS m_20 rs_RcR_3448_11_0_0) (by decide) (by decide))
    have f_145 := (cap_of ck_RcR (mem_of m_20 (by decide)) hS_V_57 (Int32.not_le.mp h_68))
    have f_146 := (rg_hle h_118 (rg_add (rg_i (rg_i (rg_i f_72 (wr_k q_58 (by decide) f_75)) (wr_k q_58 (by decide) f_115)) (wr_k q_58 (by decide) f_121)) (hS_V_57.rdS m_20 rs_RcR_3448_11_0_0) (by decide) (by decide)) f_141)
    have f_147 := (rg_addL f_146 (rg_i (rg_i (rg_i f_72 (wr_k q_58 (by decide) f_75)) (wr_k q_58 (by decide) f_115)) (wr_k q_58 (by decide) f_121)) (hS_V_57.rdS m_20 rs_RcR_3448_11_0_0) (by decide) (by decide))
    sf_someb <|
    sf_pb (lay_S m_20 (by decide +kernel)) <|
    sf_pb (bl_rg (rg_c (x := (1 : Int32)) (n := 1) rfl) (by decide) (by decide)) <|
    sf_someb <|
    sf_ite (fun h_148 =>
    False.elim (rg_noeq h_148 (rg_c (x := (1 : Int32)) (n := 1) rfl) (rg_c (x := (0 : Int32)) (n := 0) rfl) (by decide)))
     (fun h_148 =>
    have f_149 := (rg_hlt (Int32.not_le.mp h_138) f_141 (rg_add (rg_i f_143 (wr_k q_127 (by decide) f_147)) (hS_V_126.rdS m_20 rs_RcR_3448_11_0_0) (by decide) (by decide)))
    sf_o (c := bm) (ref6 hS_V_126 hR rfl) <|
    sf_iteb (fun h_154 =>
    sf_someb <|
    sf_p (lay_S hR.2.1 (by decide +kernel)) <|
    sf_ite (fun h_160 =>
    sf_w (hS_V_126.wc oi_RcR_69_14 (rg_m (rg_c (x := (6 : Int32)) (n := 6) rfl) (by decide) (by decide))) fun V_165 q_166 hS_V_165 =>
    sf_sV hS_V_165)
     (fun h_160 =>
    False.elim (rg_none h_160 (rg_c (x := (0 : Int32)) (n := 0) rfl) (rg_c (x := (0 : Int32)) (n := 0) rfl))))
     (fun h_154 =>
    have f_167 := (rg_lle (Int32.not_lt.mp h_154) (rg_c (x := (0 : Int32)) (n := 0) rfl) r_3)
    have f_168 := (rg_hle h_118 (rg_add f_147 (hS_V_57.rdS m_20 rs_RcR_3448_11_0_0) (by decide) (by decide)) f_149)
    have f_169 := (rg_addL f_168 f_147 (hS_V_57.rdS m_20 rs_RcR_3448_11_0_0) (by decide) (by decide))
    have f_170 := (rg_hlt (Int32.not_le.mp h_138) f_149 (rg_add (rg_i (rg_i f_143 (wr_k q_127 (by decide) f_147)) (wr_k q_127 (by decide) f_169)) (hS_V_126.rdS m_20 rs_RcR_3448_11_0_0) (by decide) (by decide)))
    sf_pb (lay_S hR.2.1 (by decide +kernel)) <|
    sf_iteb (fun h_172 =>
    sf_someb <|
    sf_p (lay_S hR.2.1 (by decide +kernel)) <|
    sf_ite (fun h_177 =>
    sf_w (hS_V_126.wc oi_RcR_69_14 (rg_m (rg_c (x := (6 : Int32)) (n := 6) rfl) (by decide) (by decide))) fun V_179 q_180 hS_V_179 =>
    sf_sV hS_V_179)
     (fun h_177 =>
    False.elim (rg_none h_177 (rg_c (x := (0 : Int32)) (n := 0) rfl) (rg_c (x := (0 : Int32)) (n := 0) rfl))))
     (fun h_172 =>
    have f_181 := (rg_hlt (Int32.not_le.mp h_172) f_167 (hS_V_126.rdS hR.2.1 rs_RcR_3145_1_0_256))
    have f_183 := (rg_hle h_118 (rg_add f_169 (hS_V_57.rdS m_20 rs_RcR_3448_11_0_0) (by decide) (by decide)) f_170)
    have f_184 := (rg_addL f_183 f_169 (hS_V_57.rdS m_20 rs_RcR_3448_11_0_0) (by decide) (by decide))
    have f_185 := (rg_hlt (Int32.not_le.mp h_138) f_170 (rg_add (rg_i (rg_i (rg_i f_143 (wr_k q_127 (by decide) f_147)) (wr_k q_127 (by decide) f_169)) (wr_k q_127 (by decide) f_184)) (hS_V_126.rdS m_20 rs_RcR_3448_11_0_0) (by decide) (by decide)))
    sf_someb <|
    sf_p (lay_S hR.2.1 (by decide +kernel)) <|
    sf_ite (fun h_187 =>
    False.elim (rg_noeq h_187 (rg_c (x := (1 : Int32)) (n := 1) rfl) (rg_c (x := (0 : Int32)) (n := 0) rfl) (by decide)))
     (fun h_187 =>
    sf_o (c := bm) (ref6 hS_V_126 hR rfl) <|
    sf_p (lay_S hR.2.1 (by decide +kernel)) <|
    sf_crS (T := [32, 46]) hR.2.1 (by decide +kernel) fun b_189 m_191 q_190 =>
    sf_lenE (n := 256) m_191 (by decide +kernel) <|
    sf_p (in_rg f_181 (by decide) (by decide)) <|
    sf_qL (s_F_X5_orSingle_R hN hR hS_V_126 (rl_m (rl_w rg_t) (by decide) (by decide))) fun x_193 r_194 =>
    sf_ite (fun h_195 =>
    have f_196 := (cap_of ck_RcR (mem_of m_20 (by decide)) hS_V_126 (Int32.not_le.mp h_138))
    sf_p (lay_S m_20 (by decide +kernel)) <|
    sf_crS (T := [40, 54]) m_20 (by decide +kernel) fun b_197 m_199 q_198 =>
    sf_lenE (n := 64) m_199 (by decide +kernel) <|
    sf_p (in_rg f_185 (by decide) (by decide)) <|
    sf_crS (T := [41, 55]) m_20 (by decide +kernel) fun b_201 m_203 q_202 =>
    sf_lenE (n := 64) m_203 (by decide +kernel) <|
    sf_p (in_rg f_185 (by decide) (by decide)) <|
    sf_eV (s_F_X5_plant_R hN hR hS_V_126 m_20 (rg_m f_122 (by decide) (by decide)) f_145) fun V_205 e_206 hS_V_205 =>
    s_B_X5_moveAsCvt_128_R hN hR hS_V_205 r_l1 (rg_m f_122 (by decide) (by decide)) (mem_of m_20 (by decide)) (mem_of m_20 (by decide)) (rg_m f_185 (by decide) (by decide)) f_145 f_196)
     (fun h_195 =>
    False.elim (rg_none h_195 (wr_k q_127 (by decide) (wr_k q_58 (by decide) f_17)) (rg_c (x := (0 : Int32)) (n := 0) rfl))))))))))
     (fun h_124 =>
    False.elim (rg_none h_124 (rg_c (x := (0 : Int32)) (n := 0) rfl) (rg_c (x := (0 : Int32)) (n := 0) rfl))))
     (fun h_118 =>
    have f_208 := (rg_hlt (Int32.not_le.mp h_118) f_113 (rg_add (rg_i (rg_i f_72 (wr_k q_58 (by decide) f_75)) (wr_k q_58 (by decide) f_115)) (hS_V_57.rdS m_20 rs_RcR_3448_11_0_0) (by decide) (by decide)))
    have f_210 := (rg_hle h_55 (rg_add f_115 (hS_V_7.rdS m_20 rs_RcR_3448_11_0_0) (by decide) (by decide)) f_116)
    have f_211 := (rg_addL f_210 f_115 (hS_V_7.rdS m_20 rs_RcR_3448_11_0_0) (by decide) (by decide))
    have f_212 := (rg_hlt (Int32.not_le.mp h_68) f_116 (rg_add (rg_i (rg_i (rg_i f_72 (wr_k q_58 (by decide) f_75)) (wr_k q_58 (by decide) f_115)) (wr_k q_58 (by decide) f_211)) (hS_V_57.rdS m_20 rs_RcR_3448_11_0_0) (by decide) (by decide)))
    sf_someb <|
    sf_pb (lay_S m_20 (by decide +kernel)) <|
    sf_iteb (fun h_214 =>
    False.elim (rg_noeq h_214 (rg_c (x := (1 : Int32)) (n := 1) rfl) (rg_c (x := (0 : Int32)) (n := 0) rfl) (by decide)))
     (fun h_214 =>
    have f_216 := (rg_hlt (Int32.not_le.mp h_118) f_208 (rg_add (rg_i (rg_i (rg_i f_72 (wr_k q_58 (by decide) f_75)) (wr_k q_58 (by decide) f_115)) (wr_k q_58 (by decide) f_211)) (hS_V_57.rdS m_20 rs_RcR_3448_11_0_0) (by decide) (by decide)))
    sf_assoc <|
    sf_iteb (fun h_226 =>
    False.elim (rg_nolt h_226 f_216 (rg_c (x := (0 : Int32)) (n := 0) rfl) (by decide)))
     (fun h_226 =>
    sf_pb (lay_S m_20 (by decide +kernel)) <|
    sf_iteb (fun h_229 =>
    sf_someb <|
    sf_pb (lay_S m_20 (by decide +kernel)) <|
    sf_pb (bl_rg (rg_c (x := (0 : Int32)) (n := 0) rfl) (by decide) (by decide)) <|
    sf_someb <|
    sf_ite (fun h_239 =>
    sf_sV hS_V_57)
     (fun h_239 =>
    False.elim (rg_none h_239 (rg_c (x := (0 : Int32)) (n := 0) rfl) (rg_c (x := (0 : Int32)) (n := 0) rfl))))
     (fun h_229 =>
    have f_245 := (cap_of ck_RcR (mem_of m_20 (by decide)) hS_V_57 (Int32.not_le.mp h_68))
    sf_someb <|
    sf_pb (lay_S m_20 (by decide +kernel)) <|
    sf_pb (bl_rg (rg_c (x := (1 : Int32)) (n := 1) rfl) (by decide) (by decide)) <|
    sf_someb <|
    sf_ite (fun h_247 =>
    False.elim (rg_noeq h_247 (rg_c (x := (1 : Int32)) (n := 1) rfl) (rg_c (x := (0 : Int32)) (n := 0) rfl) (by decide)))
     (fun h_247 =>
    sf_o (c := bm) (ref6 hS_V_57 hR rfl) <|
    sf_iteb (fun h_253 =>
    sf_someb <|
    sf_p (lay_S hR.2.1 (by decide +kernel)) <|
    sf_ite (fun h_257 =>
    sf_w (hS_V_57.wc oi_RcR_69_14 (rg_m (rg_c (x := (6 : Int32)) (n := 6) rfl) (by decide) (by decide))) fun V_260 q_261 hS_V_260 =>
    sf_sV hS_V_260)
     (fun h_257 =>
    False.elim (rg_none h_257 (rg_c (x := (0 : Int32)) (n := 0) rfl) (rg_c (x := (0 : Int32)) (n := 0) rfl))))
     (fun h_253 =>
    have f_262 := (rg_lle (Int32.not_lt.mp h_253) (rg_c (x := (0 : Int32)) (n := 0) rfl) r_3)
    sf_pb (lay_S hR.2.1 (by decide +kernel)) <|
    sf_iteb (fun h_265 =>
    sf_someb <|
    sf_p (lay_S hR.2.1 (by decide +kernel)) <|
    sf_ite (fun h_268 =>
    sf_w (hS_V_57.wc oi_RcR_69_14 (rg_m (rg_c (x := (6 : Int32)) (n := 6) rfl) (by decide) (by decide))) fun V_270 q_271 hS_V_270 =>
    sf_sV hS_V_270)
     (fun h_268 =>
    False.elim (rg_none h_268 (rg_c (x := (0 : Int32)) (n := 0) rfl) (rg_c (x := (0 : Int32)) (n := 0) rfl))))
     (fun h_265 =>
    have f_272 := (rg_hlt (Int32.not_le.mp h_265) f_262 (hS_V_57.rdS hR.2.1 rs_RcR_3145_1_0_256))
    sf_someb <|
    sf_p (lay_S hR.2.1 (by decide +kernel)) <|
    sf_ite (fun h_276 =>
    False.elim (rg_noeq h_276 (rg_c (x := (1 : Int32)) (n := 1) rfl) (rg_c (x := (0 : Int32)) (n := 0) rfl) (by decide)))
     (fun h_276 =>
    sf_o (c := bm) (ref6 hS_V_57 hR rfl) <|
    sf_p (lay_S hR.2.1 (by decide +kernel)) <|
    sf_crS (T := [32, 46]) hR.2.1 (by decide +kernel) fun b_278 m_280 q_279 =>
    sf_lenE (n := 256) m_280 (by decide +kernel) <|
    sf_p (in_rg f_272 (by decide) (by decide)) <|
    sf_qL (s_F_X5_orSingle_R hN hR hS_V_57 (rl_m (rl_w rg_t) (by decide) (by decide))) fun x_282 r_283 =>
    sf_ite (fun h_284 =>
    have f_285 := (cap_of ck_RcR (mem_of m_20 (by decide)) hS_V_57 (Int32.not_le.mp h_229))
    sf_p (lay_S m_20 (by decide +kernel)) <|
    sf_crS (T := [40, 54]) m_20 (by decide +kernel) fun b_286 m_288 q_287 =>
    sf_lenE (n := 64) m_288 (by decide +kernel) <|
    sf_p (in_rg f_216 (by decide) (by decide)) <|
    sf_crS (T := [41, 55]) m_20 (by decide +kernel) fun b_290 m_292 q_291 =>
    sf_lenE (n := 64) m_292 (by decide +kernel) <|
    sf_p (in_rg f_216 (by decide) (by decide)) <|
    sf_eV (s_F_X5_plant_R hN hR hS_V_57 m_20 (rg_m f_212 (by decide) (by decide)) f_245) fun V_294 e_295 hS_V_294 =>
    s_B_X5_moveAsCvt_128_R hN hR hS_V_294 r_l1 (rg_m f_212 (by decide) (by decide)) (mem_of m_20 (by decide)) (mem_of m_20 (by decide)) (rg_m f_216 (by decide) (by decide)) f_245 f_285)
     (fun h_284 =>
    False.elim (rg_none h_284 (wr_k q_58 (by decide) f_17) (rg_c (x := (0 : Int32)) (n := 0) rfl))))))))))))))))
     (fun h_56 =>
    False.elim (rg_none h_56 (rg_c (x := (0 : Int32)) (n := 0) rfl) (rg_c (x := (0 : Int32)) (n := 0) rfl))))
     (fun h_55 =>
    have f_297 := (rg_hlt (Int32.not_le.mp h_55) f_54 (rg_add (hS_V_7.rdS m_20 rs_RcR_3448_9_0_64) (hS_V_7.rdS m_20 rs_RcR_3448_11_0_0) (by decide) (by decide)))
    have f_298 := (rg_llt (Int32.not_le.mp h_55) f_54 (rg_add (hS_V_7.rdS m_20 rs_RcR_3448_9_0_64) (hS_V_7.rdS m_20 rs_RcR_3448_11_0_0) (by decide) (by decide)))
    have f_299 := (rg_addL f_298 (hS_V_7.rdS m_20 rs_RcR_3448_9_0_64) (hS_V_7.rdS m_20 rs_RcR_3448_11_0_0) (by decide) (by decide))
    sf_someb <|
    sf_pb (lay_S m_20 (by decide +kernel)) <|
    sf_iteb (fun h_301 =>
    False.elim (rg_noeq h_301 (rg_c (x := (1 : Int32)) (n := 1) rfl) (rg_c (x := (0 : Int32)) (n := 0) rfl) (by decide)))
     (fun h_301 =>
    sf_assoc <|
    sf_iteb (fun h_311 =>
    False.elim (rg_nolt h_311 f_297 (rg_c (x := (0 : Int32)) (n := 0) rfl) (by decide)))
     (fun h_311 =>
    sf_pb (lay_S m_20 (by decide +kernel)) <|
    sf_iteb (fun h_313 =>
    sf_someb <|
    sf_pb (lay_S m_20 (by decide +kernel)) <|
    sf_pb (bl_rg (rg_c (x := (0 : Int32)) (n := 0) rfl) (by decide) (by decide)) <|
    sf_someb <|
    sf_ite (fun h_321 =>
    sf_sV hS_V_7)
     (fun h_321 =>
    False.elim (rg_none h_321 (rg_c (x := (0 : Int32)) (n := 0) rfl) (rg_c (x := (0 : Int32)) (n := 0) rfl))))
     (fun h_313 =>
    sf_someb <|
    sf_pb (lay_S m_20 (by decide +kernel)) <|
    sf_pb (bl_rg (rg_c (x := (1 : Int32)) (n := 1) rfl) (by decide) (by decide)) <|
    sf_someb <|
    sf_ite (fun h_328 =>
    False.elim (rg_noeq h_328 (rg_c (x := (1 : Int32)) (n := 1) rfl) (rg_c (x := (0 : Int32)) (n := 0) rfl) (by decide)))
     (fun h_328 =>
    sf_assoc <|
    sf_iteb (fun h_340 =>
    have f_341 := (rg_hlt h_340 rg_t (rg_c (x := (0 : Int32)) (n := 0) rfl))
    sf_someb <|
    sf_pb (lay_S m_20 (by decide +kernel)) <|
    sf_iteb (fun h_344 =>
    sf_wb (hS_V_7.wc oi_RcR_69_14 (rg_m (rg_c (x := (5 : Int32)) (n := 5) rfl) (by decide) (by decide))) fun V_347 q_348 hS_V_347 =>
    sf_assoc <|
    sf_iteb (fun h_357 =>
    sf_someb <|
    sf_pb (lay_S m_20 (by decide +kernel)) <|
    sf_pb (bl_rg (rg_c (x := (0 : Int32)) (n := 0) rfl) (by decide) (by decide)) <|
    sf_someb <|
    sf_ite (fun h_359 =>
    sf_sV hS_V_347)
     (fun h_359 =>
    False.elim (rg_none h_359 (rg_c (x := (0 : Int32)) (n := 0) rfl) (rg_c (x := (0 : Int32)) (n := 0) rfl))))
     (fun h_357 =>
    False.elim (rg_nole (Int32.not_lt.mp h_357) (rg_c (x := (0 : Int32)) (n := 0) rfl) f_341 (by decide))))
     (fun h_344 =>
    False.elim (rg_none h_344 (rg_c (x := (0 : Int32)) (n := 0) rfl) (rg_c (x := (0 : Int32)) (n := 0) rfl))))
     (fun h_340 =>
    have f_361 := (rg_lle (Int32.not_lt.mp h_340) (rg_c (x := (0 : Int32)) (n := 0) rfl) rg_t)
    sf_pb (lay_S m_20 (by decide +kernel)) <|
    sf_iteb (fun h_364 =>
    have f_365 := (rg_lle h_364 (rg_add f_299 (hS_V_7.rdS m_20 rs_RcR_3448_11_0_0) (by decide) (by decide)) f_361)
    sf_someb <|
    sf_pb (lay_S m_20 (by decide +kernel)) <|
    sf_iteb (fun h_368 =>
    sf_wb (hS_V_7.wc oi_RcR_69_14 (rg_m (rg_c (x := (5 : Int32)) (n := 5) rfl) (by decide) (by decide))) fun V_370 q_371 hS_V_370 =>
    sf_assoc <|
    sf_iteb (fun h_380 =>
    False.elim (rg_nolt h_380 f_365 (rg_c (x := (0 : Int32)) (n := 0) rfl) (by decide)))
     (fun h_380 =>
    sf_pb (lay_S m_20 (by decide +kernel)) <|
    sf_iteb (fun h_382 =>
    sf_someb <|
    sf_pb (lay_S m_20 (by decide +kernel)) <|
    sf_pb (bl_rg (rg_c (x := (0 : Int32)) (n := 0) rfl) (by decide) (by decide)) <|
    sf_someb <|
    sf_ite (fun h_384 =>
    sf_sV hS_V_370)
     (fun h_384 =>
    False.elim (rg_none h_384 (rg_c (x := (0 : Int32)) (n := 0) rfl) (rg_c (x := (0 : Int32)) (n := 0) rfl))))
     (fun h_382 =>
    have f_385 := (rg_hlt (Int32.not_le.mp h_382) f_365 (rg_add (wr_k q_371 (by decide) f_299) (hS_V_370.rdS m_20 rs_RcR_3448_11_0_0) (by decide) (by decide)))
    have f_386 := (rg_llt (Int32.not_le.mp h_382) f_365 (rg_add (wr_k q_371 (by decide) f_299) (hS_V_370.rdS m_20 rs_RcR_3448_11_0_0) (by decide) (by decide)))
    have f_387 := (rg_addL f_386 (wr_k q_371 (by decide) f_299) (hS_V_370.rdS m_20 rs_RcR_3448_11_0_0) (by decide) (by decide))
    have f_389 := (cap_of ck_RcR (mem_of m_20 (by decide)) hS_V_7 (Int32.not_le.mp h_313))
    have f_390 := (rg_hle h_364 (rg_add f_299 (hS_V_7.rdS m_20 rs_RcR_3448_11_0_0) (by decide) (by decide)) f_385)
    have f_391 := (rg_addL f_390 f_299 (hS_V_7.rdS m_20 rs_RcR_3448_11_0_0) (by decide) (by decide))
    sf_someb <|
    sf_pb (lay_S m_20 (by decide +kernel)) <|
    sf_pb (bl_rg (rg_c (x := (1 : Int32)) (n := 1) rfl) (by decide) (by decide)) <|
    sf_someb <|
    sf_ite (fun h_392 =>
    False.elim (rg_noeq h_392 (rg_c (x := (1 : Int32)) (n := 1) rfl) (rg_c (x := (0 : Int32)) (n := 0) rfl) (by decide)))
     (fun h_392 =>
    have f_393 := (rg_hlt (Int32.not_le.mp h_382) f_385 (rg_add (rg_i f_387 (wr_k q_371 (by decide) f_391)) (hS_V_370.rdS m_20 rs_RcR_3448_11_0_0) (by decide) (by decide)))
    sf_o (c := bm) (ref6 hS_V_370 hR rfl) <|
    sf_iteb (fun h_398 =>
    sf_someb <|
    sf_p (lay_S hR.2.1 (by decide +kernel)) <|
    sf_ite (fun h_404 =>
    sf_w (hS_V_370.wc oi_RcR_69_14 (rg_m (rg_c (x := (6 : Int32)) (n := 6) rfl) (by decide) (by decide))) fun V_409 q_410 hS_V_409 =>
    sf_sV hS_V_409)
     (fun h_404 =>
    False.elim (rg_none h_404 (rg_c (x := (0 : Int32)) (n := 0) rfl) (rg_c (x := (0 : Int32)) (n := 0) rfl))))
     (fun h_398 =>
    have f_411 := (rg_lle (Int32.not_lt.mp h_398) (rg_c (x := (0 : Int32)) (n := 0) rfl) r_3)
    have f_412 := (rg_hle h_364 (rg_add f_391 (hS_V_7.rdS m_20 rs_RcR_3448_11_0_0) (by decide) (by decide)) f_393)
    have f_413 := (rg_addL f_412 f_391 (hS_V_7.rdS m_20 rs_RcR_3448_11_0_0) (by decide) (by decide))
    have f_414 := (rg_hlt (Int32.not_le.mp h_382) f_393 (rg_add (rg_i (rg_i f_387 (wr_k q_371 (by decide) f_391)) (wr_k q_371 (by decide) f_413)) (hS_V_370.rdS m_20 rs_RcR_3448_11_0_0) (by decide) (by decide)))
    sf_pb (lay_S hR.2.1 (by decide +kernel)) <|
    sf_iteb (fun h_416 =>
    sf_someb <|
    sf_p (lay_S hR.2.1 (by decide +kernel)) <|
    sf_ite (fun h_421 =>
    sf_w (hS_V_370.wc oi_RcR_69_14 (rg_m (rg_c (x := (6 : Int32)) (n := 6) rfl) (by decide) (by decide))) fun V_423 q_424 hS_V_423 =>
    sf_sV hS_V_423)
     (fun h_421 =>
    False.elim (rg_none h_421 (rg_c (x := (0 : Int32)) (n := 0) rfl) (rg_c (x := (0 : Int32)) (n := 0) rfl))))
     (fun h_416 =>
    have f_425 := (rg_hlt (Int32.not_le.mp h_416) f_411 (hS_V_370.rdS hR.2.1 rs_RcR_3145_1_0_256))
    have f_427 := (rg_hle h_364 (rg_add f_413 (hS_V_7.rdS m_20 rs_RcR_3448_11_0_0) (by decide) (by decide)) f_414)
    have f_428 := (rg_addL f_427 f_413 (hS_V_7.rdS m_20 rs_RcR_3448_11_0_0) (by decide) (by decide))
    have f_429 := (rg_hlt (Int32.not_le.mp h_382) f_414 (rg_add (rg_i (rg_i (rg_i f_387 (wr_k q_371 (by decide) f_391)) (wr_k q_371 (by decide) f_413)) (wr_k q_371 (by decide) f_428)) (hS_V_370.rdS m_20 rs_RcR_3448_11_0_0) (by decide) (by decide)))
    sf_someb <|
    sf_p (lay_S hR.2.1 (by decide +kernel)) <|
    sf_ite (fun h_431 =>
    False.elim (rg_noeq h_431 (rg_c (x := (1 : Int32)) (n := 1) rfl) (rg_c (x := (0 : Int32)) (n := 0) rfl) (by decide)))
     (fun h_431 =>
    sf_o (c := bm) (ref6 hS_V_370 hR rfl) <|
    sf_p (lay_S hR.2.1 (by decide +kernel)) <|
    sf_crS (T := [32, 46]) hR.2.1 (by decide +kernel) fun b_433 m_435 q_434 =>
    sf_lenE (n := 256) m_435 (by decide +kernel) <|
    sf_p (in_rg f_425 (by decide) (by decide)) <|
    sf_qL (s_F_X5_orSingle_R hN hR hS_V_370 (rl_m (rl_w rg_t) (by decide) (by decide))) fun x_437 r_438 =>
    sf_ite (fun h_439 =>
    have f_440 := (cap_of ck_RcR (mem_of m_20 (by decide)) hS_V_370 (Int32.not_le.mp h_382))
    sf_p (lay_S m_20 (by decide +kernel)) <|
    sf_crS (T := [40, 54]) m_20 (by decide +kernel) fun b_441 m_443 q_442 =>
    sf_lenE (n := 64) m_443 (by decide +kernel) <|
    sf_p (in_rg f_429 (by decide) (by decide)) <|
    sf_crS (T := [41, 55]) m_20 (by decide +kernel) fun b_445 m_447 q_446 =>
    sf_lenE (n := 64) m_447 (by decide +kernel) <|
    sf_p (in_rg f_429 (by decide) (by decide)) <|
    sf_eV (s_F_X5_plant_R hN hR hS_V_370 m_20 (rg_m f_297 (by decide) (by decide)) f_389) fun V_449 e_450 hS_V_449 =>
    s_B_X5_moveAsCvt_128_R hN hR hS_V_449 r_l1 (rg_m f_297 (by decide) (by decide)) (mem_of m_20 (by decide)) (mem_of m_20 (by decide)) (rg_m f_429 (by decide) (by decide)) f_389 f_440)
     (fun h_439 =>
    False.elim (rg_none h_439 (wr_k q_371 (by decide) f_17) (rg_c (x := (0 : Int32)) (n := 0) rfl))))))))))
     (fun h_368 =>
    False.elim (rg_none h_368 (rg_c (x := (0 : Int32)) (n := 0) rfl) (rg_c (x := (0 : Int32)) (n := 0) rfl))))
     (fun h_364 =>
    have f_452 := (rg_hlt (Int32.not_le.mp h_364) f_361 (rg_add f_299 (hS_V_7.rdS m_20 rs_RcR_3448_11_0_0) (by decide) (by decide)))
    sf_someb <|
    sf_pb (lay_S m_20 (by decide +kernel)) <|
    sf_iteb (fun h_456 =>
    False.elim (rg_noeq h_456 (rg_c (x := (1 : Int32)) (n := 1) rfl) (rg_c (x := (0 : Int32)) (n := 0) rfl) (by decide)))
     (fun h_456 =>
    sf_assoc <|
    sf_iteb (fun h_467 =>
    False.elim (rg_nolt h_467 f_452 (rg_c (x := (0 : Int32)) (n := 0) rfl) (by decide)))
     (fun h_467 =>
    sf_pb (lay_S m_20 (by decide +kernel)) <|
    sf_iteb (fun h_470 =>
    sf_someb <|
    sf_pb (lay_S m_20 (by decide +kernel)) <|
    sf_pb (bl_rg (rg_c (x := (0 : Int32)) (n := 0) rfl) (by decide) (by decide)) <|
    sf_someb <|
    sf_ite (fun h_480 =>
    sf_sV hS_V_7)
     (fun h_480 =>
    False.elim (rg_none h_480 (rg_c (x := (0 : Int32)) (n := 0) rfl) (rg_c (x := (0 : Int32)) (n := 0) rfl))))
     (fun h_470 =>
    have f_486 := (cap_of ck_RcR (mem_of m_20 (by decide)) hS_V_7 (Int32.not_le.mp h_313))
    sf_someb <|
    sf_pb (lay_S m_20 (by decide +kernel)) <|
    sf_pb (bl_rg (rg_c (x := (1 : Int32)) (n := 1) rfl) (by decide) (by decide)) <|
    sf_someb <|
    sf_ite (fun h_488 =>
    False.elim (rg_noeq h_488 (rg_c (x := (1 : Int32)) (n := 1) rfl) (rg_c (x := (0 : Int32)) (n := 0) rfl) (by decide)))
     (fun h_488 =>
    sf_o (c := bm) (ref6 hS_V_7 hR rfl) <|
    sf_iteb (fun h_494 =>
    sf_someb <|
    sf_p (lay_S hR.2.1 (by decide +kernel)) <|
    sf_ite (fun h_498 =>
    sf_w (hS_V_7.wc oi_RcR_69_14 (rg_m (rg_c (x := (6 : Int32)) (n := 6) rfl) (by decide) (by decide))) fun V_501 q_502 hS_V_501 =>
    sf_sV hS_V_501)
     (fun h_498 =>
    False.elim (rg_none h_498 (rg_c (x := (0 : Int32)) (n := 0) rfl) (rg_c (x := (0 : Int32)) (n := 0) rfl))))
     (fun h_494 =>
    have f_503 := (rg_lle (Int32.not_lt.mp h_494) (rg_c (x := (0 : Int32)) (n := 0) rfl) r_3)
    sf_pb (lay_S hR.2.1 (by decide +kernel)) <|
    sf_iteb (fun h_506 =>
    sf_someb <|
    sf_p (lay_S hR.2.1 (by decide +kernel)) <|
    sf_ite (fun h_509 =>
    sf_w (hS_V_7.wc oi_RcR_69_14 (rg_m (rg_c (x := (6 : Int32)) (n := 6) rfl) (by decide) (by decide))) fun V_511 q_512 hS_V_511 =>
    sf_sV hS_V_511)
     (fun h_509 =>
    False.elim (rg_none h_509 (rg_c (x := (0 : Int32)) (n := 0) rfl) (rg_c (x := (0 : Int32)) (n := 0) rfl))))
     (fun h_506 =>
    have f_513 := (rg_hlt (Int32.not_le.mp h_506) f_503 (hS_V_7.rdS hR.2.1 rs_RcR_3145_1_0_256))
    sf_someb <|
    sf_p (lay_S hR.2.1 (by decide +kernel)) <|
    sf_ite (fun h_517 =>
    False.elim (rg_noeq h_517 (rg_c (x := (1 : Int32)) (n := 1) rfl) (rg_c (x := (0 : Int32)) (n := 0) rfl) (by decide)))
     (fun h_517 =>
    sf_o (c := bm) (ref6 hS_V_7 hR rfl) <|
    sf_p (lay_S hR.2.1 (by decide +kernel)) <|
    sf_crS (T := [32, 46]) hR.2.1 (by decide +kernel) fun b_519 m_521 q_520 =>
    sf_lenE (n := 256) m_521 (by decide +kernel) <|
    sf_p (in_rg f_513 (by decide) (by decide)) <|
    sf_qL (s_F_X5_orSingle_R hN hR hS_V_7 (rl_m (rl_w rg_t) (by decide) (by decide))) fun x_523 r_524 =>
    sf_ite (fun h_525 =>
    have f_526 := (cap_of ck_RcR (mem_of m_20 (by decide)) hS_V_7 (Int32.not_le.mp h_470))
    sf_p (lay_S m_20 (by decide +kernel)) <|
    sf_crS (T := [40, 54]) m_20 (by decide +kernel) fun b_527 m_529 q_528 =>
    sf_lenE (n := 64) m_529 (by decide +kernel) <|
    sf_p (in_rg f_452 (by decide) (by decide)) <|
    sf_crS (T := [41, 55]) m_20 (by decide +kernel) fun b_531 m_533 q_532 =>
    sf_lenE (n := 64) m_533 (by decide +kernel) <|
    sf_p (in_rg f_452 (by decide) (by decide)) <|
    sf_eV (s_F_X5_plant_R hN hR hS_V_7 m_20 (rg_m f_297 (by decide) (by decide)) f_486) fun V_535 e_536 hS_V_535 =>
    s_B_X5_moveAsCvt_128_R hN hR hS_V_535 r_l1 (rg_m f_297 (by decide) (by decide)) (mem_of m_20 (by decide)) (mem_of m_20 (by decide)) (rg_m f_452 (by decide) (by decide)) f_486 f_526)
     (fun h_525 =>
    False.elim (rg_none h_525 f_17 (rg_c (x := (0 : Int32)) (n := 0) rfl)))))))))))))))))))
     (fun h_26 =>
    sf_ob (c := bo) (ref7 hS_V_7 hR rfl) <|
    sf_someb <|
    sf_let fun x_539 q_540 =>
    sf_assoc <|
    sf_iteb (fun h_550 =>
    have f_551 := (rg_hlt h_550 r_8 (rg_c (x := (0 : Int32)) (n := 0) rfl))
    sf_someb <|
    sf_pb (lay_S m_20 (by decide +kernel)) <|
    sf_iteb (fun h_552 =>
    sf_wb (hS_V_7.wc oi_RcR_69_14 (rg_m (rg_c (x := (5 : Int32)) (n := 5) rfl) (by decide) (by decide))) fun V_553 q_554 hS_V_553 =>
    sf_assoc <|
    sf_iteb (fun h_563 =>
    sf_someb <|
    sf_pb (lay_S m_20 (by decide +kernel)) <|
    sf_pb (bl_rg (rg_c (x := (0 : Int32)) (n := 0) rfl) (by decide) (by decide)) <|
    sf_someb <|
    sf_ite (fun h_564 =>
    sf_sV hS_V_553)
     (fun h_564 =>
    False.elim (rg_none h_564 (rg_c (x := (0 : Int32)) (n := 0) rfl) (rg_c (x := (0 : Int32)) (n := 0) rfl))))
     (fun h_563 =>
    False.elim (rg_nole (Int32.not_lt.mp h_563) (rg_c (x := (0 : Int32)) (n := 0) rfl) f_551 (by decide))))
     (fun h_552 =>
    False.elim (rg_none h_552 (rg_c (x := (0 : Int32)) (n := 0) rfl) (rg_c (x := (0 : Int32)) (n := 0) rfl))))
     (fun h_550 =>
    have f_565 := (rg_lle (Int32.not_lt.mp h_550) (rg_c (x := (0 : Int32)) (n := 0) rfl) r_8)
    sf_pb (lay_S m_20 (by decide +kernel)) <|
    sf_iteb (fun h_566 =>
    sf_someb <|
    sf_pb (lay_S m_20 (by decide +kernel)) <|
    sf_iteb (fun h_567 =>
    sf_wb (hS_V_7.wc oi_RcR_69_14 (rg_m (rg_c (x := (5 : Int32)) (n := 5) rfl) (by decide) (by decide))) fun V_568 q_569 hS_V_568 =>
    sf_assoc <|
    sf_iteb (fun h_578 =>
    False.elim (rg_nolt h_578 f_565 (rg_c (x := (0 : Int32)) (n := 0) rfl) (by decide)))
     (fun h_578 =>
    sf_pb (lay_S m_20 (by decide +kernel)) <|
    sf_iteb (fun h_579 =>
    sf_someb <|
    sf_pb (lay_S m_20 (by decide +kernel)) <|
    sf_pb (bl_rg (rg_c (x := (0 : Int32)) (n := 0) rfl) (by decide) (by decide)) <|
    sf_someb <|
    sf_ite (fun h_580 =>
    sf_sV hS_V_568)
     (fun h_580 =>
    False.elim (rg_none h_580 (rg_c (x := (0 : Int32)) (n := 0) rfl) (rg_c (x := (0 : Int32)) (n := 0) rfl))))
     (fun h_579 =>
    have f_581 := (rg_hlt (Int32.not_le.mp h_579) f_565 (rg_add (hS_V_568.rdS m_20 rs_RcR_3448_9_0_64) (hS_V_568.rdS m_20 rs_RcR_3448_11_0_0) (by decide) (by decide)))
    have f_582 := (rg_llt (Int32.not_le.mp h_579) f_565 (rg_add (hS_V_568.rdS m_20 rs_RcR_3448_9_0_64) (hS_V_568.rdS m_20 rs_RcR_3448_11_0_0) (by decide) (by decide)))
    have f_583 := (rg_addL f_582 (hS_V_568.rdS m_20 rs_RcR_3448_9_0_64) (hS_V_568.rdS m_20 rs_RcR_3448_11_0_0) (by decide) (by decide))
    have f_585 := (rg_hle h_566 (rg_add (hS_V_7.rdS m_20 rs_RcR_3448_9_0_64) (hS_V_7.rdS m_20 rs_RcR_3448_11_0_0) (by decide) (by decide)) f_581)
    have f_586 := (rg_addL f_585 (hS_V_7.rdS m_20 rs_RcR_3448_9_0_64) (hS_V_7.rdS m_20 rs_RcR_3448_11_0_0) (by decide) (by decide))
    sf_someb <|
    sf_pb (lay_S m_20 (by decide +kernel)) <|
    sf_pb (bl_rg (rg_c (x := (1 : Int32)) (n := 1) rfl) (by decide) (by decide)) <|
    sf_someb <|
    sf_ite (fun h_587 =>
    False.elim (rg_noeq h_587 (rg_c (x := (1 : Int32)) (n := 1) rfl) (rg_c (x := (0 : Int32)) (n := 0) rfl) (by decide)))
     (fun h_587 =>
    have f_588 := (rg_hlt (Int32.not_le.mp h_579) f_581 (rg_add (rg_i f_583 (wr_k q_569 (by decide) f_586)) (hS_V_568.rdS m_20 rs_RcR_3448_11_0_0) (by decide) (by decide)))
    sf_assoc <|
    sf_iteb (fun h_599 =>
    have f_600 := (rg_hlt h_599 rg_t (rg_c (x := (0 : Int32)) (n := 0) rfl))
    sf_someb <|
    sf_pb (lay_S hR.1 (by decide +kernel)) <|
    sf_iteb (fun h_605 =>
    sf_wb (hS_V_568.wc oi_RcR_69_14 (rg_m (rg_c (x := (5 : Int32)) (n := 5) rfl) (by decide) (by decide))) fun V_610 q_611 hS_V_610 =>
    sf_assoc <|
    sf_iteb (fun h_620 =>
    sf_someb <|
    sf_pb (lay_S hR.1 (by decide +kernel)) <|
    sf_pb (bl_rg (rg_c (x := (0 : Int32)) (n := 0) rfl) (by decide) (by decide)) <|
    sf_someb <|
    sf_ite (fun h_622 =>
    sf_sV hS_V_610)
     (fun h_622 =>
    False.elim (rg_none h_622 (rg_c (x := (0 : Int32)) (n := 0) rfl) (rg_c (x := (0 : Int32)) (n := 0) rfl))))
     (fun h_620 =>
    False.elim (rg_nole (Int32.not_lt.mp h_620) (rg_c (x := (0 : Int32)) (n := 0) rfl) f_600 (by decide))))
     (fun h_605 =>
    False.elim (rg_none h_605 (rg_c (x := (0 : Int32)) (n := 0) rfl) (rg_c (x := (0 : Int32)) (n := 0) rfl))))
     (fun h_599 =>
    have f_624 := (rg_lle (Int32.not_lt.mp h_599) (rg_c (x := (0 : Int32)) (n := 0) rfl) rg_t)
    have f_625 := (rg_hle h_566 (rg_add f_586 (hS_V_7.rdS m_20 rs_RcR_3448_11_0_0) (by decide) (by decide)) f_588)
    have f_626 := (rg_addL f_625 f_586 (hS_V_7.rdS m_20 rs_RcR_3448_11_0_0) (by decide) (by decide))
    have f_627 := (rg_hlt (Int32.not_le.mp h_579) f_588 (rg_add (rg_i (rg_i f_583 (wr_k q_569 (by decide) f_586)) (wr_k q_569 (by decide) f_626)) (hS_V_568.rdS m_20 rs_RcR_3448_11_0_0) (by decide) (by decide)))
    sf_pb (lay_S hR.1 (by decide +kernel)) <|
    sf_iteb (fun h_629 =>
    have f_630 := (rg_hle h_566 (rg_add f_626 (hS_V_7.rdS m_20 rs_RcR_3448_11_0_0) (by decide) (by decide)) f_627)
    have f_631 := (rg_addL f_630 f_626 (hS_V_7.rdS m_20 rs_RcR_3448_11_0_0) (by decide) (by decide))
    have f_632 := (rg_hlt (Int32.not_le.mp h_579) f_627 (rg_add (rg_i (rg_i (rg_i f_583 (wr_k q_569 (by decide) f_586)) (wr_k q_569 (by decide) f_626)) (wr_k q_569 (by decide) f_631)) (hS_V_568.rdS m_20 rs_RcR_3448_11_0_0) (by decide) (by decide)))
    sf_someb <|
    sf_pb (lay_S hR.1 (by decide +kernel)) <|
    sf_iteb (fun h_634 =>
    sf_wb (hS_V_568.wc oi_RcR_69_14 (rg_m (rg_c (x := (5 : Int32)) (n := 5) rfl) (by decide) (by decide))) fun V_636 q_637 hS_V_636 =>
    sf_assoc <|
    sf_iteb (fun h_646 =>
    False.elim (rg_nolt h_646 f_624 (rg_c (x := (0 : Int32)) (n := 0) rfl) (by decide)))
     (fun h_646 =>
    sf_pb (lay_S hR.1 (by decide +kernel)) <|
    sf_iteb (fun h_648 =>
    sf_someb <|
    sf_pb (lay_S hR.1 (by decide +kernel)) <|
    sf_pb (bl_rg (rg_c (x := (0 : Int32)) (n := 0) rfl) (by decide) (by decide)) <|
    sf_someb <|
    sf_ite (fun h_650 =>
    sf_sV hS_V_636)
     (fun h_650 =>
    False.elim (rg_none h_650 (rg_c (x := (0 : Int32)) (n := 0) rfl) (rg_c (x := (0 : Int32)) (n := 0) rfl))))
     (fun h_648 =>
    have f_651 := (rg_hlt (Int32.not_le.mp h_648) f_624 (rg_add (hS_V_636.rdS hR.1 rs_RcR_8293103113123133_9_0_100) (hS_V_636.rdS hR.1 rs_RcR_8293103113123133_11_0_2) (by decide) (by decide)))
    have f_654 := (cap_of ck_RcR (mem_of m_20 (by decide)) hS_V_568 (Int32.not_le.mp h_579))
    sf_someb <|
    sf_pb (lay_S hR.1 (by decide +kernel)) <|
    sf_pb (bl_rg (rg_c (x := (1 : Int32)) (n := 1) rfl) (by decide) (by decide)) <|
    sf_someb <|
    sf_ite (fun h_656 =>
    False.elim (rg_noeq h_656 (rg_c (x := (1 : Int32)) (n := 1) rfl) (rg_c (x := (0 : Int32)) (n := 0) rfl) (by decide)))
     (fun h_656 =>
    sf_o (c := bm) (ref6 hS_V_636 hR rfl) <|
    sf_iteb (fun h_661 =>
    sf_someb <|
    sf_p (lay_S hR.2.1 (by decide +kernel)) <|
    sf_ite (fun h_664 =>
    sf_w (hS_V_636.wc oi_RcR_69_14 (rg_m (rg_c (x := (6 : Int32)) (n := 6) rfl) (by decide) (by decide))) fun V_666 q_667 hS_V_666 =>
    sf_sV hS_V_666)
     (fun h_664 =>
    False.elim (rg_none h_664 (rg_c (x := (0 : Int32)) (n := 0) rfl) (rg_c (x := (0 : Int32)) (n := 0) rfl))))
     (fun h_661 =>
    have f_668 := (rg_lle (Int32.not_lt.mp h_661) (rg_c (x := (0 : Int32)) (n := 0) rfl) r_3)
    sf_pb (lay_S hR.2.1 (by decide +kernel)) <|
    sf_iteb (fun h_670 =>
    sf_someb <|
    sf_p (lay_S hR.2.1 (by decide +kernel)) <|
    sf_ite (fun h_672 =>
    sf_w (hS_V_636.wc oi_RcR_69_14 (rg_m (rg_c (x := (6 : Int32)) (n := 6) rfl) (by decide) (by decide))) fun V_674 q_675 hS_V_674 =>
    sf_sV hS_V_674)
     (fun h_672 =>
    False.elim (rg_none h_672 (rg_c (x := (0 : Int32)) (n := 0) rfl) (rg_c (x := (0 : Int32)) (n := 0) rfl))))
     (fun h_670 =>
    have f_676 := (rg_hlt (Int32.not_le.mp h_670) f_668 (hS_V_636.rdS hR.2.1 rs_RcR_3145_1_0_256))
    sf_someb <|
    sf_p (lay_S hR.2.1 (by decide +kernel)) <|
    sf_ite (fun h_679 =>
    False.elim (rg_noeq h_679 (rg_c (x := (1 : Int32)) (n := 1) rfl) (rg_c (x := (0 : Int32)) (n := 0) rfl) (by decide)))
     (fun h_679 =>
    sf_o (c := bm) (ref6 hS_V_636 hR rfl) <|
    sf_p (lay_S hR.2.1 (by decide +kernel)) <|
    sf_crS (T := [32, 46]) hR.2.1 (by decide +kernel) fun b_681 m_683 q_682 =>
    sf_lenE (n := 256) m_683 (by decide +kernel) <|
    sf_p (in_rg f_676 (by decide) (by decide)) <|
    sf_qL (s_F_X5_orSingle_R hN hR hS_V_636 (rl_m (rl_w rg_t) (by decide) (by decide))) fun x_685 r_686 =>
    sf_ite (fun h_687 =>
    have f_688 := (cap_of ck_RcR (mem_of hR.1 (by decide)) hS_V_636 (Int32.not_le.mp h_648))
    sf_p (lay_S hR.1 (by decide +kernel)) <|
    sf_crS (T := [88, 99, 109, 119, 129, 139]) hR.1 (by decide +kernel) fun b_689 m_691 q_690 =>
    sf_lenS (m := 0) m_691 (by decide +kernel) fun n_692 m_694 q_693 =>
    sf_p (in_cap f_688 f_651 (by decide) (cap_len (mem_of hR.1 (by decide)) q_690 q_693 (by decide))) <|
    sf_crS (T := [89, 100, 110, 120, 130, 140]) hR.1 (by decide +kernel) fun b_695 m_697 q_696 =>
    sf_lenS (m := 0) m_697 (by decide +kernel) fun n_698 m_700 q_699 =>
    sf_p (in_cap f_688 f_651 (by decide) (cap_len (mem_of hR.1 (by decide)) q_696 q_699 (by decide))) <|
    sf_eV (s_F_X5_plant_R hN hR hS_V_636 m_20 (rg_m f_632 (by decide) (by decide)) f_654) fun V_701 e_702 hS_V_701 =>
    s_B_X5_moveAsCvt_128_R hN hR hS_V_701 r_l1 (rg_m f_632 (by decide) (by decide)) (mem_of m_20 (by decide)) (mem_of hR.1 (by decide)) (rg_m f_651 (by decide) (by decide)) f_654 f_688)
     (fun h_687 =>
    False.elim (rg_none h_687 (wr_k q_637 (by decide) (wr_k q_569 (by decide) f_17)) (rg_c (x := (0 : Int32)) (n := 0) rfl))))))))))
     (fun h_634 =>
    False.elim (rg_none h_634 (rg_c (x := (0 : Int32)) (n := 0) rfl) (rg_c (x := (0 : Int32)) (n := 0) rfl))))
     (fun h_629 =>
    have f_704 := (rg_hlt (Int32.not_le.mp h_629) f_624 (rg_add (hS_V_568.rdS hR.1 rs_RcR_8293103113123133_9_0_100) (hS_V_568.rdS hR.1 rs_RcR_8293103113123133_11_0_2) (by decide) (by decide)))
    have f_707 := (rg_hle h_566 (rg_add f_626 (hS_V_7.rdS m_20 rs_RcR_3448_11_0_0) (by decide) (by decide)) f_627)
    have f_708 := (rg_addL f_707 f_626 (hS_V_7.rdS m_20 rs_RcR_3448_11_0_0) (by decide) (by decide))
    have f_709 := (rg_hlt (Int32.not_le.mp h_579) f_627 (rg_add (rg_i (rg_i (rg_i f_583 (wr_k q_569 (by decide) f_586)) (wr_k q_569 (by decide) f_626)) (wr_k q_569 (by decide) f_708)) (hS_V_568.rdS m_20 rs_RcR_3448_11_0_0) (by decide) (by decide)))
    sf_someb <|
    sf_pb (lay_S hR.1 (by decide +kernel)) <|
    sf_iteb (fun h_711 =>
    False.elim (rg_noeq h_711 (rg_c (x := (1 : Int32)) (n := 1) rfl) (rg_c (x := (0 : Int32)) (n := 0) rfl) (by decide)))
     (fun h_711 =>
    sf_assoc <|
    sf_iteb (fun h_722 =>
    False.elim (rg_nolt h_722 f_704 (rg_c (x := (0 : Int32)) (n := 0) rfl) (by decide)))
     (fun h_722 =>
    sf_pb (lay_S hR.1 (by decide +kernel)) <|
    sf_iteb (fun h_725 =>
    sf_someb <|
    sf_pb (lay_S hR.1 (by decide +kernel)) <|
    sf_pb (bl_rg (rg_c (x := (0 : Int32)) (n := 0) rfl) (by decide) (by decide)) <|
    sf_someb <|
    sf_ite (fun h_732 =>
    sf_sV hS_V_568)
     (fun h_732 =>
    False.elim (rg_none h_732 (rg_c (x := (0 : Int32)) (n := 0) rfl) (rg_c (x := (0 : Int32)) (n := 0) rfl))))
     (fun h_725 =>
    have f_737 := (cap_of ck_RcR (mem_of m_20 (by decide)) hS_V_568 (Int32.not_le.mp h_579))
    sf_someb <|
    sf_pb (lay_S hR.1 (by decide +kernel)) <|
    sf_pb (bl_rg (rg_c (x := (1 : Int32)) (n := 1) rfl) (by decide) (by decide)) <|
    sf_someb <|
    sf_ite (fun h_739 =>
    False.elim (rg_noeq h_739 (rg_c (x := (1 : Int32)) (n := 1) rfl) (rg_c (x := (0 : Int32)) (n := 0) rfl) (by decide)))
     (fun h_739 =>
    sf_o (c := bm) (ref6 hS_V_568 hR rfl) <|
    sf_iteb (fun h_745 =>
    sf_someb <|
    sf_p (lay_S hR.2.1 (by decide +kernel)) <|
    sf_ite (fun h_749 =>
    sf_w (hS_V_568.wc oi_RcR_69_14 (rg_m (rg_c (x := (6 : Int32)) (n := 6) rfl) (by decide) (by decide))) fun V_752 q_753 hS_V_752 =>
    sf_sV hS_V_752)
     (fun h_749 =>
    False.elim (rg_none h_749 (rg_c (x := (0 : Int32)) (n := 0) rfl) (rg_c (x := (0 : Int32)) (n := 0) rfl))))
     (fun h_745 =>
    have f_754 := (rg_lle (Int32.not_lt.mp h_745) (rg_c (x := (0 : Int32)) (n := 0) rfl) r_3)
    sf_pb (lay_S hR.2.1 (by decide +kernel)) <|
    sf_iteb (fun h_757 =>
    sf_someb <|
    sf_p (lay_S hR.2.1 (by decide +kernel)) <|
    sf_ite (fun h_760 =>
    sf_w (hS_V_568.wc oi_RcR_69_14 (rg_m (rg_c (x := (6 : Int32)) (n := 6) rfl) (by decide) (by decide))) fun V_762 q_763 hS_V_762 =>
    sf_sV hS_V_762)
     (fun h_760 =>
    False.elim (rg_none h_760 (rg_c (x := (0 : Int32)) (n := 0) rfl) (rg_c (x := (0 : Int32)) (n := 0) rfl))))
     (fun h_757 =>
    have f_764 := (rg_hlt (Int32.not_le.mp h_757) f_754 (hS_V_568.rdS hR.2.1 rs_RcR_3145_1_0_256))
    sf_someb <|
    sf_p (lay_S hR.2.1 (by decide +kernel)) <|
    sf_ite (fun h_768 =>
    False.elim (rg_noeq h_768 (rg_c (x := (1 : Int32)) (n := 1) rfl) (rg_c (x := (0 : Int32)) (n := 0) rfl) (by decide)))
     (fun h_768 =>
    sf_o (c := bm) (ref6 hS_V_568 hR rfl) <|
    sf_p (lay_S hR.2.1 (by decide +kernel)) <|
    sf_crS (T := [32, 46]) hR.2.1 (by decide +kernel) fun b_770 m_772 q_771 =>
    sf_lenE (n := 256) m_772 (by decide +kernel) <|
    sf_p (in_rg f_764 (by decide) (by decide)) <|
    sf_qL (s_F_X5_orSingle_R hN hR hS_V_568 (rl_m (rl_w rg_t) (by decide) (by decide))) fun x_774 r_775 =>
    sf_ite (fun h_776 =>
    have f_777 := (cap_of ck_RcR (mem_of hR.1 (by decide)) hS_V_568 (Int32.not_le.mp h_725))
    sf_p (lay_S hR.1 (by decide +kernel)) <|
    sf_crS (T := [88, 99, 109, 119, 129, 139]) hR.1 (by decide +kernel) fun b_778 m_780 q_779 =>
    sf_lenS (m := 0) m_780 (by decide +kernel) fun n_781 m_783 q_782 =>
    sf_p (in_cap f_777 f_704 (by decide) (cap_len (mem_of hR.1 (by decide)) q_779 q_782 (by decide))) <|
    sf_crS (T := [89, 100, 110, 120, 130, 140]) hR.1 (by decide +kernel) fun b_784 m_786 q_785 =>
    sf_lenS (m := 0) m_786 (by decide +kernel) fun n_787 m_789 q_788 =>
    sf_p (in_cap f_777 f_704 (by decide) (cap_len (mem_of hR.1 (by decide)) q_785 q_788 (by decide))) <|
    sf_eV (s_F_X5_plant_R hN hR hS_V_568 m_20 (rg_m f_709 (by decide) (by decide)) f_737) fun V_790 e_791 hS_V_790 =>
    s_B_X5_moveAsCvt_128_R hN hR hS_V_790 r_l1 (rg_m f_709 (by decide) (by decide)) (mem_of m_20 (by decide)) (mem_of hR.1 (by decide)) (rg_m f_704 (by decide) (by decide)) f_737 f_777)
     (fun h_776 =>
    False.elim (rg_none h_776 (wr_k q_569 (by decide) f_17) (rg_c (x := (0 : Int32)) (n := 0) rfl))))))))))))))))
     (fun h_567 =>
    False.elim (rg_none h_567 (rg_c (x := (0 : Int32)) (n := 0) rfl) (rg_c (x := (0 : Int32)) (n := 0) rfl))))
     (fun h_566 =>
    have f_793 := (rg_hlt (Int32.not_le.mp h_566) f_565 (rg_add (hS_V_7.rdS m_20 rs_RcR_3448_9_0_64) (hS_V_7.rdS m_20 rs_RcR_3448_11_0_0) (by decide) (by decide)))
    sf_someb <|
    sf_pb (lay_S m_20 (by decide +kernel)) <|
    sf_iteb (fun h_797 =>
    False.elim (rg_noeq h_797 (rg_c (x := (1 : Int32)) (n := 1) rfl) (rg_c (x := (0 : Int32)) (n := 0) rfl) (by decide)))
     (fun h_797 =>
    sf_assoc <|
    sf_iteb (fun h_807 =>
    False.elim (rg_nolt h_807 f_793 (rg_c (x := (0 : Int32)) (n := 0) rfl) (by decide)))
     (fun h_807 =>
    sf_pb (lay_S m_20 (by decide +kernel)) <|
    sf_iteb (fun h_809 =>
    sf_someb <|
    sf_pb (lay_S m_20 (by decide +kernel)) <|
    sf_pb (bl_rg (rg_c (x := (0 : Int32)) (n := 0) rfl) (by decide) (by decide)) <|
    sf_someb <|
    sf_ite (fun h_817 =>
    sf_sV hS_V_7)
     (fun h_817 =>
    False.elim (rg_none h_817 (rg_c (x := (0 : Int32)) (n := 0) rfl) (rg_c (x := (0 : Int32)) (n := 0) rfl))))
     (fun h_809 =>
    sf_someb <|
    sf_pb (lay_S m_20 (by decide +kernel)) <|
    sf_pb (bl_rg (rg_c (x := (1 : Int32)) (n := 1) rfl) (by decide) (by decide)) <|
    sf_someb <|
    sf_ite (fun h_824 =>
    False.elim (rg_noeq h_824 (rg_c (x := (1 : Int32)) (n := 1) rfl) (rg_c (x := (0 : Int32)) (n := 0) rfl) (by decide)))
     (fun h_824 =>
    sf_assoc <|
    sf_iteb (fun h_836 =>
    have f_837 := (rg_hlt h_836 rg_t (rg_c (x := (0 : Int32)) (n := 0) rfl))
    sf_someb <|
    sf_pb (lay_S hR.1 (by decide +kernel)) <|
    sf_iteb (fun h_840 =>
    sf_wb (hS_V_7.wc oi_RcR_69_14 (rg_m (rg_c (x := (5 : Int32)) (n := 5) rfl) (by decide) (by decide))) fun V_843 q_844 hS_V_843 =>
    sf_assoc <|
    sf_iteb (fun h_853 =>
    sf_someb <|
    sf_pb (lay_S hR.1 (by decide +kernel)) <|
    sf_pb (bl_rg (rg_c (x := (0 : Int32)) (n := 0) rfl) (by decide) (by decide)) <|
    sf_someb <|
    sf_ite (fun h_855 =>
    sf_sV hS_V_843)
     (fun h_855 =>
    False.elim (rg_none h_855 (rg_c (x := (0 : Int32)) (n := 0) rfl) (rg_c (x := (0 : Int32)) (n := 0) rfl))))
     (fun h_853 =>
    False.elim (rg_nole (Int32.not_lt.mp h_853) (rg_c (x := (0 : Int32)) (n := 0) rfl) f_837 (by decide))))
     (fun h_840 =>
    False.elim (rg_none h_840 (rg_c (x := (0 : Int32)) (n := 0) rfl) (rg_c (x := (0 : Int32)) (n := 0) rfl))))
     (fun h_836 =>
    have f_857 := (rg_lle (Int32.not_lt.mp h_836) (rg_c (x := (0 : Int32)) (n := 0) rfl) rg_t)
    sf_pb (lay_S hR.1 (by decide +kernel)) <|
    sf_iteb (fun h_860 =>
    sf_someb <|
    sf_pb (lay_S hR.1 (by decide +kernel)) <|
    sf_iteb (fun h_863 =>
    sf_wb (hS_V_7.wc oi_RcR_69_14 (rg_m (rg_c (x := (5 : Int32)) (n := 5) rfl) (by decide) (by decide))) fun V_865 q_866 hS_V_865 =>
    sf_assoc <|
    sf_iteb (fun h_875 =>
    False.elim (rg_nolt h_875 f_857 (rg_c (x := (0 : Int32)) (n := 0) rfl) (by decide)))
     (fun h_875 =>
    sf_pb (lay_S hR.1 (by decide +kernel)) <|
    sf_iteb (fun h_877 =>
    sf_someb <|
    sf_pb (lay_S hR.1 (by decide +kernel)) <|
    sf_pb (bl_rg (rg_c (x := (0 : Int32)) (n := 0) rfl) (by decide) (by decide)) <|
    sf_someb <|
    sf_ite (fun h_879 =>
    sf_sV hS_V_865)
     (fun h_879 =>
    False.elim (rg_none h_879 (rg_c (x := (0 : Int32)) (n := 0) rfl) (rg_c (x := (0 : Int32)) (n := 0) rfl))))
     (fun h_877 =>
    have f_880 := (rg_hlt (Int32.not_le.mp h_877) f_857 (rg_add (hS_V_865.rdS hR.1 rs_RcR_8293103113123133_9_0_100) (hS_V_865.rdS hR.1 rs_RcR_8293103113123133_11_0_2) (by decide) (by decide)))
    have f_883 := (cap_of ck_RcR (mem_of m_20 (by decide)) hS_V_7 (Int32.not_le.mp h_809))
    sf_someb <|
    sf_pb (lay_S hR.1 (by decide +kernel)) <|
    sf_pb (bl_rg (rg_c (x := (1 : Int32)) (n := 1) rfl) (by decide) (by decide)) <|
    sf_someb <|
    sf_ite (fun h_885 =>
    False.elim (rg_noeq h_885 (rg_c (x := (1 : Int32)) (n := 1) rfl) (rg_c (x := (0 : Int32)) (n := 0) rfl) (by decide)))
     (fun h_885 =>
    sf_o (c := bm) (ref6 hS_V_865 hR rfl) <|
    sf_iteb (fun h_890 =>
    sf_someb <|
    sf_p (lay_S hR.2.1 (by decide +kernel)) <|
    sf_ite (fun h_893 =>
    sf_w (hS_V_865.wc oi_RcR_69_14 (rg_m (rg_c (x := (6 : Int32)) (n := 6) rfl) (by decide) (by decide))) fun V_895 q_896 hS_V_895 =>
    sf_sV hS_V_895)
     (fun h_893 =>
    False.elim (rg_none h_893 (rg_c (x := (0 : Int32)) (n := 0) rfl) (rg_c (x := (0 : Int32)) (n := 0) rfl))))
     (fun h_890 =>
    have f_897 := (rg_lle (Int32.not_lt.mp h_890) (rg_c (x := (0 : Int32)) (n := 0) rfl) r_3)
    sf_pb (lay_S hR.2.1 (by decide +kernel)) <|
    sf_iteb (fun h_899 =>
    sf_someb <|
    sf_p (lay_S hR.2.1 (by decide +kernel)) <|
    sf_ite (fun h_901 =>
    sf_w (hS_V_865.wc oi_RcR_69_14 (rg_m (rg_c (x := (6 : Int32)) (n := 6) rfl) (by decide) (by decide))) fun V_903 q_904 hS_V_903 =>
    sf_sV hS_V_903)
     (fun h_901 =>
    False.elim (rg_none h_901 (rg_c (x := (0 : Int32)) (n := 0) rfl) (rg_c (x := (0 : Int32)) (n := 0) rfl))))
     (fun h_899 =>
    have f_905 := (rg_hlt (Int32.not_le.mp h_899) f_897 (hS_V_865.rdS hR.2.1 rs_RcR_3145_1_0_256))
    sf_someb <|
    sf_p (lay_S hR.2.1 (by decide +kernel)) <|
    sf_ite (fun h_908 =>
    False.elim (rg_noeq h_908 (rg_c (x := (1 : Int32)) (n := 1) rfl) (rg_c (x := (0 : Int32)) (n := 0) rfl) (by decide)))
     (fun h_908 =>
    sf_o (c := bm) (ref6 hS_V_865 hR rfl) <|
    sf_p (lay_S hR.2.1 (by decide +kernel)) <|
    sf_crS (T := [32, 46]) hR.2.1 (by decide +kernel) fun b_910 m_912 q_911 =>
    sf_lenE (n := 256) m_912 (by decide +kernel) <|
    sf_p (in_rg f_905 (by decide) (by decide)) <|
    sf_qL (s_F_X5_orSingle_R hN hR hS_V_865 (rl_m (rl_w rg_t) (by decide) (by decide))) fun x_914 r_915 =>
    sf_ite (fun h_916 =>
    have f_917 := (cap_of ck_RcR (mem_of hR.1 (by decide)) hS_V_865 (Int32.not_le.mp h_877))
    sf_p (lay_S hR.1 (by decide +kernel)) <|
    sf_crS (T := [88, 99, 109, 119, 129, 139]) hR.1 (by decide +kernel) fun b_918 m_920 q_919 =>
    sf_lenS (m := 0) m_920 (by decide +kernel) fun n_921 m_923 q_922 =>
    sf_p (in_cap f_917 f_880 (by decide) (cap_len (mem_of hR.1 (by decide)) q_919 q_922 (by decide))) <|
    sf_crS (T := [89, 100, 110, 120, 130, 140]) hR.1 (by decide +kernel) fun b_924 m_926 q_925 =>
    sf_lenS (m := 0) m_926 (by decide +kernel) fun n_927 m_929 q_928 =>
    sf_p (in_cap f_917 f_880 (by decide) (cap_len (mem_of hR.1 (by decide)) q_925 q_928 (by decide))) <|
    sf_eV (s_F_X5_plant_R hN hR hS_V_865 m_20 (rg_m f_793 (by decide) (by decide)) f_883) fun V_930 e_931 hS_V_930 =>
    s_B_X5_moveAsCvt_128_R hN hR hS_V_930 r_l1 (rg_m f_793 (by decide) (by decide)) (mem_of m_20 (by decide)) (mem_of hR.1 (by decide)) (rg_m f_880 (by decide) (by decide)) f_883 f_917)
     (fun h_916 =>
    False.elim (rg_none h_916 (wr_k q_866 (by decide) f_17) (rg_c (x := (0 : Int32)) (n := 0) rfl))))))))))
     (fun h_863 =>
    False.elim (rg_none h_863 (rg_c (x := (0 : Int32)) (n := 0) rfl) (rg_c (x := (0 : Int32)) (n := 0) rfl))))
     (fun h_860 =>
    have f_933 := (rg_hlt (Int32.not_le.mp h_860) f_857 (rg_add (hS_V_7.rdS hR.1 rs_RcR_8293103113123133_9_0_100) (hS_V_7.rdS hR.1 rs_RcR_8293103113123133_11_0_2) (by decide) (by decide)))
    sf_someb <|
    sf_pb (lay_S hR.1 (by decide +kernel)) <|
    sf_iteb (fun h_938 =>
    False.elim (rg_noeq h_938 (rg_c (x := (1 : Int32)) (n := 1) rfl) (rg_c (x := (0 : Int32)) (n := 0) rfl) (by decide)))
     (fun h_938 =>
    sf_assoc <|
    sf_iteb (fun h_949 =>
    False.elim (rg_nolt h_949 f_933 (rg_c (x := (0 : Int32)) (n := 0) rfl) (by decide)))
     (fun h_949 =>
    sf_pb (lay_S hR.1 (by decide +kernel)) <|
    sf_iteb (fun h_952 =>
    sf_someb <|
    sf_pb (lay_S hR.1 (by decide +kernel)) <|
    sf_pb (bl_rg (rg_c (x := (0 : Int32)) (n := 0) rfl) (by decide) (by decide)) <|
    sf_someb <|
    sf_ite (fun h_959 =>
    sf_sV hS_V_7)
     (fun h_959 =>
    False.elim (rg_none h_959 (rg_c (x := (0 : Int32)) (n := 0) rfl) (rg_c (x := (0 : Int32)) (n := 0) rfl))))
     (fun h_952 =>
    have f_964 := (cap_of ck_RcR (mem_of m_20 (by decide)) hS_V_7 (Int32.not_le.mp h_809))
    sf_someb <|
    sf_pb (lay_S hR.1 (by decide +kernel)) <|
    sf_pb (bl_rg (rg_c (x := (1 : Int32)) (n := 1) rfl) (by decide) (by decide)) <|
    sf_someb <|
    sf_ite (fun h_966 =>
    False.elim (rg_noeq h_966 (rg_c (x := (1 : Int32)) (n := 1) rfl) (rg_c (x := (0 : Int32)) (n := 0) rfl) (by decide)))
     (fun h_966 =>
    sf_o (c := bm) (ref6 hS_V_7 hR rfl) <|
    sf_iteb (fun h_972 =>
    sf_someb <|
    sf_p (lay_S hR.2.1 (by decide +kernel)) <|
    sf_ite (fun h_976 =>
    sf_w (hS_V_7.wc oi_RcR_69_14 (rg_m (rg_c (x := (6 : Int32)) (n := 6) rfl) (by decide) (by decide))) fun V_979 q_980 hS_V_979 =>
    sf_sV hS_V_979)
     (fun h_976 =>
    False.elim (rg_none h_976 (rg_c (x := (0 : Int32)) (n := 0) rfl) (rg_c (x := (0 : Int32)) (n := 0) rfl))))
     (fun h_972 =>
    have f_981 := (rg_lle (Int32.not_lt.mp h_972) (rg_c (x := (0 : Int32)) (n := 0) rfl) r_3)
    sf_pb (lay_S hR.2.1 (by decide +kernel)) <|
    sf_iteb (fun h_984 =>
    sf_someb <|
    sf_p (lay_S hR.2.1 (by decide +kernel)) <|
    sf_ite (fun h_987 =>
    sf_w (hS_V_7.wc oi_RcR_69_14 (rg_m (rg_c (x := (6 : Int32)) (n := 6) rfl) (by decide) (by decide))) fun V_989 q_990 hS_V_989 =>
    sf_sV hS_V_989)
     (fun h_987 =>
    False.elim (rg_none h_987 (rg_c (x := (0 : Int32)) (n := 0) rfl) (rg_c (x := (0 : Int32)) (n := 0) rfl))))
     (fun h_984 =>
    have f_991 := (rg_hlt (Int32.not_le.mp h_984) f_981 (hS_V_7.rdS hR.2.1 rs_RcR_3145_1_0_256))
    sf_someb <|
    sf_p (lay_S hR.2.1 (by decide +kernel)) <|
    sf_ite (fun h_995 =>
    False.elim (rg_noeq h_995 (rg_c (x := (1 : Int32)) (n := 1) rfl) (rg_c (x := (0 : Int32)) (n := 0) rfl) (by decide)))
     (fun h_995 =>
    sf_o (c := bm) (ref6 hS_V_7 hR rfl) <|
    sf_p (lay_S hR.2.1 (by decide +kernel)) <|
    sf_crS (T := [32, 46]) hR.2.1 (by decide +kernel) fun b_997 m_999 q_998 =>
    sf_lenE (n := 256) m_999 (by decide +kernel) <|
    sf_p (in_rg f_991 (by decide) (by decide)) <|
    sf_qL (s_F_X5_orSingle_R hN hR hS_V_7 (rl_m (rl_w rg_t) (by decide) (by decide))) fun x_1001 r_1002 =>
    sf_ite (fun h_1003 =>
    have f_1004 := (cap_of ck_RcR (mem_of hR.1 (by decide)) hS_V_7 (Int32.not_le.mp h_952))
    sf_p (lay_S hR.1 (by decide +kernel)) <|
    sf_crS (T := [88, 99, 109, 119, 129, 139]) hR.1 (by decide +kernel) fun b_1005 m_1007 q_1006 =>
    sf_lenS (m := 0) m_1007 (by decide +kernel) fun n_1008 m_1010 q_1009 =>
    sf_p (in_cap f_1004 f_933 (by decide) (cap_len (mem_of hR.1 (by decide)) q_1006 q_1009 (by decide))) <|
    sf_crS (T := [89, 100, 110, 120, 130, 140]) hR.1 (by decide +kernel) fun b_1011 m_1013 q_1012 =>
    sf_lenS (m := 0) m_1013 (by decide +kernel) fun n_1014 m_1016 q_1015 =>
    sf_p (in_cap f_1004 f_933 (by decide) (cap_len (mem_of hR.1 (by decide)) q_1012 q_1015 (by decide))) <|
    sf_eV (s_F_X5_plant_R hN hR hS_V_7 m_20 (rg_m f_793 (by decide) (by decide)) f_964) fun V_1017 e_1018 hS_V_1017 =>
    s_B_X5_moveAsCvt_128_R hN hR hS_V_1017 r_l1 (rg_m f_793 (by decide) (by decide)) (mem_of m_20 (by decide)) (mem_of hR.1 (by decide)) (rg_m f_933 (by decide) (by decide)) f_964 f_1004)
     (fun h_1003 =>
    False.elim (rg_none h_1003 f_17 (rg_c (x := (0 : Int32)) (n := 0) rfl))))))))))))))))))))
     (fun h_16 =>
    have f_1020 := (rg_nel h_16 (hS_V_7.rd r_RcR_72_1) (rg_c (x := (0 : Int32)) (n := 0) rfl))
    sf_ob (c := bo) (ref7 hS_V_7 hR rfl) <|
    sf_someb <|
    sf_pb (in_rg (rg_c (x := (0 : Int32)) (n := 0) rfl) (by decide) (by decide)) <|
    sf_iteb (fun h_1026 =>
    sf_ob (c := bm) (ref6 hS_V_7 hR rfl) <|
    sf_pb (lay_S hR.2.1 (by decide +kernel)) <|
    sf_assoc <|
    sf_crS (T := [34, 48]) hR.2.1 (by decide +kernel) fun b_1028 m_1030 q_1029 =>
    sf_someb <|
    sf_let fun x_1031 q_1032 =>
    sf_assoc <|
    sf_iteb (fun h_1042 =>
    have f_1043 := (rg_hlt h_1042 r_8 (rg_c (x := (0 : Int32)) (n := 0) rfl))
    sf_someb <|
    sf_pb (lay_S hR.1 (by decide +kernel)) <|
    sf_iteb (fun h_1044 =>
    sf_wb (hS_V_7.wc oi_RcR_69_14 (rg_m (rg_c (x := (5 : Int32)) (n := 5) rfl) (by decide) (by decide))) fun V_1045 q_1046 hS_V_1045 =>
    sf_assoc <|
    sf_iteb (fun h_1055 =>
    sf_someb <|
    sf_pb (lay_S hR.1 (by decide +kernel)) <|
    sf_pb (bl_rg (rg_c (x := (0 : Int32)) (n := 0) rfl) (by decide) (by decide)) <|
    sf_someb <|
    sf_ite (fun h_1056 =>
    sf_sV hS_V_1045)
     (fun h_1056 =>
    False.elim (rg_none h_1056 (rg_c (x := (0 : Int32)) (n := 0) rfl) (rg_c (x := (0 : Int32)) (n := 0) rfl))))
     (fun h_1055 =>
    False.elim (rg_nole (Int32.not_lt.mp h_1055) (rg_c (x := (0 : Int32)) (n := 0) rfl) f_1043 (by decide))))
     (fun h_1044 =>
    False.elim (rg_none h_1044 (rg_c (x := (0 : Int32)) (n := 0) rfl) (rg_c (x := (0 : Int32)) (n := 0) rfl))))
     (fun h_1042 =>
    have f_1057 := (rg_lle (Int32.not_lt.mp h_1042) (rg_c (x := (0 : Int32)) (n := 0) rfl) r_8)
    sf_pb (lay_S hR.1 (by decide +kernel)) <|
    sf_iteb (fun h_1058 =>
    sf_someb <|
    sf_pb (lay_S hR.1 (by decide +kernel)) <|
    sf_iteb (fun h_1059 =>
    sf_wb (hS_V_7.wc oi_RcR_69_14 (rg_m (rg_c (x := (5 : Int32)) (n := 5) rfl) (by decide) (by decide))) fun V_1060 q_1061 hS_V_1060 =>
    sf_assoc <|
    sf_iteb (fun h_1070 =>
    False.elim (rg_nolt h_1070 f_1057 (rg_c (x := (0 : Int32)) (n := 0) rfl) (by decide)))
     (fun h_1070 =>
    sf_pb (lay_S hR.1 (by decide +kernel)) <|
    sf_iteb (fun h_1071 =>
    sf_someb <|
    sf_pb (lay_S hR.1 (by decide +kernel)) <|
    sf_pb (bl_rg (rg_c (x := (0 : Int32)) (n := 0) rfl) (by decide) (by decide)) <|
    sf_someb <|
    sf_ite (fun h_1072 =>
    sf_sV hS_V_1060)
     (fun h_1072 =>
    False.elim (rg_none h_1072 (rg_c (x := (0 : Int32)) (n := 0) rfl) (rg_c (x := (0 : Int32)) (n := 0) rfl))))
     (fun h_1071 =>
    have f_1073 := (rg_hlt (Int32.not_le.mp h_1071) f_1057 (rg_add (hS_V_1060.rdS hR.1 rs_RcR_8293103113123133_9_0_100) (hS_V_1060.rdS hR.1 rs_RcR_8293103113123133_11_0_2) (by decide) (by decide)))
    sf_someb <|
    sf_pb (lay_S hR.1 (by decide +kernel)) <|
    sf_pb (bl_rg (rg_c (x := (1 : Int32)) (n := 1) rfl) (by decide) (by decide)) <|
    sf_someb <|
    sf_ite (fun h_1077 =>
    False.elim (rg_noeq h_1077 (rg_c (x := (1 : Int32)) (n := 1) rfl) (rg_c (x := (0 : Int32)) (n := 0) rfl) (by decide)))
     (fun h_1077 =>
    sf_assoc <|
    sf_iteb (fun h_1088 =>
    have f_1089 := (rg_hlt h_1088 rg_t (rg_c (x := (0 : Int32)) (n := 0) rfl))
    sf_someb <|
    sf_pb (lay_S m_1030 (by decide +kernel)) <|
    sf_iteb (fun h_1091 =>
    sf_wb (hS_V_1060.wc oi_RcR_69_14 (rg_m (rg_c (x := (5 : Int32)) (n := 5) rfl) (by decide) (by decide))) fun V_1093 q_1094 hS_V_1093 =>
    sf_assoc <|
    sf_iteb (fun h_1103 =>
    sf_someb <|
    sf_pb (lay_S m_1030 (by decide +kernel)) <|
    sf_pb (bl_rg (rg_c (x := (0 : Int32)) (n := 0) rfl) (by decide) (by decide)) <|
    sf_someb <|
    sf_ite (fun h_1105 =>
    sf_sV hS_V_1093)
     (fun h_1105 =>
    False.elim (rg_none h_1105 (rg_c (x := (0 : Int32)) (n := 0) rfl) (rg_c (x := (0 : Int32)) (n := 0) rfl))))
     (fun h_1103 =>
    False.elim (rg_nole (Int32.not_lt.mp h_1103) (rg_c (x := (0 : Int32)) (n := 0) rfl) f_1089 (by decide))))
     (fun h_1091 =>
    False.elim (rg_none h_1091 (rg_c (x := (0 : Int32)) (n := 0) rfl) (rg_c (x := (0 : Int32)) (n := 0) rfl))))
     (fun h_1088 =>
    have f_1107 := (rg_lle (Int32.not_lt.mp h_1088) (rg_c (x := (0 : Int32)) (n := 0) rfl) rg_t)
    sf_pb (lay_S m_1030 (by decide +kernel)) <|
    sf_iteb (fun h_1109 =>
    sf_someb <|
    sf_pb (lay_S m_1030 (by decide +kernel)) <|
    sf_iteb (fun h_1111 =>
    sf_wb (hS_V_1060.wc oi_RcR_69_14 (rg_m (rg_c (x := (5 : Int32)) (n := 5) rfl) (by decide) (by decide))) fun V_1113 q_1114 hS_V_1113 =>
    sf_assoc <|
    sf_iteb (fun h_1123 =>
    False.elim (rg_nolt h_1123 f_1107 (rg_c (x := (0 : Int32)) (n := 0) rfl) (by decide)))
     (fun h_1123 =>
    sf_pb (lay_S m_1030 (by decide +kernel)) <|
    sf_iteb (fun h_1125 =>
    sf_someb <|
    sf_pb (lay_S m_1030 (by decide +kernel)) <|
    sf_pb (bl_rg (rg_c (x := (0 : Int32)) (n := 0) rfl) (by decide) (by decide)) <|
    sf_someb <|
    sf_ite (fun h_1127 =>
    sf_sV hS_V_1113)
     (fun h_1127 =>
    False.elim (rg_none h_1127 (rg_c (x := (0 : Int32)) (n := 0) rfl) (rg_c (x := (0 : Int32)) (n := 0) rfl))))
     (fun h_1125 =>
    have f_1128 := (rg_hlt (Int32.not_le.mp h_1125) f_1107 (rg_add (hS_V_1113.rdS m_1030 rs_RcR_3448_9_0_64) (hS_V_1113.rdS m_1030 rs_RcR_3448_11_0_0) (by decide) (by decide)))
    have f_1129 := (rg_llt (Int32.not_le.mp h_1125) f_1107 (rg_add (hS_V_1113.rdS m_1030 rs_RcR_3448_9_0_64) (hS_V_1113.rdS m_1030 rs_RcR_3448_11_0_0) (by decide) (by decide)))
    have f_1130 := (rg_addL f_1129 (hS_V_1113.rdS m_1030 rs_RcR_3448_9_0_64) (hS_V_1113.rdS m_1030 rs_RcR_3448_11_0_0) (by decide) (by decide))
    have f_1132 := (cap_of ck_RcR (mem_of hR.1 (by decide)) hS_V_1060 (Int32.not_le.mp h_1071))
    have f_1133 := (rg_hle h_1109 (rg_add (hS_V_1060.rdS m_1030 rs_RcR_3448_9_0_64) (hS_V_1060.rdS m_1030 rs_RcR_3448_11_0_0) (by decide) (by decide)) f_1128)
    have f_1134 := (rg_addL f_1133 (hS_V_1060.rdS m_1030 rs_RcR_3448_9_0_64) (hS_V_1060.rdS m_1030 rs_RcR_3448_11_0_0) (by decide) (by decide))
    sf_someb <|
    sf_pb (lay_S m_1030 (by decide +kernel)) <|
    sf_pb (bl_rg (rg_c (x := (1 : Int32)) (n := 1) rfl) (by decide) (by decide)) <|
    sf_someb <|
    sf_ite (fun h_1135 =>
    False.elim (rg_noeq h_1135 (rg_c (x := (1 : Int32)) (n := 1) rfl) (rg_c (x := (0 : Int32)) (n := 0) rfl) (by decide)))
     (fun h_1135 =>
    have f_1136 := (rg_hlt (Int32.not_le.mp h_1125) f_1128 (rg_add (rg_i f_1130 (wr_k q_1114 (by decide) f_1134)) (hS_V_1113.rdS m_1030 rs_RcR_3448_11_0_0) (by decide) (by decide)))
    sf_o (c := bm) (ref6 hS_V_1113 hR rfl) <|
    sf_iteb (fun h_1141 =>
    sf_someb <|
    sf_p (lay_S hR.2.1 (by decide +kernel)) <|
    sf_ite (fun h_1147 =>
    sf_w (hS_V_1113.wc oi_RcR_69_14 (rg_m (rg_c (x := (6 : Int32)) (n := 6) rfl) (by decide) (by decide))) fun V_1152 q_1153 hS_V_1152 =>
    sf_sV hS_V_1152)
     (fun h_1147 =>
    False.elim (rg_none h_1147 (rg_c (x := (0 : Int32)) (n := 0) rfl) (rg_c (x := (0 : Int32)) (n := 0) rfl))))
     (fun h_1141 =>
    have f_1154 := (rg_lle (Int32.not_lt.mp h_1141) (rg_c (x := (0 : Int32)) (n := 0) rfl) r_3)
    have f_1155 := (rg_hle h_1109 (rg_add f_1134 (hS_V_1060.rdS m_1030 rs_RcR_3448_11_0_0) (by decide) (by decide)) f_1136)
    have f_1156 := (rg_addL f_1155 f_1134 (hS_V_1060.rdS m_1030 rs_RcR_3448_11_0_0) (by decide) (by decide))
    have f_1157 := (rg_hlt (Int32.not_le.mp h_1125) f_1136 (rg_add (rg_i (rg_i f_1130 (wr_k q_1114 (by decide) f_1134)) (wr_k q_1114 (by decide) f_1156)) (hS_V_1113.rdS m_1030 rs_RcR_3448_11_0_0) (by decide) (by decide)))
    sf_pb (lay_S hR.2.1 (by decide +kernel)) <|
    sf_iteb (fun h_1159 =>
    sf_someb <|
    sf_p (lay_S hR.2.1 (by decide +kernel)) <|
    sf_ite (fun h_1164 =>
    sf_w (hS_V_1113.wc oi_RcR_69_14 (rg_m (rg_c (x := (6 : Int32)) (n := 6) rfl) (by decide) (by decide))) fun V_1166 q_1167 hS_V_1166 =>
    sf_sV hS_V_1166)
     (fun h_1164 =>
    False.elim (rg_none h_1164 (rg_c (x := (0 : Int32)) (n := 0) rfl) (rg_c (x := (0 : Int32)) (n := 0) rfl))))
     (fun h_1159 =>
    have f_1168 := (rg_hlt (Int32.not_le.mp h_1159) f_1154 (hS_V_1113.rdS hR.2.1 rs_RcR_3145_1_0_256))
    have f_1170 := (rg_hle h_1109 (rg_add f_1156 (hS_V_1060.rdS m_1030 rs_RcR_3448_11_0_0) (by decide) (by decide)) f_1157)
    have f_1171 := (rg_addL f_1170 f_1156 (hS_V_1060.rdS m_1030 rs_RcR_3448_11_0_0) (by decide) (by decide))
    have f_1172 := (rg_hlt (Int32.not_le.mp h_1125) f_1157 (rg_add (rg_i (rg_i (rg_i f_1130 (wr_k q_1114 (by decide) f_1134)) (wr_k q_1114 (by decide) f_1156)) (wr_k q_1114 (by decide) f_1171)) (hS_V_1113.rdS m_1030 rs_RcR_3448_11_0_0) (by decide) (by decide)))
    sf_someb <|
    sf_p (lay_S hR.2.1 (by decide +kernel)) <|
    sf_ite (fun h_1174 =>
    False.elim (rg_noeq h_1174 (rg_c (x := (1 : Int32)) (n := 1) rfl) (rg_c (x := (0 : Int32)) (n := 0) rfl) (by decide)))
     (fun h_1174 =>
    sf_o (c := bm) (ref6 hS_V_1113 hR rfl) <|
    sf_p (lay_S hR.2.1 (by decide +kernel)) <|
    sf_crS (T := [32, 46]) hR.2.1 (by decide +kernel) fun b_1176 m_1178 q_1177 =>
    sf_lenE (n := 256) m_1178 (by decide +kernel) <|
    sf_p (in_rg f_1168 (by decide) (by decide)) <|
    sf_qL (s_F_X5_orSingle_R hN hR hS_V_1113 (rl_m (rl_w rg_t) (by decide) (by decide))) fun x_1180 r_1181 =>
    sf_ite (fun h_1182 =>
    False.elim (rg_noeq h_1182 (wr_k q_1114 (by decide) (wr_k q_1061 (by decide) f_1020)) (rg_c (x := (0 : Int32)) (n := 0) rfl) (by decide)))
     (fun h_1182 =>
    have f_1183 := (cap_of ck_RcR (mem_of m_1030 (by decide)) hS_V_1113 (Int32.not_le.mp h_1125))
    s_B_X5_moveAsCvt_128_R hN hR hS_V_1113 r_l1 (rg_m f_1073 (by decide) (by decide)) (mem_of hR.1 (by decide)) (mem_of m_1030 (by decide)) (rg_m f_1172 (by decide) (by decide)) f_1132 f_1183))))))))
     (fun h_1111 =>
    False.elim (rg_none h_1111 (rg_c (x := (0 : Int32)) (n := 0) rfl) (rg_c (x := (0 : Int32)) (n := 0) rfl))))
     (fun h_1109 =>
    have f_1184 := (rg_hlt (Int32.not_le.mp h_1109) f_1107 (rg_add (hS_V_1060.rdS m_1030 rs_RcR_3448_9_0_64) (hS_V_1060.rdS m_1030 rs_RcR_3448_11_0_0) (by decide) (by decide)))
    sf_someb <|
    sf_pb (lay_S m_1030 (by decide +kernel)) <|
    sf_iteb (fun h_1189 =>
    False.elim (rg_noeq h_1189 (rg_c (x := (1 : Int32)) (n := 1) rfl) (rg_c (x := (0 : Int32)) (n := 0) rfl) (by decide)))
     (fun h_1189 =>
    sf_assoc <|
    sf_iteb (fun h_1200 =>
    False.elim (rg_nolt h_1200 f_1184 (rg_c (x := (0 : Int32)) (n := 0) rfl) (by decide)))
     (fun h_1200 =>
    sf_pb (lay_S m_1030 (by decide +kernel)) <|
    sf_iteb (fun h_1203 =>
    sf_someb <|
    sf_pb (lay_S m_1030 (by decide +kernel)) <|
    sf_pb (bl_rg (rg_c (x := (0 : Int32)) (n := 0) rfl) (by decide) (by decide)) <|
    sf_someb <|
    sf_ite (fun h_1212 =>
    sf_sV hS_V_1060)
     (fun h_1212 =>
    False.elim (rg_none h_1212 (rg_c (x := (0 : Int32)) (n := 0) rfl) (rg_c (x := (0 : Int32)) (n := 0) rfl))))
     (fun h_1203 =>
    have f_1218 := (cap_of ck_RcR (mem_of hR.1 (by decide)) hS_V_1060 (Int32.not_le.mp h_1071))
    sf_someb <|
    sf_pb (lay_S m_1030 (by decide +kernel)) <|
    sf_pb (bl_rg (rg_c (x := (1 : Int32)) (n := 1) rfl) (by decide) (by decide)) <|
    sf_someb <|
    sf_ite (fun h_1220 =>
    False.elim (rg_noeq h_1220 (rg_c (x := (1 : Int32)) (n := 1) rfl) (rg_c (x := (0 : Int32)) (n := 0) rfl) (by decide)))
     (fun h_1220 =>
    sf_o (c := bm) (ref6 hS_V_1060 hR rfl) <|
    sf_iteb (fun h_1226 =>
    sf_someb <|
    sf_p (lay_S hR.2.1 (by decide +kernel)) <|
    sf_ite (fun h_1230 =>
    sf_w (hS_V_1060.wc oi_RcR_69_14 (rg_m (rg_c (x := (6 : Int32)) (n := 6) rfl) (by decide) (by decide))) fun V_1233 q_1234 hS_V_1233 =>
    sf_sV hS_V_1233)
     (fun h_1230 =>
    False.elim (rg_none h_1230 (rg_c (x := (0 : Int32)) (n := 0) rfl) (rg_c (x := (0 : Int32)) (n := 0) rfl))))
     (fun h_1226 =>
    have f_1235 := (rg_lle (Int32.not_lt.mp h_1226) (rg_c (x := (0 : Int32)) (n := 0) rfl) r_3)
    sf_pb (lay_S hR.2.1 (by decide +kernel)) <|
    sf_iteb (fun h_1238 =>
    sf_someb <|
    sf_p (lay_S hR.2.1 (by decide +kernel)) <|
    sf_ite (fun h_1241 =>
    sf_w (hS_V_1060.wc oi_RcR_69_14 (rg_m (rg_c (x := (6 : Int32)) (n := 6) rfl) (by decide) (by decide))) fun V_1243 q_1244 hS_V_1243 =>
    sf_sV hS_V_1243)
     (fun h_1241 =>
    False.elim (rg_none h_1241 (rg_c (x := (0 : Int32)) (n := 0) rfl) (rg_c (x := (0 : Int32)) (n := 0) rfl))))
     (fun h_1238 =>
    have f_1245 := (rg_hlt (Int32.not_le.mp h_1238) f_1235 (hS_V_1060.rdS hR.2.1 rs_RcR_3145_1_0_256))
    sf_someb <|
    sf_p (lay_S hR.2.1 (by decide +kernel)) <|
    sf_ite (fun h_1249 =>
    False.elim (rg_noeq h_1249 (rg_c (x := (1 : Int32)) (n := 1) rfl) (rg_c (x := (0 : Int32)) (n := 0) rfl) (by decide)))
     (fun h_1249 =>
    sf_o (c := bm) (ref6 hS_V_1060 hR rfl) <|
    sf_p (lay_S hR.2.1 (by decide +kernel)) <|
    sf_crS (T := [32, 46]) hR.2.1 (by decide +kernel) fun b_1251 m_1253 q_1252 =>
    sf_lenE (n := 256) m_1253 (by decide +kernel) <|
    sf_p (in_rg f_1245 (by decide) (by decide)) <|
    sf_qL (s_F_X5_orSingle_R hN hR hS_V_1060 (rl_m (rl_w rg_t) (by decide) (by decide))) fun x_1255 r_1256 =>
    sf_ite (fun h_1257 =>
    False.elim (rg_noeq h_1257 (wr_k q_1061 (by decide) f_1020) (rg_c (x := (0 : Int32)) (n := 0) rfl) (by decide)))
     (fun h_1257 =>
    have f_1258 := (cap_of ck_RcR (mem_of m_1030 (by decide)) hS_V_1060 (Int32.not_le.mp h_1203))
    s_B_X5_moveAsCvt_128_R hN hR hS_V_1060 r_l1 (rg_m f_1073 (by decide) (by decide)) (mem_of hR.1 (by decide)) (mem_of m_1030 (by decide)) (rg_m f_1184 (by decide) (by decide)) f_1218 f_1258))))))))))))))
     (fun h_1059 =>
    False.elim (rg_none h_1059 (rg_c (x := (0 : Int32)) (n := 0) rfl) (rg_c (x := (0 : Int32)) (n := 0) rfl))))
     (fun h_1058 =>
    have f_1259 := (rg_hlt (Int32.not_le.mp h_1058) f_1057 (rg_add (hS_V_7.rdS hR.1 rs_RcR_8293103113123133_9_0_100) (hS_V_7.rdS hR.1 rs_RcR_8293103113123133_11_0_2) (by decide) (by decide)))
    sf_someb <|
    sf_pb (lay_S hR.1 (by decide +kernel)) <|
    sf_iteb (fun h_1262 =>
    False.elim (rg_noeq h_1262 (rg_c (x := (1 : Int32)) (n := 1) rfl) (rg_c (x := (0 : Int32)) (n := 0) rfl) (by decide)))
     (fun h_1262 =>
    sf_assoc <|
    sf_iteb (fun h_1272 =>
    False.elim (rg_nolt h_1272 f_1259 (rg_c (x := (0 : Int32)) (n := 0) rfl) (by decide)))
     (fun h_1272 =>
    sf_pb (lay_S hR.1 (by decide +kernel)) <|
    sf_iteb (fun h_1274 =>
    sf_someb <|
    sf_pb (lay_S hR.1 (by decide +kernel)) <|
    sf_pb (bl_rg (rg_c (x := (0 : Int32)) (n := 0) rfl) (by decide) (by decide)) <|
    sf_someb <|
    sf_ite (fun h_1280 =>
    sf_sV hS_V_7)
     (fun h_1280 =>
    False.elim (rg_none h_1280 (rg_c (x := (0 : Int32)) (n := 0) rfl) (rg_c (x := (0 : Int32)) (n := 0) rfl))))
     (fun h_1274 =>
    sf_someb <|
    sf_pb (lay_S hR.1 (by decide +kernel)) <|
    sf_pb (bl_rg (rg_c (x := (1 : Int32)) (n := 1) rfl) (by decide) (by decide)) <|
    sf_someb <|
    sf_ite (fun h_1286 =>
    False.elim (rg_noeq h_1286 (rg_c (x := (1 : Int32)) (n := 1) rfl) (rg_c (x := (0 : Int32)) (n := 0) rfl) (by decide)))
     (fun h_1286 =>
    sf_assoc <|
    sf_iteb (fun h_1298 =>
    have f_1299 := (rg_hlt h_1298 rg_t (rg_c (x := (0 : Int32)) (n := 0) rfl))
    sf_someb <|
    sf_pb (lay_S m_1030 (by decide +kernel)) <|
    sf_iteb (fun h_1302 =>
    sf_wb (hS_V_7.wc oi_RcR_69_14 (rg_m (rg_c (x := (5 : Int32)) (n := 5) rfl) (by decide) (by decide))) fun V_1305 q_1306 hS_V_1305 =>
    sf_assoc <|
    sf_iteb (fun h_1315 =>
    sf_someb <|
    sf_pb (lay_S m_1030 (by decide +kernel)) <|
    sf_pb (bl_rg (rg_c (x := (0 : Int32)) (n := 0) rfl) (by decide) (by decide)) <|
    sf_someb <|
    sf_ite (fun h_1317 =>
    sf_sV hS_V_1305)
     (fun h_1317 =>
    False.elim (rg_none h_1317 (rg_c (x := (0 : Int32)) (n := 0) rfl) (rg_c (x := (0 : Int32)) (n := 0) rfl))))
     (fun h_1315 =>
    False.elim (rg_nole (Int32.not_lt.mp h_1315) (rg_c (x := (0 : Int32)) (n := 0) rfl) f_1299 (by decide))))
     (fun h_1302 =>
    False.elim (rg_none h_1302 (rg_c (x := (0 : Int32)) (n := 0) rfl) (rg_c (x := (0 : Int32)) (n := 0) rfl))))
     (fun h_1298 =>
    have f_1319 := (rg_lle (Int32.not_lt.mp h_1298) (rg_c (x := (0 : Int32)) (n := 0) rfl) rg_t)
    sf_pb (lay_S m_1030 (by decide +kernel)) <|
    sf_iteb (fun h_1322 =>
    sf_someb <|
    sf_pb (lay_S m_1030 (by decide +kernel)) <|
    sf_iteb (fun h_1325 =>
    sf_wb (hS_V_7.wc oi_RcR_69_14 (rg_m (rg_c (x := (5 : Int32)) (n := 5) rfl) (by decide) (by decide))) fun V_1327 q_1328 hS_V_1327 =>
    sf_assoc <|
    sf_iteb (fun h_1337 =>
    False.elim (rg_nolt h_1337 f_1319 (rg_c (x := (0 : Int32)) (n := 0) rfl) (by decide)))
     (fun h_1337 =>
    sf_pb (lay_S m_1030 (by decide +kernel)) <|
    sf_iteb (fun h_1339 =>
    sf_someb <|
    sf_pb (lay_S m_1030 (by decide +kernel)) <|
    sf_pb (bl_rg (rg_c (x := (0 : Int32)) (n := 0) rfl) (by decide) (by decide)) <|
    sf_someb <|
    sf_ite (fun h_1341 =>
    sf_sV hS_V_1327)
     (fun h_1341 =>
    False.elim (rg_none h_1341 (rg_c (x := (0 : Int32)) (n := 0) rfl) (rg_c (x := (0 : Int32)) (n := 0) rfl))))
     (fun h_1339 =>
    have f_1342 := (rg_hlt (Int32.not_le.mp h_1339) f_1319 (rg_add (hS_V_1327.rdS m_1030 rs_RcR_3448_9_0_64) (hS_V_1327.rdS m_1030 rs_RcR_3448_11_0_0) (by decide) (by decide)))
    have f_1343 := (rg_llt (Int32.not_le.mp h_1339) f_1319 (rg_add (hS_V_1327.rdS m_1030 rs_RcR_3448_9_0_64) (hS_V_1327.rdS m_1030 rs_RcR_3448_11_0_0) (by decide) (by decide)))
    have f_1344 := (rg_addL f_1343 (hS_V_1327.rdS m_1030 rs_RcR_3448_9_0_64) (hS_V_1327.rdS m_1030 rs_RcR_3448_11_0_0) (by decide) (by decide))
    have f_1346 := (cap_of ck_RcR (mem_of hR.1 (by decide)) hS_V_7 (Int32.not_le.mp h_1274))
    have f_1347 := (rg_hle h_1322 (rg_add (hS_V_7.rdS m_1030 rs_RcR_3448_9_0_64) (hS_V_7.rdS m_1030 rs_RcR_3448_11_0_0) (by decide) (by decide)) f_1342)
    have f_1348 := (rg_addL f_1347 (hS_V_7.rdS m_1030 rs_RcR_3448_9_0_64) (hS_V_7.rdS m_1030 rs_RcR_3448_11_0_0) (by decide) (by decide))
    sf_someb <|
    sf_pb (lay_S m_1030 (by decide +kernel)) <|
    sf_pb (bl_rg (rg_c (x := (1 : Int32)) (n := 1) rfl) (by decide) (by decide)) <|
    sf_someb <|
    sf_ite (fun h_1349 =>
    False.elim (rg_noeq h_1349 (rg_c (x := (1 : Int32)) (n := 1) rfl) (rg_c (x := (0 : Int32)) (n := 0) rfl) (by decide)))
     (fun h_1349 =>
    have f_1350 := (rg_hlt (Int32.not_le.mp h_1339) f_1342 (rg_add (rg_i f_1344 (wr_k q_1328 (by decide) f_1348)) (hS_V_1327.rdS m_1030 rs_RcR_3448_11_0_0) (by decide) (by decide)))
    sf_o (c := bm) (ref6 hS_V_1327 hR rfl) <|
    sf_iteb (fun h_1355 =>
    sf_someb <|
    sf_p (lay_S hR.2.1 (by decide +kernel)) <|
    sf_ite (fun h_1361 =>
    sf_w (hS_V_1327.wc oi_RcR_69_14 (rg_m (rg_c (x := (6 : Int32)) (n := 6) rfl) (by decide) (by decide))) fun V_1366 q_1367 hS_V_1366 =>
    sf_sV hS_V_1366)
     (fun h_1361 =>
    False.elim (rg_none h_1361 (rg_c (x := (0 : Int32)) (n := 0) rfl) (rg_c (x := (0 : Int32)) (n := 0) rfl))))
     (fun h_1355 =>
    have f_1368 := (rg_lle (Int32.not_lt.mp h_1355) (rg_c (x := (0 : Int32)) (n := 0) rfl) r_3)
    have f_1369 := (rg_hle h_1322 (rg_add f_1348 (hS_V_7.rdS m_1030 rs_RcR_3448_11_0_0) (by decide) (by decide)) f_1350)
    have f_1370 := (rg_addL f_1369 f_1348 (hS_V_7.rdS m_1030 rs_RcR_3448_11_0_0) (by decide) (by decide))
    have f_1371 := (rg_hlt (Int32.not_le.mp h_1339) f_1350 (rg_add (rg_i (rg_i f_1344 (wr_k q_1328 (by decide) f_1348)) (wr_k q_1328 (by decide) f_1370)) (hS_V_1327.rdS m_1030 rs_RcR_3448_11_0_0) (by decide) (by decide)))
    sf_pb (lay_S hR.2.1 (by decide +kernel)) <|
    sf_iteb (fun h_1373 =>
    sf_someb <|
    sf_p (lay_S hR.2.1 (by decide +kernel)) <|
    sf_ite (fun h_1378 =>
    sf_w (hS_V_1327.wc oi_RcR_69_14 (rg_m (rg_c (x := (6 : Int32)) (n := 6) rfl) (by decide) (by decide))) fun V_1380 q_1381 hS_V_1380 =>
    sf_sV hS_V_1380)
     (fun h_1378 =>
    False.elim (rg_none h_1378 (rg_c (x := (0 : Int32)) (n := 0) rfl) (rg_c (x := (0 : Int32)) (n := 0) rfl))))
     (fun h_1373 =>
    have f_1382 := (rg_hlt (Int32.not_le.mp h_1373) f_1368 (hS_V_1327.rdS hR.2.1 rs_RcR_3145_1_0_256))
    have f_1384 := (rg_hle h_1322 (rg_add f_1370 (hS_V_7.rdS m_1030 rs_RcR_3448_11_0_0) (by decide) (by decide)) f_1371)
    have f_1385 := (rg_addL f_1384 f_1370 (hS_V_7.rdS m_1030 rs_RcR_3448_11_0_0) (by decide) (by decide))
    have f_1386 := (rg_hlt (Int32.not_le.mp h_1339) f_1371 (rg_add (rg_i (rg_i (rg_i f_1344 (wr_k q_1328 (by decide) f_1348)) (wr_k q_1328 (by decide) f_1370)) (wr_k q_1328 (by decide) f_1385)) (hS_V_1327.rdS m_1030 rs_RcR_3448_11_0_0) (by decide) (by decide)))
    sf_someb <|
    sf_p (lay_S hR.2.1 (by decide +kernel)) <|
    sf_ite (fun h_1388 =>
    False.elim (rg_noeq h_1388 (rg_c (x := (1 : Int32)) (n := 1) rfl) (rg_c (x := (0 : Int32)) (n := 0) rfl) (by decide)))
     (fun h_1388 =>
    sf_o (c := bm) (ref6 hS_V_1327 hR rfl) <|
    sf_p (lay_S hR.2.1 (by decide +kernel)) <|
    sf_crS (T := [32, 46]) hR.2.1 (by decide +kernel) fun b_1390 m_1392 q_1391 =>
    sf_lenE (n := 256) m_1392 (by decide +kernel) <|
    sf_p (in_rg f_1382 (by decide) (by decide)) <|
    sf_qL (s_F_X5_orSingle_R hN hR hS_V_1327 (rl_m (rl_w rg_t) (by decide) (by decide))) fun x_1394 r_1395 =>
    sf_ite (fun h_1396 =>
    False.elim (rg_noeq h_1396 (wr_k q_1328 (by decide) f_1020) (rg_c (x := (0 : Int32)) (n := 0) rfl) (by decide)))
     (fun h_1396 =>
    have f_1397 := (cap_of ck_RcR (mem_of m_1030 (by decide)) hS_V_1327 (Int32.not_le.mp h_1339))
    s_B_X5_moveAsCvt_128_R hN hR hS_V_1327 r_l1 (rg_m f_1259 (by decide) (by decide)) (mem_of hR.1 (by decide)) (mem_of m_1030 (by decide)) (rg_m f_1386 (by decide) (by decide)) f_1346 f_1397))))))))
     (fun h_1325 =>
    False.elim (rg_none h_1325 (rg_c (x := (0 : Int32)) (n := 0) rfl) (rg_c (x := (0 : Int32)) (n := 0) rfl))))
     (fun h_1322 =>
    have f_1398 := (rg_hlt (Int32.not_le.mp h_1322) f_1319 (rg_add (hS_V_7.rdS m_1030 rs_RcR_3448_9_0_64) (hS_V_7.rdS m_1030 rs_RcR_3448_11_0_0) (by decide) (by decide)))
    sf_someb <|
    sf_pb (lay_S m_1030 (by decide +kernel)) <|
    sf_iteb (fun h_1404 =>
    False.elim (rg_noeq h_1404 (rg_c (x := (1 : Int32)) (n := 1) rfl) (rg_c (x := (0 : Int32)) (n := 0) rfl) (by decide)))
     (fun h_1404 =>
    sf_assoc <|
    sf_iteb (fun h_1415 =>
    False.elim (rg_nolt h_1415 f_1398 (rg_c (x := (0 : Int32)) (n := 0) rfl) (by decide)))
     (fun h_1415 =>
    sf_pb (lay_S m_1030 (by decide +kernel)) <|
    sf_iteb (fun h_1418 =>
    sf_someb <|
    sf_pb (lay_S m_1030 (by decide +kernel)) <|
    sf_pb (bl_rg (rg_c (x := (0 : Int32)) (n := 0) rfl) (by decide) (by decide)) <|
    sf_someb <|
    sf_ite (fun h_1427 =>
    sf_sV hS_V_7)
     (fun h_1427 =>
    False.elim (rg_none h_1427 (rg_c (x := (0 : Int32)) (n := 0) rfl) (rg_c (x := (0 : Int32)) (n := 0) rfl))))
     (fun h_1418 =>
    have f_1433 := (cap_of ck_RcR (mem_of hR.1 (by decide)) hS_V_7 (Int32.not_le.mp h_1274))
    sf_someb <|
    sf_pb (lay_S m_1030 (by decide +kernel)) <|
    sf_pb (bl_rg (rg_c (x := (1 : Int32)) (n := 1) rfl) (by decide) (by decide)) <|
    sf_someb <|
    sf_ite (fun h_1435 =>
    False.elim (rg_noeq h_1435 (rg_c (x := (1 : Int32)) (n := 1) rfl) (rg_c (x := (0 : Int32)) (n := 0) rfl) (by decide)))
     (fun h_1435 =>
    sf_o (c := bm) (ref6 hS_V_7 hR rfl) <|
    sf_iteb (fun h_1441 =>
    sf_someb <|
    sf_p (lay_S hR.2.1 (by decide +kernel)) <|
    sf_ite (fun h_1445 =>
    sf_w (hS_V_7.wc oi_RcR_69_14 (rg_m (rg_c (x := (6 : Int32)) (n := 6) rfl) (by decide) (by decide))) fun V_1448 q_1449 hS_V_1448 =>
    sf_sV hS_V_1448)
     (fun h_1445 =>
    False.elim (rg_none h_1445 (rg_c (x := (0 : Int32)) (n := 0) rfl) (rg_c (x := (0 : Int32)) (n := 0) rfl))))
     (fun h_1441 =>
    have f_1450 := (rg_lle (Int32.not_lt.mp h_1441) (rg_c (x := (0 : Int32)) (n := 0) rfl) r_3)
    sf_pb (lay_S hR.2.1 (by decide +kernel)) <|
    sf_iteb (fun h_1453 =>
    sf_someb <|
    sf_p (lay_S hR.2.1 (by decide +kernel)) <|
    sf_ite (fun h_1456 =>
    sf_w (hS_V_7.wc oi_RcR_69_14 (rg_m (rg_c (x := (6 : Int32)) (n := 6) rfl) (by decide) (by decide))) fun V_1458 q_1459 hS_V_1458 =>
    sf_sV hS_V_1458)
     (fun h_1456 =>
    False.elim (rg_none h_1456 (rg_c (x := (0 : Int32)) (n := 0) rfl) (rg_c (x := (0 : Int32)) (n := 0) rfl))))
     (fun h_1453 =>
    have f_1460 := (rg_hlt (Int32.not_le.mp h_1453) f_1450 (hS_V_7.rdS hR.2.1 rs_RcR_3145_1_0_256))
    sf_someb <|
    sf_p (lay_S hR.2.1 (by decide +kernel)) <|
    sf_ite (fun h_1464 =>
    False.elim (rg_noeq h_1464 (rg_c (x := (1 : Int32)) (n := 1) rfl) (rg_c (x := (0 : Int32)) (n := 0) rfl) (by decide)))
     (fun h_1464 =>
    sf_o (c := bm) (ref6 hS_V_7 hR rfl) <|
    sf_p (lay_S hR.2.1 (by decide +kernel)) <|
    sf_crS (T := [32, 46]) hR.2.1 (by decide +kernel) fun b_1466 m_1468 q_1467 =>
    sf_lenE (n := 256) m_1468 (by decide +kernel) <|
    sf_p (in_rg f_1460 (by decide) (by decide)) <|
    sf_qL (s_F_X5_orSingle_R hN hR hS_V_7 (rl_m (rl_w rg_t) (by decide) (by decide))) fun x_1470 r_1471 =>
    sf_ite (fun h_1472 =>
    False.elim (rg_noeq h_1472 f_1020 (rg_c (x := (0 : Int32)) (n := 0) rfl) (by decide)))
     (fun h_1472 =>
    have f_1473 := (cap_of ck_RcR (mem_of m_1030 (by decide)) hS_V_7 (Int32.not_le.mp h_1418))
    s_B_X5_moveAsCvt_128_R hN hR hS_V_7 r_l1 (rg_m f_1259 (by decide) (by decide)) (mem_of hR.1 (by decide)) (mem_of m_1030 (by decide)) (rg_m f_1398 (by decide) (by decide)) f_1433 f_1473)))))))))))))))))
     (fun h_1026 =>
    sf_ob (c := bo) (ref7 hS_V_7 hR rfl) <|
    sf_someb <|
    sf_let fun x_1475 q_1476 =>
    sf_assoc <|
    sf_iteb (fun h_1486 =>
    have f_1487 := (rg_hlt h_1486 r_8 (rg_c (x := (0 : Int32)) (n := 0) rfl))
    sf_someb <|
    sf_pb (lay_S hR.1 (by decide +kernel)) <|
    sf_iteb (fun h_1488 =>
    sf_wb (hS_V_7.wc oi_RcR_69_14 (rg_m (rg_c (x := (5 : Int32)) (n := 5) rfl) (by decide) (by decide))) fun V_1489 q_1490 hS_V_1489 =>
    sf_assoc <|
    sf_iteb (fun h_1499 =>
    sf_someb <|
    sf_pb (lay_S hR.1 (by decide +kernel)) <|
    sf_pb (bl_rg (rg_c (x := (0 : Int32)) (n := 0) rfl) (by decide) (by decide)) <|
    sf_someb <|
    sf_ite (fun h_1500 =>
    sf_sV hS_V_1489)
     (fun h_1500 =>
    False.elim (rg_none h_1500 (rg_c (x := (0 : Int32)) (n := 0) rfl) (rg_c (x := (0 : Int32)) (n := 0) rfl))))
     (fun h_1499 =>
    False.elim (rg_nole (Int32.not_lt.mp h_1499) (rg_c (x := (0 : Int32)) (n := 0) rfl) f_1487 (by decide))))
     (fun h_1488 =>
    False.elim (rg_none h_1488 (rg_c (x := (0 : Int32)) (n := 0) rfl) (rg_c (x := (0 : Int32)) (n := 0) rfl))))
     (fun h_1486 =>
    have f_1501 := (rg_lle (Int32.not_lt.mp h_1486) (rg_c (x := (0 : Int32)) (n := 0) rfl) r_8)
    sf_pb (lay_S hR.1 (by decide +kernel)) <|
    sf_iteb (fun h_1502 =>
    sf_someb <|
    sf_pb (lay_S hR.1 (by decide +kernel)) <|
    sf_iteb (fun h_1503 =>
    sf_wb (hS_V_7.wc oi_RcR_69_14 (rg_m (rg_c (x := (5 : Int32)) (n := 5) rfl) (by decide) (by decide))) fun V_1504 q_1505 hS_V_1504 =>
    sf_assoc <|
    sf_iteb (fun h_1514 =>
    False.elim (rg_nolt h_1514 f_1501 (rg_c (x := (0 : Int32)) (n := 0) rfl) (by decide)))
     (fun h_1514 =>
    sf_pb (lay_S hR.1 (by decide +kernel)) <|
    sf_iteb (fun h_1515 =>
    sf_someb <|
    sf_pb (lay_S hR.1 (by decide +kernel)) <|
    sf_pb (bl_rg (rg_c (x := (0 : Int32)) (n := 0) rfl) (by decide) (by decide)) <|
    sf_someb <|
    sf_ite (fun h_1516 =>
    sf_sV hS_V_1504)
     (fun h_1516 =>
    False.elim (rg_none h_1516 (rg_c (x := (0 : Int32)) (n := 0) rfl) (rg_c (x := (0 : Int32)) (n := 0) rfl))))
     (fun h_1515 =>
    have f_1517 := (rg_hlt (Int32.not_le.mp h_1515) f_1501 (rg_add (hS_V_1504.rdS hR.1 rs_RcR_8293103113123133_9_0_100) (hS_V_1504.rdS hR.1 rs_RcR_8293103113123133_11_0_2) (by decide) (by decide)))
    have f_1518 := (rg_llt (Int32.not_le.mp h_1515) f_1501 (rg_add (hS_V_1504.rdS hR.1 rs_RcR_8293103113123133_9_0_100) (hS_V_1504.rdS hR.1 rs_RcR_8293103113123133_11_0_2) (by decide) (by decide)))
    sf_someb <|
    sf_pb (lay_S hR.1 (by decide +kernel)) <|
    sf_pb (bl_rg (rg_c (x := (1 : Int32)) (n := 1) rfl) (by decide) (by decide)) <|
    sf_someb <|
    sf_ite (fun h_1521 =>
    False.elim (rg_noeq h_1521 (rg_c (x := (1 : Int32)) (n := 1) rfl) (rg_c (x := (0 : Int32)) (n := 0) rfl) (by decide)))
     (fun h_1521 =>
    sf_assoc <|
    sf_iteb (fun h_1532 =>
    have f_1533 := (rg_hlt h_1532 rg_t (rg_c (x := (0 : Int32)) (n := 0) rfl))
    sf_someb <|
    sf_pb (lay_S hR.1 (by decide +kernel)) <|
    sf_iteb (fun h_1535 =>
    sf_wb (hS_V_1504.wc oi_RcR_69_14 (rg_m (rg_c (x := (5 : Int32)) (n := 5) rfl) (by decide) (by decide))) fun V_1537 q_1538 hS_V_1537 =>
    sf_assoc <|
    sf_iteb (fun h_1547 =>
    sf_someb <|
    sf_pb (lay_S hR.1 (by decide +kernel)) <|
    sf_pb (bl_rg (rg_c (x := (0 : Int32)) (n := 0) rfl) (by decide) (by decide)) <|
    sf_someb <|
    sf_ite (fun h_1549 =>
    sf_sV hS_V_1537)
     (fun h_1549 =>
    False.elim (rg_none h_1549 (rg_c (x := (0 : Int32)) (n := 0) rfl) (rg_c (x := (0 : Int32)) (n := 0) rfl))))
     (fun h_1547 =>
    False.elim (rg_nole (Int32.not_lt.mp h_1547) (rg_c (x := (0 : Int32)) (n := 0) rfl) f_1533 (by decide))))
     (fun h_1535 =>
    False.elim (rg_none h_1535 (rg_c (x := (0 : Int32)) (n := 0) rfl) (rg_c (x := (0 : Int32)) (n := 0) rfl))))
     (fun h_1532 =>
    have f_1551 := (rg_lle (Int32.not_lt.mp h_1532) (rg_c (x := (0 : Int32)) (n := 0) rfl) rg_t)
    sf_pb (lay_S hR.1 (by decide +kernel)) <|
    sf_iteb (fun h_1553 =>
    have f_1554 := (rg_lle h_1553 f_1518 f_1551)
    sf_someb <|
    sf_pb (lay_S hR.1 (by decide +kernel)) <|
    sf_iteb (fun h_1556 =>
    sf_wb (hS_V_1504.wc oi_RcR_69_14 (rg_m (rg_c (x := (5 : Int32)) (n := 5) rfl) (by decide) (by decide))) fun V_1558 q_1559 hS_V_1558 =>
    sf_assoc <|
    sf_iteb (fun h_1568 =>
    False.elim (rg_nolt h_1568 f_1554 (rg_c (x := (0 : Int32)) (n := 0) rfl) (by decide)))
     (fun h_1568 =>
    sf_pb (lay_S hR.1 (by decide +kernel)) <|
    sf_iteb (fun h_1570 =>
    sf_someb <|
    sf_pb (lay_S hR.1 (by decide +kernel)) <|
    sf_pb (bl_rg (rg_c (x := (0 : Int32)) (n := 0) rfl) (by decide) (by decide)) <|
    sf_someb <|
    sf_ite (fun h_1572 =>
    sf_sV hS_V_1558)
     (fun h_1572 =>
    False.elim (rg_none h_1572 (rg_c (x := (0 : Int32)) (n := 0) rfl) (rg_c (x := (0 : Int32)) (n := 0) rfl))))
     (fun h_1570 =>
    have f_1573 := (rg_hlt (Int32.not_le.mp h_1570) f_1554 (rg_add (hS_V_1558.rdS hR.1 rs_RcR_8293103113123133_9_0_100) (hS_V_1558.rdS hR.1 rs_RcR_8293103113123133_11_0_2) (by decide) (by decide)))
    have f_1576 := (cap_of ck_RcR (mem_of hR.1 (by decide)) hS_V_1504 (Int32.not_le.mp h_1515))
    sf_someb <|
    sf_pb (lay_S hR.1 (by decide +kernel)) <|
    sf_pb (bl_rg (rg_c (x := (1 : Int32)) (n := 1) rfl) (by decide) (by decide)) <|
    sf_someb <|
    sf_ite (fun h_1578 =>
    False.elim (rg_noeq h_1578 (rg_c (x := (1 : Int32)) (n := 1) rfl) (rg_c (x := (0 : Int32)) (n := 0) rfl) (by decide)))
     (fun h_1578 =>
    sf_o (c := bm) (ref6 hS_V_1558 hR rfl) <|
    sf_iteb (fun h_1583 =>
    sf_someb <|
    sf_p (lay_S hR.2.1 (by decide +kernel)) <|
    sf_ite (fun h_1586 =>
    sf_w (hS_V_1558.wc oi_RcR_69_14 (rg_m (rg_c (x := (6 : Int32)) (n := 6) rfl) (by decide) (by decide))) fun V_1588 q_1589 hS_V_1588 =>
    sf_sV hS_V_1588)
     (fun h_1586 =>
    False.elim (rg_none h_1586 (rg_c (x := (0 : Int32)) (n := 0) rfl) (rg_c (x := (0 : Int32)) (n := 0) rfl))))
     (fun h_1583 =>
    have f_1590 := (rg_lle (Int32.not_lt.mp h_1583) (rg_c (x := (0 : Int32)) (n := 0) rfl) r_3)
    sf_pb (lay_S hR.2.1 (by decide +kernel)) <|
    sf_iteb (fun h_1592 =>
    sf_someb <|
    sf_p (lay_S hR.2.1 (by decide +kernel)) <|
    sf_ite (fun h_1594 =>
    sf_w (hS_V_1558.wc oi_RcR_69_14 (rg_m (rg_c (x := (6 : Int32)) (n := 6) rfl) (by decide) (by decide))) fun V_1596 q_1597 hS_V_1596 =>
    sf_sV hS_V_1596)
     (fun h_1594 =>
    False.elim (rg_none h_1594 (rg_c (x := (0 : Int32)) (n := 0) rfl) (rg_c (x := (0 : Int32)) (n := 0) rfl))))
     (fun h_1592 =>
    have f_1598 := (rg_hlt (Int32.not_le.mp h_1592) f_1590 (hS_V_1558.rdS hR.2.1 rs_RcR_3145_1_0_256))
    sf_someb <|
    sf_p (lay_S hR.2.1 (by decide +kernel)) <|
    sf_ite (fun h_1601 =>
    False.elim (rg_noeq h_1601 (rg_c (x := (1 : Int32)) (n := 1) rfl) (rg_c (x := (0 : Int32)) (n := 0) rfl) (by decide)))
     (fun h_1601 =>
    sf_o (c := bm) (ref6 hS_V_1558 hR rfl) <|
    sf_p (lay_S hR.2.1 (by decide +kernel)) <|
    sf_crS (T := [32, 46]) hR.2.1 (by decide +kernel) fun b_1603 m_1605 q_1604 =>
    sf_lenE (n := 256) m_1605 (by decide +kernel) <|
    sf_p (in_rg f_1598 (by decide) (by decide)) <|
    sf_qL (s_F_X5_orSingle_R hN hR hS_V_1558 (rl_m (rl_w rg_t) (by decide) (by decide))) fun x_1607 r_1608 =>
    sf_ite (fun h_1609 =>
    False.elim (rg_noeq h_1609 (wr_k q_1559 (by decide) (wr_k q_1505 (by decide) f_1020)) (rg_c (x := (0 : Int32)) (n := 0) rfl) (by decide)))
     (fun h_1609 =>
    have f_1610 := (cap_of ck_RcR (mem_of hR.1 (by decide)) hS_V_1558 (Int32.not_le.mp h_1570))
    s_B_X5_moveAsCvt_128_R hN hR hS_V_1558 r_l1 (rg_m f_1517 (by decide) (by decide)) (mem_of hR.1 (by decide)) (mem_of hR.1 (by decide)) (rg_m f_1573 (by decide) (by decide)) f_1576 f_1610))))))))
     (fun h_1556 =>
    False.elim (rg_none h_1556 (rg_c (x := (0 : Int32)) (n := 0) rfl) (rg_c (x := (0 : Int32)) (n := 0) rfl))))
     (fun h_1553 =>
    have f_1611 := (rg_hlt (Int32.not_le.mp h_1553) f_1551 f_1518)
    sf_someb <|
    sf_pb (lay_S hR.1 (by decide +kernel)) <|
    sf_iteb (fun h_1614 =>
    False.elim (rg_noeq h_1614 (rg_c (x := (1 : Int32)) (n := 1) rfl) (rg_c (x := (0 : Int32)) (n := 0) rfl) (by decide)))
     (fun h_1614 =>
    sf_assoc <|
    sf_iteb (fun h_1625 =>
    False.elim (rg_nolt h_1625 f_1611 (rg_c (x := (0 : Int32)) (n := 0) rfl) (by decide)))
     (fun h_1625 =>
    sf_pb (lay_S hR.1 (by decide +kernel)) <|
    sf_iteb (fun h_1628 =>
    sf_someb <|
    sf_pb (lay_S hR.1 (by decide +kernel)) <|
    sf_pb (bl_rg (rg_c (x := (0 : Int32)) (n := 0) rfl) (by decide) (by decide)) <|
    sf_someb <|
    sf_ite (fun h_1636 =>
    sf_sV hS_V_1504)
     (fun h_1636 =>
    False.elim (rg_none h_1636 (rg_c (x := (0 : Int32)) (n := 0) rfl) (rg_c (x := (0 : Int32)) (n := 0) rfl))))
     (fun h_1628 =>
    have f_1641 := (cap_of ck_RcR (mem_of hR.1 (by decide)) hS_V_1504 (Int32.not_le.mp h_1515))
    sf_someb <|
    sf_pb (lay_S hR.1 (by decide +kernel)) <|
    sf_pb (bl_rg (rg_c (x := (1 : Int32)) (n := 1) rfl) (by decide) (by decide)) <|
    sf_someb <|
    sf_ite (fun h_1643 =>
    False.elim (rg_noeq h_1643 (rg_c (x := (1 : Int32)) (n := 1) rfl) (rg_c (x := (0 : Int32)) (n := 0) rfl) (by decide)))
     (fun h_1643 =>
    sf_o (c := bm) (ref6 hS_V_1504 hR rfl) <|
    sf_iteb (fun h_1649 =>
    sf_someb <|
    sf_p (lay_S hR.2.1 (by decide +kernel)) <|
    sf_ite (fun h_1653 =>
    sf_w (hS_V_1504.wc oi_RcR_69_14 (rg_m (rg_c (x := (6 : Int32)) (n := 6) rfl) (by decide) (by decide))) fun V_1656 q_1657 hS_V_1656 =>
    sf_sV hS_V_1656)
     (fun h_1653 =>
    False.elim (rg_none h_1653 (rg_c (x := (0 : Int32)) (n := 0) rfl) (rg_c (x := (0 : Int32)) (n := 0) rfl))))
     (fun h_1649 =>
    have f_1658 := (rg_lle (Int32.not_lt.mp h_1649) (rg_c (x := (0 : Int32)) (n := 0) rfl) r_3)
    sf_pb (lay_S hR.2.1 (by decide +kernel)) <|
    sf_iteb (fun h_1661 =>
    sf_someb <|
    sf_p (lay_S hR.2.1 (by decide +kernel)) <|
    sf_ite (fun h_1664 =>
    sf_w (hS_V_1504.wc oi_RcR_69_14 (rg_m (rg_c (x := (6 : Int32)) (n := 6) rfl) (by decide) (by decide))) fun V_1666 q_1667 hS_V_1666 =>
    sf_sV hS_V_1666)
     (fun h_1664 =>
    False.elim (rg_none h_1664 (rg_c (x := (0 : Int32)) (n := 0) rfl) (rg_c (x := (0 : Int32)) (n := 0) rfl))))
     (fun h_1661 =>
    have f_1668 := (rg_hlt (Int32.not_le.mp h_1661) f_1658 (hS_V_1504.rdS hR.2.1 rs_RcR_3145_1_0_256))
    sf_someb <|
    sf_p (lay_S hR.2.1 (by decide +kernel)) <|
    sf_ite (fun h_1672 =>
    False.elim (rg_noeq h_1672 (rg_c (x := (1 : Int32)) (n := 1) rfl) (rg_c (x := (0 : Int32)) (n := 0) rfl) (by decide)))
     (fun h_1672 =>
    sf_o (c := bm) (ref6 hS_V_1504 hR rfl) <|
    sf_p (lay_S hR.2.1 (by decide +kernel)) <|
    sf_crS (T := [32, 46]) hR.2.1 (by decide +kernel) fun b_1674 m_1676 q_1675 =>
    sf_lenE (n := 256) m_1676 (by decide +kernel) <|
    sf_p (in_rg f_1668 (by decide) (by decide)) <|
    sf_qL (s_F_X5_orSingle_R hN hR hS_V_1504 (rl_m (rl_w rg_t) (by decide) (by decide))) fun x_1678 r_1679 =>
    sf_ite (fun h_1680 =>
    False.elim (rg_noeq h_1680 (wr_k q_1505 (by decide) f_1020) (rg_c (x := (0 : Int32)) (n := 0) rfl) (by decide)))
     (fun h_1680 =>
    have f_1681 := (cap_of ck_RcR (mem_of hR.1 (by decide)) hS_V_1504 (Int32.not_le.mp h_1628))
    s_B_X5_moveAsCvt_128_R hN hR hS_V_1504 r_l1 (rg_m f_1517 (by decide) (by decide)) (mem_of hR.1 (by decide)) (mem_of hR.1 (by decide)) (rg_m f_1611 (by decide) (by decide)) f_1641 f_1681))))))))))))))
     (fun h_1503 =>
    False.elim (rg_none h_1503 (rg_c (x := (0 : Int32)) (n := 0) rfl) (rg_c (x := (0 : Int32)) (n := 0) rfl))))
     (fun h_1502 =>
    have f_1682 := (rg_hlt (Int32.not_le.mp h_1502) f_1501 (rg_add (hS_V_7.rdS hR.1 rs_RcR_8293103113123133_9_0_100) (hS_V_7.rdS hR.1 rs_RcR_8293103113123133_11_0_2) (by decide) (by decide)))
    have f_1683 := (rg_llt (Int32.not_le.mp h_1502) f_1501 (rg_add (hS_V_7.rdS hR.1 rs_RcR_8293103113123133_9_0_100) (hS_V_7.rdS hR.1 rs_RcR_8293103113123133_11_0_2) (by decide) (by decide)))
    sf_someb <|
    sf_pb (lay_S hR.1 (by decide +kernel)) <|
    sf_iteb (fun h_1685 =>
    False.elim (rg_noeq h_1685 (rg_c (x := (1 : Int32)) (n := 1) rfl) (rg_c (x := (0 : Int32)) (n := 0) rfl) (by decide)))
     (fun h_1685 =>
    sf_assoc <|
    sf_iteb (fun h_1695 =>
    False.elim (rg_nolt h_1695 f_1682 (rg_c (x := (0 : Int32)) (n := 0) rfl) (by decide)))
     (fun h_1695 =>
    sf_pb (lay_S hR.1 (by decide +kernel)) <|
    sf_iteb (fun h_1697 =>
    sf_someb <|
    sf_pb (lay_S hR.1 (by decide +kernel)) <|
    sf_pb (bl_rg (rg_c (x := (0 : Int32)) (n := 0) rfl) (by decide) (by decide)) <|
    sf_someb <|
    sf_ite (fun h_1703 =>
    sf_sV hS_V_7)
     (fun h_1703 =>
    False.elim (rg_none h_1703 (rg_c (x := (0 : Int32)) (n := 0) rfl) (rg_c (x := (0 : Int32)) (n := 0) rfl))))
     (fun h_1697 =>
    sf_someb <|
    sf_pb (lay_S hR.1 (by decide +kernel)) <|
    sf_pb (bl_rg (rg_c (x := (1 : Int32)) (n := 1) rfl) (by decide) (by decide)) <|
    sf_someb <|
    sf_ite (fun h_1709 =>
    False.elim (rg_noeq h_1709 (rg_c (x := (1 : Int32)) (n := 1) rfl) (rg_c (x := (0 : Int32)) (n := 0) rfl) (by decide)))
     (fun h_1709 =>
    sf_assoc <|
    sf_iteb (fun h_1721 =>
    have f_1722 := (rg_hlt h_1721 rg_t (rg_c (x := (0 : Int32)) (n := 0) rfl))
    sf_someb <|
    sf_pb (lay_S hR.1 (by decide +kernel)) <|
    sf_iteb (fun h_1725 =>
    sf_wb (hS_V_7.wc oi_RcR_69_14 (rg_m (rg_c (x := (5 : Int32)) (n := 5) rfl) (by decide) (by decide))) fun V_1728 q_1729 hS_V_1728 =>
    sf_assoc <|
    sf_iteb (fun h_1738 =>
    sf_someb <|
    sf_pb (lay_S hR.1 (by decide +kernel)) <|
    sf_pb (bl_rg (rg_c (x := (0 : Int32)) (n := 0) rfl) (by decide) (by decide)) <|
    sf_someb <|
    sf_ite (fun h_1740 =>
    sf_sV hS_V_1728)
     (fun h_1740 =>
    False.elim (rg_none h_1740 (rg_c (x := (0 : Int32)) (n := 0) rfl) (rg_c (x := (0 : Int32)) (n := 0) rfl))))
     (fun h_1738 =>
    False.elim (rg_nole (Int32.not_lt.mp h_1738) (rg_c (x := (0 : Int32)) (n := 0) rfl) f_1722 (by decide))))
     (fun h_1725 =>
    False.elim (rg_none h_1725 (rg_c (x := (0 : Int32)) (n := 0) rfl) (rg_c (x := (0 : Int32)) (n := 0) rfl))))
     (fun h_1721 =>
    have f_1742 := (rg_lle (Int32.not_lt.mp h_1721) (rg_c (x := (0 : Int32)) (n := 0) rfl) rg_t)
    sf_pb (lay_S hR.1 (by decide +kernel)) <|
    sf_iteb (fun h_1745 =>
    have f_1746 := (rg_lle h_1745 f_1683 f_1742)
    sf_someb <|
    sf_pb (lay_S hR.1 (by decide +kernel)) <|
    sf_iteb (fun h_1749 =>
    sf_wb (hS_V_7.wc oi_RcR_69_14 (rg_m (rg_c (x := (5 : Int32)) (n := 5) rfl) (by decide) (by decide))) fun V_1751 q_1752 hS_V_1751 =>
    sf_assoc <|
    sf_iteb (fun h_1761 =>
    False.elim (rg_nolt h_1761 f_1746 (rg_c (x := (0 : Int32)) (n := 0) rfl) (by decide)))
     (fun h_1761 =>
    sf_pb (lay_S hR.1 (by decide +kernel)) <|
    sf_iteb (fun h_1763 =>
    sf_someb <|
    sf_pb (lay_S hR.1 (by decide +kernel)) <|
    sf_pb (bl_rg (rg_c (x := (0 : Int32)) (n := 0) rfl) (by decide) (by decide)) <|
    sf_someb <|
    sf_ite (fun h_1765 =>
    sf_sV hS_V_1751)
     (fun h_1765 =>
    False.elim (rg_none h_1765 (rg_c (x := (0 : Int32)) (n := 0) rfl) (rg_c (x := (0 : Int32)) (n := 0) rfl))))
     (fun h_1763 =>
    have f_1766 := (rg_hlt (Int32.not_le.mp h_1763) f_1746 (rg_add (hS_V_1751.rdS hR.1 rs_RcR_8293103113123133_9_0_100) (hS_V_1751.rdS hR.1 rs_RcR_8293103113123133_11_0_2) (by decide) (by decide)))
    have f_1769 := (cap_of ck_RcR (mem_of hR.1 (by decide)) hS_V_7 (Int32.not_le.mp h_1697))
    sf_someb <|
    sf_pb (lay_S hR.1 (by decide +kernel)) <|
    sf_pb (bl_rg (rg_c (x := (1 : Int32)) (n := 1) rfl) (by decide) (by decide)) <|
    sf_someb <|
    sf_ite (fun h_1771 =>
    False.elim (rg_noeq h_1771 (rg_c (x := (1 : Int32)) (n := 1) rfl) (rg_c (x := (0 : Int32)) (n := 0) rfl) (by decide)))
     (fun h_1771 =>
    sf_o (c := bm) (ref6 hS_V_1751 hR rfl) <|
    sf_iteb (fun h_1776 =>
    sf_someb <|
    sf_p (lay_S hR.2.1 (by decide +kernel)) <|
    sf_ite (fun h_1779 =>
    sf_w (hS_V_1751.wc oi_RcR_69_14 (rg_m (rg_c (x := (6 : Int32)) (n := 6) rfl) (by decide) (by decide))) fun V_1781 q_1782 hS_V_1781 =>
    sf_sV hS_V_1781)
     (fun h_1779 =>
    False.elim (rg_none h_1779 (rg_c (x := (0 : Int32)) (n := 0) rfl) (rg_c (x := (0 : Int32)) (n := 0) rfl))))
     (fun h_1776 =>
    have f_1783 := (rg_lle (Int32.not_lt.mp h_1776) (rg_c (x := (0 : Int32)) (n := 0) rfl) r_3)
    sf_pb (lay_S hR.2.1 (by decide +kernel)) <|
    sf_iteb (fun h_1785 =>
    sf_someb <|
    sf_p (lay_S hR.2.1 (by decide +kernel)) <|
    sf_ite (fun h_1787 =>
    sf_w (hS_V_1751.wc oi_RcR_69_14 (rg_m (rg_c (x := (6 : Int32)) (n := 6) rfl) (by decide) (by decide))) fun V_1789 q_1790 hS_V_1789 =>
    sf_sV hS_V_1789)
     (fun h_1787 =>
    False.elim (rg_none h_1787 (rg_c (x := (0 : Int32)) (n := 0) rfl) (rg_c (x := (0 : Int32)) (n := 0) rfl))))
     (fun h_1785 =>
    have f_1791 := (rg_hlt (Int32.not_le.mp h_1785) f_1783 (hS_V_1751.rdS hR.2.1 rs_RcR_3145_1_0_256))
    sf_someb <|
    sf_p (lay_S hR.2.1 (by decide +kernel)) <|
    sf_ite (fun h_1794 =>
    False.elim (rg_noeq h_1794 (rg_c (x := (1 : Int32)) (n := 1) rfl) (rg_c (x := (0 : Int32)) (n := 0) rfl) (by decide)))
     (fun h_1794 =>
    sf_o (c := bm) (ref6 hS_V_1751 hR rfl) <|
    sf_p (lay_S hR.2.1 (by decide +kernel)) <|
    sf_crS (T := [32, 46]) hR.2.1 (by decide +kernel) fun b_1796 m_1798 q_1797 =>
    sf_lenE (n := 256) m_1798 (by decide +kernel) <|
    sf_p (in_rg f_1791 (by decide) (by decide)) <|
    sf_qL (s_F_X5_orSingle_R hN hR hS_V_1751 (rl_m (rl_w rg_t) (by decide) (by decide))) fun x_1800 r_1801 =>
    sf_ite (fun h_1802 =>
    False.elim (rg_noeq h_1802 (wr_k q_1752 (by decide) f_1020) (rg_c (x := (0 : Int32)) (n := 0) rfl) (by decide)))
     (fun h_1802 =>
    have f_1803 := (cap_of ck_RcR (mem_of hR.1 (by decide)) hS_V_1751 (Int32.not_le.mp h_1763))
    s_B_X5_moveAsCvt_128_R hN hR hS_V_1751 r_l1 (rg_m f_1682 (by decide) (by decide)) (mem_of hR.1 (by decide)) (mem_of hR.1 (by decide)) (rg_m f_1766 (by decide) (by decide)) f_1769 f_1803))))))))
     (fun h_1749 =>
    False.elim (rg_none h_1749 (rg_c (x := (0 : Int32)) (n := 0) rfl) (rg_c (x := (0 : Int32)) (n := 0) rfl))))
     (fun h_1745 =>
    have f_1804 := (rg_hlt (Int32.not_le.mp h_1745) f_1742 f_1683)
    sf_someb <|
    sf_pb (lay_S hR.1 (by decide +kernel)) <|
    sf_iteb (fun h_1808 =>
    False.elim (rg_noeq h_1808 (rg_c (x := (1 : Int32)) (n := 1) rfl) (rg_c (x := (0 : Int32)) (n := 0) rfl) (by decide)))
     (fun h_1808 =>
    sf_assoc <|
    sf_iteb (fun h_1819 =>
    False.elim (rg_nolt h_1819 f_1804 (rg_c (x := (0 : Int32)) (n := 0) rfl) (by decide)))
     (fun h_1819 =>
    sf_pb (lay_S hR.1 (by decide +kernel)) <|
    sf_iteb (fun h_1822 =>
    sf_someb <|
    sf_pb (lay_S hR.1 (by decide +kernel)) <|
    sf_pb (bl_rg (rg_c (x := (0 : Int32)) (n := 0) rfl) (by decide) (by decide)) <|
    sf_someb <|
    sf_ite (fun h_1830 =>
    sf_sV hS_V_7)
     (fun h_1830 =>
    False.elim (rg_none h_1830 (rg_c (x := (0 : Int32)) (n := 0) rfl) (rg_c (x := (0 : Int32)) (n := 0) rfl))))
     (fun h_1822 =>
    have f_1835 := (cap_of ck_RcR (mem_of hR.1 (by decide)) hS_V_7 (Int32.not_le.mp h_1697))
    sf_someb <|
    sf_pb (lay_S hR.1 (by decide +kernel)) <|
    sf_pb (bl_rg (rg_c (x := (1 : Int32)) (n := 1) rfl) (by decide) (by decide)) <|
    sf_someb <|
    sf_ite (fun h_1837 =>
    False.elim (rg_noeq h_1837 (rg_c (x := (1 : Int32)) (n := 1) rfl) (rg_c (x := (0 : Int32)) (n := 0) rfl) (by decide)))
     (fun h_1837 =>
    sf_o (c := bm) (ref6 hS_V_7 hR rfl) <|
    sf_iteb (fun h_1843 =>
    sf_someb <|
    sf_p (lay_S hR.2.1 (by decide +kernel)) <|
    sf_ite (fun h_1847 =>
    sf_w (hS_V_7.wc oi_RcR_69_14 (rg_m (rg_c (x := (6 : Int32)) (n := 6) rfl) (by decide) (by decide))) fun V_1850 q_1851 hS_V_1850 =>
    sf_sV hS_V_1850)
     (fun h_1847 =>
    False.elim (rg_none h_1847 (rg_c (x := (0 : Int32)) (n := 0) rfl) (rg_c (x := (0 : Int32)) (n := 0) rfl))))
     (fun h_1843 =>
    have f_1852 := (rg_lle (Int32.not_lt.mp h_1843) (rg_c (x := (0 : Int32)) (n := 0) rfl) r_3)
    sf_pb (lay_S hR.2.1 (by decide +kernel)) <|
    sf_iteb (fun h_1855 =>
    sf_someb <|
    sf_p (lay_S hR.2.1 (by decide +kernel)) <|
    sf_ite (fun h_1858 =>
    sf_w (hS_V_7.wc oi_RcR_69_14 (rg_m (rg_c (x := (6 : Int32)) (n := 6) rfl) (by decide) (by decide))) fun V_1860 q_1861 hS_V_1860 =>
    sf_sV hS_V_1860)
     (fun h_1858 =>
    False.elim (rg_none h_1858 (rg_c (x := (0 : Int32)) (n := 0) rfl) (rg_c (x := (0 : Int32)) (n := 0) rfl))))
     (fun h_1855 =>
    have f_1862 := (rg_hlt (Int32.not_le.mp h_1855) f_1852 (hS_V_7.rdS hR.2.1 rs_RcR_3145_1_0_256))
    sf_someb <|
    sf_p (lay_S hR.2.1 (by decide +kernel)) <|
    sf_ite (fun h_1866 =>
    False.elim (rg_noeq h_1866 (rg_c (x := (1 : Int32)) (n := 1) rfl) (rg_c (x := (0 : Int32)) (n := 0) rfl) (by decide)))
     (fun h_1866 =>
    sf_o (c := bm) (ref6 hS_V_7 hR rfl) <|
    sf_p (lay_S hR.2.1 (by decide +kernel)) <|
    sf_crS (T := [32, 46]) hR.2.1 (by decide +kernel) fun b_1868 m_1870 q_1869 =>
    sf_lenE (n := 256) m_1870 (by decide +kernel) <|
    sf_p (in_rg f_1862 (by decide) (by decide)) <|
    sf_qL (s_F_X5_orSingle_R hN hR hS_V_7 (rl_m (rl_w rg_t) (by decide) (by decide))) fun x_1872 r_1873 =>
    sf_ite (fun h_1874 =>
    False.elim (rg_noeq h_1874 f_1020 (rg_c (x := (0 : Int32)) (n := 0) rfl) (by decide)))
     (fun h_1874 =>
    have f_1875 := (cap_of ck_RcR (mem_of hR.1 (by decide)) hS_V_7 (Int32.not_le.mp h_1822))
    s_B_X5_moveAsCvt_128_R hN hR hS_V_7 r_l1 (rg_m f_1682 (by decide) (by decide)) (mem_of hR.1 (by decide)) (mem_of hR.1 (by decide)) (rg_m f_1804 (by decide) (by decide)) f_1835 f_1875))))))))))))))))))
theorem s_B_X5_deltaCodes_198_R {G : sv_V} {N : Nat} (hN : 8589934592 ≤ N) {bo bm : Nat} (hR : RefsOf G bo bm) {k90 : Int32 → Int32 → Int64 → Int32 → sv_V → Option sv_V} {c_k90 : Int} (hk_k90 : ∀ (l1 : Int32) (l2 : Int32) (l3 : Int64) (l5 : Int32) (V : sv_V), SIx T_cR G V → rg l1 (0) (255) → rg l2 (0) (2147483647) → rl l3 (-2147483648) (4294967295) → rg l5 (0) (2147483647) → c_k90 < l5.toInt → Sg (SIx T_cR G) (k90 l1 l2 l3 l5 V)) {l1 : Int32} {l2 : Int32} {l3 : Int64} {l5 : Int32} {V : sv_V} (hS_V : SIx T_cR G V) (r_l1 : rg l1 (0) (255)) (r_l2 : rg l2 (1) (2147483647)) (r_l3 : rl l3 (-2147483648) (4294967295)) (r_l5 : rg l5 (0) (2147483646)) (hc_k90 : c_k90 ≤ l5.toInt) : Sg (SIx T_cR G) (B_X5_deltaCodes_198 N k90 l1 l2 l3 l5 V) := by
  unfold B_X5_deltaCodes_198
  exact
    sf_let fun x_1 q_2 =>
    have f_3 := rg_eq q_2 (rg_add r_l5 (rg_c (x := (1 : Int32)) (n := 1) rfl) (by decide) (by decide))
    hk_k90 _ _ _ _ _ hS_V r_l1 (rg_m r_l2 (by decide) (by decide)) r_l3 (rg_m f_3 (by decide) (by decide)) (cnt_u0 q_2 r_l5 (by decide) hc_k90)
theorem s_B_X5_deltaCodes_177_R {G : sv_V} {N : Nat} (hN : 8589934592 ≤ N) {bo bm : Nat} (hR : RefsOf G bo bm) {k90 : Int32 → Int32 → Int64 → Int32 → sv_V → Option sv_V} {c_k90 : Int} (hk_k90 : ∀ (l1 : Int32) (l2 : Int32) (l3 : Int64) (l5 : Int32) (V : sv_V), SIx T_cR G V → rg l1 (0) (255) → rg l2 (0) (2147483647) → rl l3 (-2147483648) (4294967295) → rg l5 (0) (2147483647) → c_k90 < l5.toInt → Sg (SIx T_cR G) (k90 l1 l2 l3 l5 V)) {l1 : Int32} {l2 : Int32} {l3 : Int64} {l5 : Int32} {l6 : Int32} {l8 : Int32} {s1 : Int32} {V : sv_V} (hS_V : SIx T_cR G V) (r_l1 : rg l1 (0) (255)) (r_l2 : rg l2 (1) (2147483647)) (r_l3 : rl l3 (-15) (48)) (r_l5 : rg l5 (0) (2147483646)) (r_l8 : rg l8 (-8) (8)) (r_s1 : rg s1 (0) (1)) (hc_k90 : c_k90 ≤ l5.toInt) : Sg (SIx T_cR G) (B_X5_deltaCodes_177 N k90 l1 l2 l3 l5 l6 l8 s1 V) := by
  unfold B_X5_deltaCodes_177
  exact
    sf_o (c := bm) (ref6 hS_V hR rfl) <|
    sf_p (lay_S hR.2.1 (by decide +kernel)) <|
    sf_crS (T := [44, 58]) hR.2.1 (by decide +kernel) fun b_1 m_3 q_2 =>
    sf_lenE (n := 9) m_3 (by decide +kernel) <|
    sf_p (in_rg (rg_c (x := (6 : Int32)) (n := 6) rfl) (by decide) (by decide)) <|
    sf_eV (s_F_X5_applyDelta_R hN hR hS_V r_s1) fun V_5 e_6 hS_V_5 =>
    s_B_X5_deltaCodes_198_R hN hR hk_k90 hS_V_5 r_l1 r_l2 (rl_m r_l3 (by decide) (by decide)) r_l5 hc_k90
theorem s_B_X5_deltaCodes_163_R {G : sv_V} {N : Nat} (hN : 8589934592 ≤ N) {bo bm : Nat} (hR : RefsOf G bo bm) {k90 : Int32 → Int32 → Int64 → Int32 → sv_V → Option sv_V} {c_k90 : Int} (hk_k90 : ∀ (l1 : Int32) (l2 : Int32) (l3 : Int64) (l5 : Int32) (V : sv_V), SIx T_cR G V → rg l1 (0) (255) → rg l2 (0) (2147483647) → rl l3 (-2147483648) (4294967295) → rg l5 (0) (2147483647) → c_k90 < l5.toInt → Sg (SIx T_cR G) (k90 l1 l2 l3 l5 V)) {l1 : Int32} {l2 : Int32} {l3 : Int64} {l5 : Int32} {l6 : Int32} {s0 : Int32} {V : sv_V} (hS_V : SIx T_cR G V) (r_l1 : rg l1 (0) (255)) (r_l2 : rg l2 (1) (2147483647)) (r_l3 : rl l3 (-15) (48)) (r_l5 : rg l5 (0) (2147483646)) (r_s0 : rg s0 (-8) (8)) (hc_k90 : c_k90 ≤ l5.toInt) : Sg (SIx T_cR G) (B_X5_deltaCodes_163 N k90 l1 l2 l3 l5 l6 s0 V) := by
  unfold B_X5_deltaCodes_163
  exact
    sf_ite (fun h_1 =>
    have f_2 := (rg_lle h_1 (rg_c (x := (115 : Int32)) (n := 115) rfl) r_l1)
    s_B_X5_deltaCodes_177_R hN hR hk_k90 hS_V (rg_m f_2 (by decide) (by decide)) r_l2 r_l3 r_l5 r_s0 (rg_m (rg_c (x := (0 : Int32)) (n := 0) rfl) (by decide) (by decide)) hc_k90)
     (fun h_1 =>
    have f_3 := (rg_hlt (Int32.not_le.mp h_1) r_l1 (rg_c (x := (115 : Int32)) (n := 115) rfl))
    s_B_X5_deltaCodes_177_R hN hR hk_k90 hS_V (rg_m f_3 (by decide) (by decide)) r_l2 r_l3 r_l5 r_s0 (rg_m (rg_c (x := (1 : Int32)) (n := 1) rfl) (by decide) (by decide)) hc_k90)
theorem s_B_X5_deltaCodes_90_R {G : sv_V} {N : Nat} (hN : 8589934592 ≤ N) {bo bm : Nat} (hR : RefsOf G bo bm) {k90 : Int32 → Int32 → Int64 → Int32 → sv_V → Option sv_V} {c_k90 : Int} (hk_k90 : ∀ (l1 : Int32) (l2 : Int32) (l3 : Int64) (l5 : Int32) (V : sv_V), SIx T_cR G V → rg l1 (0) (255) → rg l2 (0) (2147483647) → rl l3 (-2147483648) (4294967295) → rg l5 (0) (2147483647) → c_k90 < l5.toInt → Sg (SIx T_cR G) (k90 l1 l2 l3 l5 V)) {l1 : Int32} {l2 : Int32} {l3 : Int64} {l5 : Int32} {V : sv_V} (hS_V : SIx T_cR G V) (r_l1 : rg l1 (0) (255)) (r_l2 : rg l2 (0) (2147483647)) (r_l3 : rl l3 (-2147483648) (4294967295)) (r_l5 : rg l5 (0) (2147483647)) (hc_k90 : c_k90 ≤ l5.toInt) : Sg (SIx T_cR G) (B_X5_deltaCodes_90 N k90 l1 l2 l3 l5 V) := by
  unfold B_X5_deltaCodes_90
  exact
    sf_ite (fun h_1 =>
    sf_sV hS_V)
     (fun h_1 =>
    have f_2 := (rg_hlt (Int32.not_le.mp h_1) r_l5 r_l2)
    have f_3 := (rg_llt (Int32.not_le.mp h_1) r_l5 r_l2)
    sf_ite (fun h_4 =>
    sf_eI (s_F_X5_pop_R hN hR hS_V) fun x_6 V_7 e_9 hS_V_7 r_8 =>
    sf_eI (s_F_X5_pop_R hN hR hS_V_7) fun x_11 V_12 e_14 hS_V_12 r_13 =>
    sf_ite (fun h_16 =>
    have f_17 := (rl_eq (Eq.symm (lgc_eq.mp h_16)) (rl_w (hS_V_12.rd r_RcR_69_12)))
    have f_18 := (rl_addL f_17 r_l3 (rl_w (rg_andr (rg_c (x := (15 : Int32)) (n := 15) rfl) (by decide))) (by decide) (by decide))
    sf_ite (fun h_19 =>
    have f_20 := (rg_lle h_19 (rg_c (x := (8 : Int32)) (n := 8) rfl) (rg_andr (rg_c (x := (15 : Int32)) (n := 15) rfl) (by decide)))
    s_B_X5_deltaCodes_163_R hN hR hk_k90 hS_V_12 r_l1 (rg_m f_3 (by decide) (by decide)) (rl_m f_18 (by decide) (by decide)) (rg_m f_2 (by decide) (by decide)) (rg_m (rg_sub f_20 (rg_c (x := (7 : Int32)) (n := 7) rfl) (by decide) (by decide)) (by decide) (by decide)) hc_k90)
     (fun h_19 =>
    have f_21 := (rg_hlt (Int32.not_le.mp h_19) (rg_andr (rg_c (x := (15 : Int32)) (n := 15) rfl) (by decide)) (rg_c (x := (8 : Int32)) (n := 8) rfl))
    s_B_X5_deltaCodes_163_R hN hR hk_k90 hS_V_12 r_l1 (rg_m f_3 (by decide) (by decide)) (rl_m f_18 (by decide) (by decide)) (rg_m f_2 (by decide) (by decide)) (rg_m (rg_sub f_21 (rg_c (x := (8 : Int32)) (n := 8) rfl) (by decide) (by decide)) (by decide) (by decide)) hc_k90))
     (fun h_16 =>
    s_B_X5_deltaCodes_198_R hN hR hk_k90 hS_V_12 r_l1 (rg_m f_3 (by decide) (by decide)) r_l3 (rg_m f_2 (by decide) (by decide)) hc_k90))
     (fun h_4 =>
    sf_sV hS_V))
theorem s_B_X5_deltaCodes_87_R {G : sv_V} {N : Nat} (hN : 8589934592 ≤ N) {bo bm : Nat} (hR : RefsOf G bo bm) {l1 : Int32} {l2 : Int32} {l3 : Int64} {V : sv_V} (hS_V : SIx T_cR G V) (r_l1 : rg l1 (0) (255)) (r_l2 : rg l2 (0) (2147483647)) (r_l3 : rl l3 (-2147483648) (4294967295)) : Sg (SIx T_cR G) (B_X5_deltaCodes_87 N l1 l2 l3 V) := by
  unfold B_X5_deltaCodes_87
  exact
    lp5_up (I := fun l1 l2 l3 l5 V => (SIx T_cR G V) ∧ (rg l1 (0) (255)) ∧ (rg l2 (0) (2147483647)) ∧ (rl l3 (-2147483648) (4294967295)) ∧ (rg l5 (0) (2147483647))) (fun _ _ _ l5 _ => l5.toInt) (0) (2147483647) (fun l1 l2 l3 l5 V h => by
      obtain ⟨hS_V, r_l1, r_l2, r_l3, r_l5⟩ := h
      have := r_l5; unfold rg at this; omega) (fun k l1 l2 l3 l5 V h hk => by
      obtain ⟨hS_V, r_l1, r_l2, r_l3, r_l5⟩ := h
      exact s_B_X5_deltaCodes_90_R hN hR (fun l1 l2 l3 l5 V hS_V r_l1 r_l2 r_l3 r_l5 hc_k90  => hk l1 l2 l3 l5 V (by exact ⟨hS_V, r_l1, r_l2, r_l3, r_l5⟩) (hc_k90)) hS_V r_l1 r_l2 r_l3 r_l5 (Int.le_refl _)) N (by have := hN; omega) _ _ _ _ _ (by exact ⟨hS_V, r_l1, r_l2, r_l3, (rg_m (rg_c (x := (0 : Int32)) (n := 0) rfl) (by decide) (by decide))⟩)
theorem s_B_X5_deltaCodes_60_R {G : sv_V} {N : Nat} (hN : 8589934592 ≤ N) {bo bm : Nat} (hR : RefsOf G bo bm) {l1 : Int32} {l2 : Int32} {l3 : Int64} {V : sv_V} (hS_V : SIx T_cR G V) (r_l1 : rg l1 (113) (116)) (r_l2 : rg l2 (0) (2147483647)) (r_l3 : rl l3 (-2147483648) (2147483647)) : Sg (SIx T_cR G) (B_X5_deltaCodes_60 N l1 l2 l3 V) := by
  unfold B_X5_deltaCodes_60
  exact
    sf_let fun x_1 q_2 =>
    have f_3 := rl_eq q_2 (rl_add r_l3 (rl_c (x := (16 : Int64)) (n := 16) rfl) (by decide) (by decide))
    s_B_X5_deltaCodes_87_R hN hR hS_V (rg_m r_l1 (by decide) (by decide)) r_l2 (rl_m f_3 (by decide) (by decide))
theorem s_B_X5_deltaCodes_81_R {G : sv_V} {N : Nat} (hN : 8589934592 ≤ N) {bo bm : Nat} (hR : RefsOf G bo bm) {l1 : Int32} {l2 : Int32} {l3 : Int64} {V : sv_V} (hS_V : SIx T_cR G V) (r_l1 : rg l1 (114) (117)) (r_l2 : rg l2 (0) (2147483647)) (r_l3 : rl l3 (-2147483648) (2147483647)) : Sg (SIx T_cR G) (B_X5_deltaCodes_81 N l1 l2 l3 V) := by
  unfold B_X5_deltaCodes_81
  exact
    sf_let fun x_1 q_2 =>
    have f_3 := rl_eq q_2 (rl_add r_l3 (rl_c (x := (32 : Int64)) (n := 32) rfl) (by decide) (by decide))
    s_B_X5_deltaCodes_87_R hN hR hS_V (rg_m r_l1 (by decide) (by decide)) r_l2 (rl_m f_3 (by decide) (by decide))
theorem s_F_X5_deltaCodes_R {G : sv_V} {N : Nat} (hN : 8589934592 ≤ N) {bo bm : Nat} (hR : RefsOf G bo bm) {l1 : Int32} {V : sv_V} (hS_V : SIx T_cR G V) (r_l1 : rg l1 (0) (255)) : Sg (SIx T_cR G) (F_X5_deltaCodes N l1 V) := by
  unfold F_X5_deltaCodes
  exact
    sf_eI (s_F_X5_pop_R hN hR hS_V) fun x_1 V_2 e_4 hS_V_2 r_3 =>
    sf_ite (fun h_6 =>
    have f_7 := (rg_lle h_6 (rg_c (x := (0 : Int32)) (n := 0) rfl) r_3)
    sf_ite (fun h_8 =>
    sf_o (c := bm) (ref6 hS_V_2 hR rfl) <|
    sf_p (lay_S hR.2.1 (by decide +kernel)) <|
    sf_crS (T := [44, 58]) hR.2.1 (by decide +kernel) fun b_10 m_12 q_11 =>
    sf_lenE (n := 9) m_12 (by decide +kernel) <|
    sf_p (in_rg (rg_c (x := (5 : Int32)) (n := 5) rfl) (by decide) (by decide)) <|
    sf_let fun x_14 q_15 =>
    have f_16 := rl_eq q_15 (rl_w rg_t)
    sf_ite (fun h_17 =>
    have f_18 := (rg_eq h_17 (rg_c (x := (113 : Int32)) (n := 113) rfl))
    s_B_X5_deltaCodes_60_R hN hR hS_V_2 (rg_m f_18 (by decide) (by decide)) (rg_m f_7 (by decide) (by decide)) (rl_m f_16 (by decide) (by decide)))
     (fun h_17 =>
    sf_ite (fun h_19 =>
    have f_20 := (rg_eq h_19 (rg_c (x := (116 : Int32)) (n := 116) rfl))
    s_B_X5_deltaCodes_60_R hN hR hS_V_2 (rg_m f_20 (by decide) (by decide)) (rg_m f_7 (by decide) (by decide)) (rl_m f_16 (by decide) (by decide)))
     (fun h_19 =>
    sf_ite (fun h_21 =>
    have f_22 := (rg_eq h_21 (rg_c (x := (114 : Int32)) (n := 114) rfl))
    s_B_X5_deltaCodes_81_R hN hR hS_V_2 (rg_m f_22 (by decide) (by decide)) (rg_m f_7 (by decide) (by decide)) (rl_m f_16 (by decide) (by decide)))
     (fun h_21 =>
    sf_ite (fun h_23 =>
    have f_24 := (rg_eq h_23 (rg_c (x := (117 : Int32)) (n := 117) rfl))
    s_B_X5_deltaCodes_81_R hN hR hS_V_2 (rg_m f_24 (by decide) (by decide)) (rg_m f_7 (by decide) (by decide)) (rl_m f_16 (by decide) (by decide)))
     (fun h_23 =>
    s_B_X5_deltaCodes_87_R hN hR hS_V_2 r_l1 (rg_m f_7 (by decide) (by decide)) (rl_m f_16 (by decide) (by decide)))))))
     (fun h_8 =>
    sf_w (hS_V_2.wc oi_RcR_69_14 (rg_m (rg_c (x := (1 : Int32)) (n := 1) rfl) (by decide) (by decide))) fun V_26 q_27 hS_V_26 =>
    sf_sV hS_V_26))
     (fun h_6 =>
    sf_w (hS_V_2.wc oi_RcR_69_14 (rg_m (rg_c (x := (11 : Int32)) (n := 11) rfl) (by decide) (by decide))) fun V_29 q_30 hS_V_29 =>
    sf_sV hS_V_29)
theorem s_F_X6_offset_P {G : sv_V} {hN_ : Nat} (hN : 8589934592 ≤ hN_) {V : sv_V} {l1 : Int32} (hS_V : SIx T_cP G V) (r_l1 : rg l1 (-32768) (65535)) : Sg (QP V (-2147483648) (2147483647)) (F_X6_offset l1 V) := by
  unfold F_X6_offset
  exact
    sf_qL (s_F_X5_scaled_P hN hS_V (rl_m (rl_w r_l1) (by decide) (by decide))) fun x_1 r_2 =>
    sf_ite (fun h_3 =>
    sf_pI rg_t)
     (fun h_3 =>
    sf_qL (s_F_X11_toWholePixel_P hN hS_V) fun x_6 r_7 =>
    sf_pI rg_t)
theorem s_B_X7_renew_21_P {G : sv_V} {N : Nat} (hN : 8589934592 ≤ N) {k21 : Nat → Int32 → Int32 → sv_V → Option sv_V} {c_k21 : Int} (hk_k21 : ∀ (l2 : Int32) (l3 : Int32) (V : sv_V), SIx T_cP G V → rg l2 (4) (48) → rg l3 (0) (256) → c_k21 < l3.toInt → Sg (SIx T_cP G) (k21 31 l2 l3 V)) {l2 : Int32} {l3 : Int32} {V : sv_V} (hS_V : SIx T_cP G V) (r_l2 : rg l2 (4) (48)) (r_l3 : rg l3 (0) (256)) (hc_k21 : c_k21 ≤ l3.toInt) : Sg (SIx T_cP G) (B_X7_renew_21 N k21 31 l2 l3 V) := by
  unfold B_X7_renew_21
  exact
    sf_p (by decide +kernel) <|
    sf_ite (fun h_1 =>
    sf_w (hS_V.wc oi_RcP_31_3 (rg_m (hS_V.rd r_RcP_6_2) (by decide) (by decide))) fun V_2 q_3 hS_V_2 =>
    sf_o (c := 33) (by decide) <|
    sf_eV (s_fillI hN hS_V_2 (by decide +kernel) (n := 64) (by decide) oia_RcP_33 (rg_m (rg_c (x := (0 : Int32)) (n := 0) rfl) (by decide) (by decide))) fun V_4 e_5 hS_V_4 =>
    sf_o (c := 34) (by decide) <|
    sf_eV (s_F_X8_clearTo_P hN hS_V_4 (rg_m (hS_V_4.rd r_RcP_6_1) (by decide) (by decide))) fun V_7 e_8 hS_V_7 =>
    sf_p (by decide +kernel) <|
    sf_o (c := 44) (by decide) <|
    sf_o (c := 9) (by decide +kernel) <|
    sf_p (cpo_rg (m := 9) (rg_c (x := (0 : Int32)) (n := 0) rfl) (rg_c (x := Int32.ofNat 9) (n := 9) rfl) (by decide) (by decide) (by decide) (Nat.le_refl _)) <|
    sf_p (cpo_rg (m := 9) (rg_c (x := (0 : Int32)) (n := 0) rfl) (rg_c (x := Int32.ofNat 9) (n := 9) rfl) (by decide) (by decide) (by decide) (Nat.le_refl _)) <|
    sf_w (hS_V_7.wC oc_RcP_1003_44) fun V_10 q_11 hS_V_10 =>
    sf_sV hS_V_10)
     (fun h_1 =>
    have f_12 := (rg_hlt (Int32.not_le.mp h_1) r_l3 (hS_V.rd r_RcP_31_1))
    sf_qI (s_F_X2_s2_P hN hS_V (rg_m (rg_add (hS_V.rd r_RcP_4_8) (rg_mul (l := (0)) (h := (510)) (rg_c (x := (2 : Int32)) (n := 2) rfl) f_12 (by decide)) (by decide) (by decide)) (by decide) (by decide))) fun x_14 r_15 =>
    sf_let fun x_16 q_17 =>
    sf_o (c := 32) (by decide) <|
    sf_qL (s_F_X11_nearest_P hN hS_V (rl_m (rl_w (hS_V.rd r_RcP_2_6)) (by decide) (by decide))) fun x_19 r_20 =>
    sf_o (c := 256) (by decide +kernel) <|
    sf_p (in_rg f_12 (by decide) (by decide)) <|
    sf_w (hS_V.wna ona_RcP_32) fun V_21 q_22 hS_V_21 =>
    sf_let fun x_23 q_24 =>
    have f_25 := rg_eq q_24 (rg_add f_12 (rg_c (x := (1 : Int32)) (n := 1) rfl) (by decide) (by decide))
    hk_k21 _ _ _ hS_V_21 r_l2 (rg_m f_25 (by decide) (by decide)) (cnt_u0 q_24 f_12 (by decide) hc_k21))
theorem s_F_X7_renew_P {G : sv_V} {N : Nat} (hN : 8589934592 ≤ N) {l2 : Int32} {V : sv_V} (hS_V : SIx T_cP G V) (r_l2 : rg l2 (4) (48)) : Sg (SIx T_cP G) (F_X7_renew N 31 l2 V) := by
  unfold F_X7_renew
  exact
    sf_iteb (fun h_4 =>
    False.elim (rg_nolt h_4 (rg_c (x := (256 : Int32)) (n := 256) rfl) (rg_divc (hS_V.rd r_RcP_5_8) (rg_c (x := (2 : Int32)) (n := 2) rfl) (by decide) (by decide)) (by decide)))
     (fun h_4 =>
    sf_someb <|
    sf_p (by decide +kernel) <|
    sf_w (hS_V.wc oi_RcP_31_1 (rg_m (rg_divc (hS_V.rd r_RcP_5_8) (rg_c (x := (2 : Int32)) (n := 2) rfl) (by decide) (by decide)) (by decide) (by decide))) fun V_5 q_6 hS_V_5 =>
    lp4_up (I := fun l0 l2 l3 V => l0 = 31 ∧ (SIx T_cP G V) ∧ (rg l2 (4) (48)) ∧ (rg l3 (0) (256))) (fun _ _ l3 _ => l3.toInt) (0) (256) (fun l0 l2 l3 V h => by
      obtain ⟨e_l0, hS_V, r_l2, r_l3⟩ := h
      have := r_l3; unfold rg at this; omega) (fun k l0 l2 l3 V h hk => by
      obtain ⟨e_l0, hS_V, r_l2, r_l3⟩ := h
      subst e_l0
      exact s_B_X7_renew_21_P hN (fun l2 l3 V hS_V r_l2 r_l3 hc_k21  => hk 31 l2 l3 V (by exact ⟨rfl, hS_V, r_l2, r_l3⟩) (hc_k21)) hS_V r_l2 r_l3 (Int.le_refl _)) N (by have := hN; omega) _ _ _ _ (by exact ⟨rfl, hS_V_5, r_l2, (rg_m (rg_c (x := (0 : Int32)) (n := 0) rfl) (by decide) (by decide))⟩))
theorem s_B_X8_beginProgram_101_P {G : sv_V} {N : Nat} (hN : 8589934592 ≤ N) {k101 : Nat → Int32 → Int32 → sv_V → Option sv_V} {c_k101 : Int} (hk_k101 : ∀ (l0 : Nat) (l1 : Int32) (l2 : Int32) (V : sv_V), SIx T_cP G V → l0 ∈ [93, 103, 113, 123, 133] → rg l1 (2) (102) → rg l2 (0) (102) → c_k101 < l2.toInt → Sg (SIx T_cP G) (k101 l0 l1 l2 V)) {l0 : Nat} {l1 : Int32} {l2 : Int32} {V : sv_V} (hS_V : SIx T_cP G V) (m_l0 : l0 ∈ [93, 103, 113, 123, 133]) (r_l1 : rg l1 (2) (102)) (r_l2 : rg l2 (0) (102)) (hc_k101 : c_k101 ≤ l2.toInt) : Sg (SIx T_cP G) (B_X8_beginProgram_101 N k101 l0 l1 l2 V) := by
  unfold B_X8_beginProgram_101
  exact
    sf_ite (fun h_1 =>
    sf_sV hS_V)
     (fun h_1 =>
    have f_3 := (rg_hlt (Int32.not_le.mp h_1) r_l2 r_l1)
    sf_p (lay_S m_l0 (by decide +kernel)) <|
    sf_crS (T := [97, 107, 117, 127, 137]) m_l0 (by decide +kernel) fun b_4 m_6 q_5 =>
    sf_lenE (n := 102) m_6 (by decide +kernel) <|
    sf_p (in_rg f_3 (by decide) (by decide)) <|
    sf_qL (s_F_X11_toWholePixel_P hN hS_V) fun x_8 r_9 =>
    sf_p (in_rg f_3 (by decide) (by decide)) <|
    sf_w (hS_V.wnSa m_6 osa_RcP_97107117127137) fun V_10 q_11 hS_V_10 =>
    sf_let fun x_12 q_13 =>
    have f_14 := rg_eq q_13 (rg_add f_3 (rg_c (x := (1 : Int32)) (n := 1) rfl) (by decide) (by decide))
    hk_k101 _ _ _ _ hS_V_10 m_l0 r_l1 (rg_m f_14 (by decide) (by decide)) (cnt_u0 q_13 f_3 (by decide) hc_k101))
theorem s_B_X8_beginProgram_2_P {G : sv_V} {N : Nat} (hN : 8589934592 ≤ N) {k2 : Nat → Int32 → sv_V → Option sv_V} {c_k2 : Int} (hk_k2 : ∀ (l0 : Nat) (l1 : Int32) (V : sv_V), SIx T_cP G V → l0 ∈ [93, 103, 113, 123, 133] → rg l1 (0) (2) → l1.toInt < cap l0 → c_k2 < l1.toInt → Sg (SIx T_cP G) (k2 l0 l1 V)) {l0 : Nat} {l1 : Int32} {V : sv_V} (hS_V : SIx T_cP G V) (m_l0 : l0 ∈ [93, 103, 113, 123, 133]) (r_l1 : rg l1 (0) (2)) (cp_l1_l0 : l1.toInt < cap l0) (hc_k2 : c_k2 ≤ l1.toInt) : Sg (SIx T_cP G) (B_X8_beginProgram_2 N k2 l0 l1 V) := by
  unfold B_X8_beginProgram_2
  exact
    sf_p (lay_S m_l0 (by decide +kernel)) <|
    sf_ite (fun h_1 =>
    sf_let fun x_3 q_4 =>
    have f_5 := rg_eq q_4 (rg_add (hS_V.rdS m_l0 rs_RcP_93103113123133_9_0_100) (hS_V.rdS m_l0 rs_RcP_93103113123133_11_2_2) (by decide) (by decide))
    sf_crS (T := [97, 107, 117, 127, 137]) m_l0 (by decide +kernel) fun b_6 m_8 q_7 =>
    sf_crS (T := [99, 109, 119, 129, 139]) m_l0 (by decide +kernel) fun b_9 m_11 q_10 =>
    sf_lenE (n := 102) m_8 (by decide +kernel) <|
    sf_lenE (n := 102) m_11 (by decide +kernel) <|
    sf_p (cpo_rg (m := 102) (rg_c (x := (0 : Int32)) (n := 0) rfl) f_5 (by decide) (by decide) (by decide) (Nat.le_refl _)) <|
    sf_p (cpo_rg (m := 102) (rg_c (x := (0 : Int32)) (n := 0) rfl) f_5 (by decide) (by decide) (by decide) (Nat.le_refl _)) <|
    sf_w (hS_V.wC (okCS (M := [99, 109, 119, 129, 139]) m_11 osa_RcP_99109119129139)) fun V_14 q_15 hS_V_14 =>
    sf_crS (T := [98, 108, 118, 128, 138]) m_l0 (by decide +kernel) fun b_16 m_18 q_17 =>
    sf_crS (T := [100, 110, 120, 130, 140]) m_l0 (by decide +kernel) fun b_19 m_21 q_20 =>
    sf_lenE (n := 102) m_18 (by decide +kernel) <|
    sf_lenE (n := 102) m_21 (by decide +kernel) <|
    sf_p (cpo_rg (m := 102) (rg_c (x := (0 : Int32)) (n := 0) rfl) f_5 (by decide) (by decide) (by decide) (Nat.le_refl _)) <|
    sf_p (cpo_rg (m := 102) (rg_c (x := (0 : Int32)) (n := 0) rfl) f_5 (by decide) (by decide) (by decide) (Nat.le_refl _)) <|
    sf_w (hS_V_14.wC (okCS (M := [100, 110, 120, 130, 140]) m_21 osa_RcP_100110120130140)) fun V_24 q_25 hS_V_24 =>
    sf_crS (T := [101, 111, 121, 131, 141]) m_l0 (by decide +kernel) fun b_26 m_28 q_27 =>
    sf_eV (s_fillS hN hS_V_24 m_28 (by decide +kernel) (n := 102) (by decide) ota_RcP_101111121131141_0_3 (rg_m (rg_c (x := (0 : Int32)) (n := 0) rfl) (by decide) (by decide))) fun V_29 e_30 hS_V_29 =>
    sf_let fun x_32 q_33 =>
    have f_34 := rg_eq q_33 (hS_V_29.rdS m_l0 rs_RcP_93103113123133_9_0_100)
    lp4_up (I := fun l0 l1 l2 V => (SIx T_cP G V) ∧ (l0 ∈ [93, 103, 113, 123, 133]) ∧ (rg l1 (2) (102)) ∧ (rg l2 (0) (102))) (fun _ _ l2 _ => l2.toInt) (0) (102) (fun l0 l1 l2 V h => by
      obtain ⟨hS_V, m_l0, r_l1, r_l2⟩ := h
      have := r_l2; unfold rg at this; omega) (fun k l0 l1 l2 V h hk => by
      obtain ⟨hS_V, m_l0, r_l1, r_l2⟩ := h
      exact s_B_X8_beginProgram_101_P hN (fun l0 l1 l2 V hS_V m_l0 r_l1 r_l2 hc_k101  => hk l0 l1 l2 V (by exact ⟨hS_V, m_l0, r_l1, r_l2⟩) (hc_k101)) hS_V m_l0 r_l1 r_l2 (Int.le_refl _)) N (by have := hN; omega) _ _ _ _ (by exact ⟨hS_V_29, m_l0, (rg_m f_5 (by decide) (by decide)), (rg_m f_34 (by decide) (by decide))⟩))
     (fun h_1 =>
    have f_35 := (rg_hlt (Int32.not_le.mp h_1) r_l1 (hS_V.rdS m_l0 rs_RcP_93103113123133_11_2_2))
    sf_crS (T := [97, 107, 117, 127, 137]) m_l0 (by decide +kernel) fun b_36 m_38 q_37 =>
    sf_crS (T := [95, 105, 115, 125, 135]) m_l0 (by decide +kernel) fun b_39 m_41 q_40 =>
    sf_lenE (n := 2) m_41 (by decide +kernel) <|
    sf_p (in_rg f_35 (by decide) (by decide)) <|
    sf_lenE (n := 102) m_38 (by decide +kernel) <|
    sf_p (in_rg (rg_add (hS_V.rdS m_l0 rs_RcP_93103113123133_9_0_100) f_35 (by decide) (by decide)) (by decide) (by decide)) <|
    sf_w (hS_V.wnSa m_38 osa_RcP_97107117127137) fun V_44 q_45 hS_V_44 =>
    sf_crS (T := [98, 108, 118, 128, 138]) m_l0 (by decide +kernel) fun b_46 m_48 q_47 =>
    sf_crS (T := [96, 106, 116, 126, 136]) m_l0 (by decide +kernel) fun b_49 m_51 q_50 =>
    sf_lenE (n := 2) m_51 (by decide +kernel) <|
    sf_p (in_rg f_35 (by decide) (by decide)) <|
    sf_lenE (n := 102) m_48 (by decide +kernel) <|
    sf_p (in_rg (rg_add (hS_V_44.rdS m_l0 rs_RcP_93103113123133_9_0_100) f_35 (by decide) (by decide)) (by decide) (by decide)) <|
    sf_w (hS_V_44.wnSa m_48 osa_RcP_98108118128138) fun V_54 q_55 hS_V_54 =>
    sf_let fun x_56 q_57 =>
    have f_58 := rg_eq q_57 (rg_add f_35 (rg_c (x := (1 : Int32)) (n := 1) rfl) (by decide) (by decide))
    hk_k2 _ _ _ hS_V_54 m_l0 (rg_m f_58 (by decide) (by decide)) (cap_S m_l0 (by decide) f_58) (cnt_u0 q_57 f_35 (by decide) hc_k2))
theorem s_F_X8_beginProgram_P {G : sv_V} {N : Nat} (hN : 8589934592 ≤ N) {l0 : Nat} {V : sv_V} (hS_V : SIx T_cP G V) (m_l0 : l0 ∈ [93, 103, 113, 123, 133]) : Sg (SIx T_cP G) (F_X8_beginProgram N l0 V) := by
  unfold F_X8_beginProgram
  exact
    lp3_up (I := fun l0 l1 V => (SIx T_cP G V) ∧ (l0 ∈ [93, 103, 113, 123, 133]) ∧ (rg l1 (0) (2)) ∧ (l1.toInt < cap l0)) (fun _ l1 _ => l1.toInt) (0) (2) (fun l0 l1 V h => by
      obtain ⟨hS_V, m_l0, r_l1, cp_l1_l0⟩ := h
      have := r_l1; unfold rg at this; omega) (fun k l0 l1 V h hk => by
      obtain ⟨hS_V, m_l0, r_l1, cp_l1_l0⟩ := h
      exact s_B_X8_beginProgram_2_P hN (fun l0 l1 V hS_V m_l0 r_l1 cp_l1_l0 hc_k2  => hk l0 l1 V (by exact ⟨hS_V, m_l0, r_l1, cp_l1_l0⟩) (hc_k2)) hS_V m_l0 r_l1 cp_l1_l0 (Int.le_refl _)) N (by have := hN; omega) _ _ _ (by exact ⟨hS_V, m_l0, (rg_m (rg_c (x := (0 : Int32)) (n := 0) rfl) (by decide) (by decide)), (cap_S m_l0 (by decide) (rg_c (x := (0 : Int32)) (n := 0) rfl))⟩)
theorem s_F_X9_renew_R {G : sv_V} {N : Nat} (hN : 8589934592 ≤ N) {bo bm : Nat} (hR : RefsOf G bo bm) {V : sv_V} (hS_V : SIx T_cR G V) : Sg (SIx T_cR G) (F_X9_renew N V) := by
  unfold F_X9_renew
  exact
    sf_eV (s_F_X9_goAlong_R hN hR hS_V (rg_m (rg_c (x := (1 : Int32)) (n := 1) rfl) (by decide) (by decide))) fun V_1 e_2 hS_V_1 =>
    sf_eV (s_fillI hN hS_V_1 (by decide +kernel) (n := 3) (by decide) oia_RcR_71 (rg_m (rg_c (x := (0 : Int32)) (n := 0) rfl) (by decide) (by decide))) fun V_4 e_5 hS_V_4 =>
    sf_eV (s_fillI hN hS_V_4 (by decide +kernel) (n := 3) (by decide) oia_RcR_72 (rg_m (rg_c (x := (1 : Int32)) (n := 1) rfl) (by decide) (by decide))) fun V_7 e_8 hS_V_7 =>
    sf_w (hS_V_7.wc oi_RcR_70_8 (rg_m (rg_c (x := (1 : Int32)) (n := 1) rfl) (by decide) (by decide))) fun V_10 q_11 hS_V_10 =>
    sf_eV (s_F_X9_roundBy_R hN hR hS_V_10 (rg_m (rg_c (x := (24 : Int32)) (n := 24) rfl) (by decide) (by decide))) fun V_12 e_13 hS_V_12 =>
    sf_sV hS_V_12
theorem s_B_X10_trace_55_P {G : sv_V} {N : Nat} (hN : 8589934592 ≤ N) {k55 : Nat → Int32 → sv_V → Option sv_V} {c_k55 : Int} (hk_k55 : ∀ (l2 : Int32) (V : sv_V), SIx T_cP G V → rg l2 (0) (100) → c_k55 < l2.toInt → Sg (SIx T_cP G) (k55 93 l2 V)) {l2 : Int32} {V : sv_V} (hS_V : SIx T_cP G V) (r_l2 : rg l2 (0) (100)) (hc_k55 : c_k55 ≤ l2.toInt) : Sg (SIx T_cP G) (B_X10_trace_55 N k55 93 l2 V) := by
  unfold B_X10_trace_55
  exact
    sf_p (by decide +kernel) <|
    sf_ite (fun h_1 =>
    sf_sV hS_V)
     (fun h_1 =>
    have f_2 := (rg_hlt (Int32.not_le.mp h_1) r_l2 (hS_V.rd r_RcP_93_9))
    sf_o (c := 97) (by decide) <|
    sf_o (c := 102) (by decide +kernel) <|
    sf_p (in_rg f_2 (by decide) (by decide)) <|
    sf_iteb (fun h_7 =>
    have f_8 := (rg_hlt h_7 rg_t (hS_V.rd r_RcP_60_11))
    sf_someb <|
    sf_w (hS_V.wc oi_RcP_60_11 (rg_m f_8 (by decide) (by decide))) fun V_10 q_11 hS_V_10 =>
    sf_p (in_rg f_2 (by decide) (by decide)) <|
    sf_iteb (fun h_15 =>
    have f_17 := (rg_llt h_15 (hS_V_10.rd r_RcP_60_12) rg_t)
    sf_someb <|
    sf_w (hS_V_10.wc oi_RcP_60_12 (rg_m f_17 (by decide) (by decide))) fun V_18 q_19 hS_V_18 =>
    sf_let fun x_20 q_21 =>
    have f_22 := rg_eq q_21 (rg_add f_2 (rg_c (x := (1 : Int32)) (n := 1) rfl) (by decide) (by decide))
    hk_k55 _ _ hS_V_18 (rg_m f_22 (by decide) (by decide)) (cnt_u0 q_21 f_2 (by decide) hc_k55))
     (fun h_15 =>
    sf_someb <|
    sf_w (hS_V_10.wc oi_RcP_60_12 (rg_m (hS_V_10.rd r_RcP_60_12) (by decide) (by decide))) fun V_23 q_24 hS_V_23 =>
    sf_let fun x_25 q_26 =>
    have f_27 := rg_eq q_26 (rg_add f_2 (rg_c (x := (1 : Int32)) (n := 1) rfl) (by decide) (by decide))
    hk_k55 _ _ hS_V_23 (rg_m f_27 (by decide) (by decide)) (cnt_u0 q_26 f_2 (by decide) hc_k55)))
     (fun h_7 =>
    sf_someb <|
    sf_w (hS_V.wc oi_RcP_60_11 (rg_m (hS_V.rd r_RcP_60_11) (by decide) (by decide))) fun V_28 q_29 hS_V_28 =>
    sf_p (in_rg f_2 (by decide) (by decide)) <|
    sf_iteb (fun h_33 =>
    have f_35 := (rg_llt h_33 (hS_V_28.rd r_RcP_60_12) rg_t)
    sf_someb <|
    sf_w (hS_V_28.wc oi_RcP_60_12 (rg_m f_35 (by decide) (by decide))) fun V_36 q_37 hS_V_36 =>
    sf_let fun x_38 q_39 =>
    have f_40 := rg_eq q_39 (rg_add f_2 (rg_c (x := (1 : Int32)) (n := 1) rfl) (by decide) (by decide))
    hk_k55 _ _ hS_V_36 (rg_m f_40 (by decide) (by decide)) (cnt_u0 q_39 f_2 (by decide) hc_k55))
     (fun h_33 =>
    sf_someb <|
    sf_w (hS_V_28.wc oi_RcP_60_12 (rg_m (hS_V_28.rd r_RcP_60_12) (by decide) (by decide))) fun V_41 q_42 hS_V_41 =>
    sf_let fun x_43 q_44 =>
    have f_45 := rg_eq q_44 (rg_add f_2 (rg_c (x := (1 : Int32)) (n := 1) rfl) (by decide) (by decide))
    hk_k55 _ _ hS_V_41 (rg_m f_45 (by decide) (by decide)) (cnt_u0 q_44 f_2 (by decide) hc_k55))))
theorem s_B_X10_trace_7_P {G : sv_V} {N : Nat} (hN : 8589934592 ≤ N) {k7 : Nat → Int32 → sv_V → Option sv_V} {c_k7 : Int} (hk_k7 : ∀ (l2 : Int32) (V : sv_V), SIx T_cP G V → rg l2 (0) (20) → c_k7 < l2.toInt → Sg (SIx T_cP G) (k7 93 l2 V)) {l2 : Int32} {V : sv_V} (hS_V : SIx T_cP G V) (r_l2 : rg l2 (0) (20)) (hc_k7 : c_k7 ≤ l2.toInt) : Sg (SIx T_cP G) (B_X10_trace_7 N k7 93 l2 V) := by
  unfold B_X10_trace_7
  exact
    sf_p (by decide +kernel) <|
    sf_ite (fun h_1 =>
    sf_w (hS_V.wc oi_RcP_60_11 (rg_m (rg_c (x := (8193 : Int32)) (n := 8193) rfl) (by decide) (by decide))) fun V_2 q_3 hS_V_2 =>
    sf_w (hS_V_2.wc oi_RcP_60_12 (rg_m (rg_neg (wr_s q_3 (rg_c (x := (8193 : Int32)) (n := 8193) rfl)) (by decide)) (by decide) (by decide))) fun V_4 q_5 hS_V_4 =>
    lp3_up (I := fun l1 l2 V => l1 = 93 ∧ (SIx T_cP G V) ∧ (rg l2 (0) (100))) (fun _ l2 _ => l2.toInt) (0) (100) (fun l1 l2 V h => by
      obtain ⟨e_l1, hS_V, r_l2⟩ := h
      have := r_l2; unfold rg at this; omega) (fun k l1 l2 V h hk => by
      obtain ⟨e_l1, hS_V, r_l2⟩ := h
      subst e_l1
      exact s_B_X10_trace_55_P hN (fun l2 V hS_V r_l2 hc_k55  => hk 93 l2 V (by exact ⟨rfl, hS_V, r_l2⟩) (hc_k55)) hS_V r_l2 (Int.le_refl _)) N (by have := hN; omega) _ _ _ (by exact ⟨rfl, hS_V_4, (rg_m (rg_c (x := (0 : Int32)) (n := 0) rfl) (by decide) (by decide))⟩))
     (fun h_1 =>
    have f_6 := (rg_hlt (Int32.not_le.mp h_1) r_l2 (hS_V.rd r_RcP_93_10))
    sf_iteb (fun h_13 =>
    have f_14 := (rg_eq h_13 (rg_c (x := (0 : Int32)) (n := 0) rfl))
    sf_someb <|
    sf_o (c := 94) (by decide) <|
    sf_o (c := 20) (by decide +kernel) <|
    sf_p (in_rg f_14 (by decide) (by decide)) <|
    sf_eV (s_F_X10_traceContour_P hN hS_V (rg_m (rg_c (x := (0 : Int32)) (n := 0) rfl) (by decide) (by decide)) (rg_m (hS_V.rdA (k := l2.toNatClampNeg) ra_RcP_94) (by decide) (by decide))) fun V_15 e_16 hS_V_15 =>
    sf_let fun x_18 q_19 =>
    have f_20 := rg_eq q_19 (rg_add f_14 (rg_c (x := (1 : Int32)) (n := 1) rfl) (by decide) (by decide))
    hk_k7 _ _ hS_V_15 (rg_m f_20 (by decide) (by decide)) (cnt_u0 q_19 f_14 (by decide) hc_k7))
     (fun h_13 =>
    have f_21 := (rg_nel h_13 f_6 (rg_c (x := (0 : Int32)) (n := 0) rfl))
    sf_pb (by decide +kernel) <|
    sf_ob (c := 94) (by decide) <|
    sf_ob (c := 20) (by decide +kernel) <|
    sf_pb (in_rg (rg_sub f_21 (rg_c (x := (1 : Int32)) (n := 1) rfl) (by decide) (by decide)) (by decide) (by decide)) <|
    sf_someb <|
    sf_o (c := 94) (by decide) <|
    sf_o (c := 20) (by decide +kernel) <|
    sf_p (in_rg f_21 (by decide) (by decide)) <|
    sf_eV (s_F_X10_traceContour_P hN hS_V (rg_m (rg_add (hS_V.rdA (k := (l2 - (1 : Int32)).toNatClampNeg) ra_RcP_94) (rg_c (x := (1 : Int32)) (n := 1) rfl) (by decide) (by decide)) (by decide) (by decide)) (rg_m (hS_V.rdA (k := l2.toNatClampNeg) ra_RcP_94) (by decide) (by decide))) fun V_23 e_24 hS_V_23 =>
    sf_let fun x_26 q_27 =>
    have f_28 := rg_eq q_27 (rg_add f_21 (rg_c (x := (1 : Int32)) (n := 1) rfl) (by decide) (by decide))
    hk_k7 _ _ hS_V_23 (rg_m f_28 (by decide) (by decide)) (cnt_u0 q_27 f_21 (by decide) hc_k7)))
theorem s_F_X10_trace_P {G : sv_V} {N : Nat} (hN : 8589934592 ≤ N) {V : sv_V} (hS_V : SIx T_cP G V) : Sg (SIx T_cP G) (F_X10_trace N 93 V) := by
  unfold F_X10_trace
  exact
    sf_w (hS_V.wc oi_RcP_60_7 (rg_m (rg_c (x := (0 : Int32)) (n := 0) rfl) (by decide) (by decide))) fun V_1 q_2 hS_V_1 =>
    lp3_up (I := fun l1 l2 V => l1 = 93 ∧ (SIx T_cP G V) ∧ (rg l2 (0) (20))) (fun _ l2 _ => l2.toInt) (0) (20) (fun l1 l2 V h => by
      obtain ⟨e_l1, hS_V, r_l2⟩ := h
      have := r_l2; unfold rg at this; omega) (fun k l1 l2 V h hk => by
      obtain ⟨e_l1, hS_V, r_l2⟩ := h
      subst e_l1
      exact s_B_X10_trace_7_P hN (fun l2 V hS_V r_l2 hc_k7  => hk 93 l2 V (by exact ⟨rfl, hS_V, r_l2⟩) (hc_k7)) hS_V r_l2 (Int.le_refl _)) N (by have := hN; omega) _ _ _ (by exact ⟨rfl, hS_V_1, (rg_m (rg_c (x := (0 : Int32)) (n := 0) rfl) (by decide) (by decide))⟩)
theorem s_B_X10_holds_81_P {G : sv_V} {N : Nat} (hN : 8589934592 ≤ N) {k7 : Int32 → Int32 → Int32 → sv_V → Option ( Int32 × sv_V )} {c_k7 : Int} (hk_k7 : ∀ (l1 : Int32) (l2 : Int32) (l3 : Int32) (V : sv_V), SIx T_cP G V → rg l1 (-40000) (65535) → rg l2 (-39936) (65535) → rg l3 (0) (100) → c_k7 < l3.toInt → Sg (QI T_cP G (0) (1)) (k7 l1 l2 l3 V)) {l1 : Int32} {l2 : Int32} {l3 : Int32} {V : sv_V} (hS_V : SIx T_cP G V) (r_l1 : rg l1 (-40000) (65535)) (r_l2 : rg l2 (-39936) (65535)) (r_l3 : rg l3 (0) (99)) (hc_k7 : c_k7 ≤ l3.toInt) : Sg (QI T_cP G (0) (1)) (B_X10_holds_81 N k7 l1 l2 l3 V) := by
  unfold B_X10_holds_81
  exact
    sf_let fun x_1 q_2 =>
    have f_3 := rg_eq q_2 (rg_add r_l3 (rg_c (x := (1 : Int32)) (n := 1) rfl) (by decide) (by decide))
    hk_k7 _ _ _ _ hS_V r_l1 r_l2 (rg_m f_3 (by decide) (by decide)) (cnt_u0 q_2 r_l3 (by decide) hc_k7)
theorem s_B_X10_holds_81_U {G : sv_V} {N : Nat} (hN : 8589934592 ≤ N) {k7 : Int32 → Int32 → Int32 → sv_V → Option ( Int32 × sv_V )} {c_k7 : Int} (hk_k7 : ∀ (l1 : Int32) (l2 : Int32) (l3 : Int32) (V : sv_V), SIx T_cU G V → rg l1 (-39936) (65535) → rg l2 (-39936) (65535) → rg l3 (0) (100) → c_k7 < l3.toInt → Sg (QI T_cU G (0) (1)) (k7 l1 l2 l3 V)) {l1 : Int32} {l2 : Int32} {l3 : Int32} {V : sv_V} (hS_V : SIx T_cU G V) (r_l1 : rg l1 (-39936) (65535)) (r_l2 : rg l2 (-39936) (65535)) (r_l3 : rg l3 (0) (99)) (hc_k7 : c_k7 ≤ l3.toInt) : Sg (QI T_cU G (0) (1)) (B_X10_holds_81 N k7 l1 l2 l3 V) := by
  unfold B_X10_holds_81
  exact
    sf_let fun x_1 q_2 =>
    have f_3 := rg_eq q_2 (rg_add r_l3 (rg_c (x := (1 : Int32)) (n := 1) rfl) (by decide) (by decide))
    hk_k7 _ _ _ _ hS_V r_l1 r_l2 (rg_m f_3 (by decide) (by decide)) (cnt_u0 q_2 r_l3 (by decide) hc_k7)
theorem s_B_X10_holds_61_P {G : sv_V} {N : Nat} (hN : 8589934592 ≤ N) {k7 : Int32 → Int32 → Int32 → sv_V → Option ( Int32 × sv_V )} {c_k7 : Int} (hk_k7 : ∀ (l1 : Int32) (l2 : Int32) (l3 : Int32) (V : sv_V), SIx T_cP G V → rg l1 (-40000) (65535) → rg l2 (-39936) (65535) → rg l3 (0) (100) → c_k7 < l3.toInt → Sg (QI T_cP G (0) (1)) (k7 l1 l2 l3 V)) {l1 : Int32} {l2 : Int32} {l3 : Int32} {l4 : Int32} {s0 : Int32} {V : sv_V} (hS_V : SIx T_cP G V) (r_l1 : rg l1 (-40000) (65535)) (r_l2 : rg l2 (-39936) (65535)) (r_l3 : rg l3 (0) (99)) (r_l4 : rg l4 (0) (99)) (r_s0 : rg s0 (0) (1)) (hc_k7 : c_k7 ≤ l3.toInt) : Sg (QI T_cP G (0) (1)) (B_X10_holds_61 N k7 l1 l2 l3 l4 s0 V) := by
  unfold B_X10_holds_61
  exact
    sf_ite (fun h_1 =>
    sf_eI (s_F_X10_meets_P hN hS_V r_l4 r_l1 r_l2) fun x_3 V_4 e_6 hS_V_4 r_5 =>
    sf_ite (fun h_8 =>
    s_B_X10_holds_81_P hN hk_k7 hS_V_4 r_l1 r_l2 r_l3 hc_k7)
     (fun h_8 =>
    sf_sI hS_V_4 (rg_m (rg_c (x := (1 : Int32)) (n := 1) rfl) (by decide) (by decide))))
     (fun h_1 =>
    s_B_X10_holds_81_P hN hk_k7 hS_V r_l1 r_l2 r_l3 hc_k7)
theorem s_B_X10_holds_61_U {G : sv_V} {N : Nat} (hN : 8589934592 ≤ N) {k7 : Int32 → Int32 → Int32 → sv_V → Option ( Int32 × sv_V )} {c_k7 : Int} (hk_k7 : ∀ (l1 : Int32) (l2 : Int32) (l3 : Int32) (V : sv_V), SIx T_cU G V → rg l1 (-39936) (65535) → rg l2 (-39936) (65535) → rg l3 (0) (100) → c_k7 < l3.toInt → Sg (QI T_cU G (0) (1)) (k7 l1 l2 l3 V)) {l1 : Int32} {l2 : Int32} {l3 : Int32} {l4 : Int32} {s0 : Int32} {V : sv_V} (hS_V : SIx T_cU G V) (r_l1 : rg l1 (-39936) (65535)) (r_l2 : rg l2 (-39936) (65535)) (r_l3 : rg l3 (0) (99)) (r_l4 : rg l4 (0) (99)) (r_s0 : rg s0 (0) (1)) (hc_k7 : c_k7 ≤ l3.toInt) : Sg (QI T_cU G (0) (1)) (B_X10_holds_61 N k7 l1 l2 l3 l4 s0 V) := by
  unfold B_X10_holds_61
  exact
    sf_ite (fun h_1 =>
    sf_eI (s_F_X10_meets_U hN hS_V r_l4 r_l1 r_l2) fun x_3 V_4 e_6 hS_V_4 r_5 =>
    sf_ite (fun h_8 =>
    s_B_X10_holds_81_U hN hk_k7 hS_V_4 r_l1 r_l2 r_l3 hc_k7)
     (fun h_8 =>
    sf_sI hS_V_4 (rg_m (rg_c (x := (1 : Int32)) (n := 1) rfl) (by decide) (by decide))))
     (fun h_1 =>
    s_B_X10_holds_81_U hN hk_k7 hS_V r_l1 r_l2 r_l3 hc_k7)
theorem s_B_X10_holds_60_P {G : sv_V} {N : Nat} (hN : 8589934592 ≤ N) {k7 : Int32 → Int32 → Int32 → sv_V → Option ( Int32 × sv_V )} {c_k7 : Int} (hk_k7 : ∀ (l1 : Int32) (l2 : Int32) (l3 : Int32) (V : sv_V), SIx T_cP G V → rg l1 (-40000) (65535) → rg l2 (-39936) (65535) → rg l3 (0) (100) → c_k7 < l3.toInt → Sg (QI T_cP G (0) (1)) (k7 l1 l2 l3 V)) {l1 : Int32} {l2 : Int32} {l3 : Int32} {l4 : Int32} {V : sv_V} (hS_V : SIx T_cP G V) (r_l1 : rg l1 (-40000) (65535)) (r_l2 : rg l2 (-39936) (65535)) (r_l3 : rg l3 (0) (99)) (r_l4 : rg l4 (0) (99)) (hc_k7 : c_k7 ≤ l3.toInt) : Sg (QI T_cP G (0) (1)) (B_X10_holds_60 N k7 l1 l2 l3 l4 V) := by
  unfold B_X10_holds_60
  exact
    s_B_X10_holds_61_P hN hk_k7 hS_V r_l1 r_l2 r_l3 r_l4 (rg_m (rg_c (x := (0 : Int32)) (n := 0) rfl) (by decide) (by decide)) hc_k7
theorem s_B_X10_holds_60_U {G : sv_V} {N : Nat} (hN : 8589934592 ≤ N) {k7 : Int32 → Int32 → Int32 → sv_V → Option ( Int32 × sv_V )} {c_k7 : Int} (hk_k7 : ∀ (l1 : Int32) (l2 : Int32) (l3 : Int32) (V : sv_V), SIx T_cU G V → rg l1 (-39936) (65535) → rg l2 (-39936) (65535) → rg l3 (0) (100) → c_k7 < l3.toInt → Sg (QI T_cU G (0) (1)) (k7 l1 l2 l3 V)) {l1 : Int32} {l2 : Int32} {l3 : Int32} {l4 : Int32} {V : sv_V} (hS_V : SIx T_cU G V) (r_l1 : rg l1 (-39936) (65535)) (r_l2 : rg l2 (-39936) (65535)) (r_l3 : rg l3 (0) (99)) (r_l4 : rg l4 (0) (99)) (hc_k7 : c_k7 ≤ l3.toInt) : Sg (QI T_cU G (0) (1)) (B_X10_holds_60 N k7 l1 l2 l3 l4 V) := by
  unfold B_X10_holds_60
  exact
    s_B_X10_holds_61_U hN hk_k7 hS_V r_l1 r_l2 r_l3 r_l4 (rg_m (rg_c (x := (0 : Int32)) (n := 0) rfl) (by decide) (by decide)) hc_k7
theorem s_B_X10_holds_7_P {G : sv_V} {N : Nat} (hN : 8589934592 ≤ N) {k7 : Int32 → Int32 → Int32 → sv_V → Option ( Int32 × sv_V )} {c_k7 : Int} (hk_k7 : ∀ (l1 : Int32) (l2 : Int32) (l3 : Int32) (V : sv_V), SIx T_cP G V → rg l1 (-40000) (65535) → rg l2 (-39936) (65535) → rg l3 (0) (100) → c_k7 < l3.toInt → Sg (QI T_cP G (0) (1)) (k7 l1 l2 l3 V)) {l1 : Int32} {l2 : Int32} {l3 : Int32} {V : sv_V} (hS_V : SIx T_cP G V) (r_l1 : rg l1 (-40000) (65535)) (r_l2 : rg l2 (-39936) (65535)) (r_l3 : rg l3 (0) (100)) (hc_k7 : c_k7 ≤ l3.toInt) : Sg (QI T_cP G (0) (1)) (B_X10_holds_7 N k7 l1 l2 l3 V) := by
  unfold B_X10_holds_7
  exact
    sf_ite (fun h_1 =>
    sf_ite (fun h_2 =>
    sf_sI hS_V (rg_m (rg_c (x := (0 : Int32)) (n := 0) rfl) (by decide) (by decide)))
     (fun h_2 =>
    sf_sI hS_V (rg_m (rg_c (x := (1 : Int32)) (n := 1) rfl) (by decide) (by decide))))
     (fun h_1 =>
    have f_4 := (rg_hlt (Int32.not_le.mp h_1) r_l3 (hS_V.rd r_RcP_60_9))
    sf_p (in_rg f_4 (by decide) (by decide)) <|
    sf_let fun x_6 q_7 =>
    have f_8 := rg_eq q_7 (hS_V.rdA (k := l3.toNatClampNeg) ra_RcP_68)
    sf_p (in_rg f_8 (by decide) (by decide)) <|
    sf_ite (fun h_9 =>
    s_B_X10_holds_60_P hN hk_k7 hS_V r_l1 r_l2 (rg_m f_4 (by decide) (by decide)) (rg_m f_8 (by decide) (by decide)) hc_k7)
     (fun h_9 =>
    sf_p (in_rg f_8 (by decide) (by decide)) <|
    sf_ite (fun h_12 =>
    s_B_X10_holds_60_P hN hk_k7 hS_V r_l1 r_l2 (rg_m f_4 (by decide) (by decide)) (rg_m f_8 (by decide) (by decide)) hc_k7)
     (fun h_12 =>
    sf_p (in_rg f_8 (by decide) (by decide)) <|
    sf_ite (fun h_15 =>
    s_B_X10_holds_60_P hN hk_k7 hS_V r_l1 r_l2 (rg_m f_4 (by decide) (by decide)) (rg_m f_8 (by decide) (by decide)) hc_k7)
     (fun h_15 =>
    s_B_X10_holds_61_P hN hk_k7 hS_V r_l1 r_l2 (rg_m f_4 (by decide) (by decide)) (rg_m f_8 (by decide) (by decide)) (rg_m (rg_c (x := (1 : Int32)) (n := 1) rfl) (by decide) (by decide)) hc_k7))))
theorem s_B_X10_holds_7_U {G : sv_V} {N : Nat} (hN : 8589934592 ≤ N) {k7 : Int32 → Int32 → Int32 → sv_V → Option ( Int32 × sv_V )} {c_k7 : Int} (hk_k7 : ∀ (l1 : Int32) (l2 : Int32) (l3 : Int32) (V : sv_V), SIx T_cU G V → rg l1 (-39936) (65535) → rg l2 (-39936) (65535) → rg l3 (0) (100) → c_k7 < l3.toInt → Sg (QI T_cU G (0) (1)) (k7 l1 l2 l3 V)) {l1 : Int32} {l2 : Int32} {l3 : Int32} {V : sv_V} (hS_V : SIx T_cU G V) (r_l1 : rg l1 (-39936) (65535)) (r_l2 : rg l2 (-39936) (65535)) (r_l3 : rg l3 (0) (100)) (hc_k7 : c_k7 ≤ l3.toInt) : Sg (QI T_cU G (0) (1)) (B_X10_holds_7 N k7 l1 l2 l3 V) := by
  unfold B_X10_holds_7
  exact
    sf_ite (fun h_1 =>
    sf_ite (fun h_2 =>
    sf_sI hS_V (rg_m (rg_c (x := (0 : Int32)) (n := 0) rfl) (by decide) (by decide)))
     (fun h_2 =>
    sf_sI hS_V (rg_m (rg_c (x := (1 : Int32)) (n := 1) rfl) (by decide) (by decide))))
     (fun h_1 =>
    have f_4 := (rg_hlt (Int32.not_le.mp h_1) r_l3 (hS_V.rd r_RcU_60_9))
    sf_p (in_rg f_4 (by decide) (by decide)) <|
    sf_let fun x_6 q_7 =>
    have f_8 := rg_eq q_7 (hS_V.rdA (k := l3.toNatClampNeg) ra_RcU_68)
    sf_p (in_rg f_8 (by decide) (by decide)) <|
    sf_ite (fun h_9 =>
    s_B_X10_holds_60_U hN hk_k7 hS_V r_l1 r_l2 (rg_m f_4 (by decide) (by decide)) (rg_m f_8 (by decide) (by decide)) hc_k7)
     (fun h_9 =>
    sf_p (in_rg f_8 (by decide) (by decide)) <|
    sf_ite (fun h_12 =>
    s_B_X10_holds_60_U hN hk_k7 hS_V r_l1 r_l2 (rg_m f_4 (by decide) (by decide)) (rg_m f_8 (by decide) (by decide)) hc_k7)
     (fun h_12 =>
    sf_p (in_rg f_8 (by decide) (by decide)) <|
    sf_ite (fun h_15 =>
    s_B_X10_holds_60_U hN hk_k7 hS_V r_l1 r_l2 (rg_m f_4 (by decide) (by decide)) (rg_m f_8 (by decide) (by decide)) hc_k7)
     (fun h_15 =>
    s_B_X10_holds_61_U hN hk_k7 hS_V r_l1 r_l2 (rg_m f_4 (by decide) (by decide)) (rg_m f_8 (by decide) (by decide)) (rg_m (rg_c (x := (1 : Int32)) (n := 1) rfl) (by decide) (by decide)) hc_k7))))
theorem s_F_X10_holds_P {G : sv_V} {N : Nat} (hN : 8589934592 ≤ N) {l1 : Int32} {l2 : Int32} {V : sv_V} (hS_V : SIx T_cP G V) (r_l1 : rg l1 (-39936) (65535)) (r_l2 : rg l2 (-39936) (65535)) : Sg (QI T_cP G (0) (1)) (F_X10_holds N l1 l2 V) := by
  unfold F_X10_holds
  exact
    sf_w (hS_V.wn on_RcP_60_10) fun V_1 q_2 hS_V_1 =>
    lp4_up (I := fun l1 l2 l3 V => (SIx T_cP G V) ∧ (rg l1 (-40000) (65535)) ∧ (rg l2 (-39936) (65535)) ∧ (rg l3 (0) (100))) (fun _ _ l3 _ => l3.toInt) (0) (100) (fun l1 l2 l3 V h => by
      obtain ⟨hS_V, r_l1, r_l2, r_l3⟩ := h
      have := r_l3; unfold rg at this; omega) (fun k l1 l2 l3 V h hk => by
      obtain ⟨hS_V, r_l1, r_l2, r_l3⟩ := h
      exact s_B_X10_holds_7_P hN (fun l1 l2 l3 V hS_V r_l1 r_l2 r_l3 hc_k7  => hk l1 l2 l3 V (by exact ⟨hS_V, r_l1, r_l2, r_l3⟩) (hc_k7)) hS_V r_l1 r_l2 r_l3 (Int.le_refl _)) N (by have := hN; omega) _ _ _ _ (by exact ⟨hS_V_1, (rg_m r_l1 (by decide) (by decide)), r_l2, (rg_m (rg_c (x := (0 : Int32)) (n := 0) rfl) (by decide) (by decide))⟩)
theorem s_F_X10_holds_U {G : sv_V} {N : Nat} (hN : 8589934592 ≤ N) {l1 : Int32} {l2 : Int32} {V : sv_V} (hS_V : SIx T_cU G V) (r_l1 : rg l1 (-39936) (65535)) (r_l2 : rg l2 (-39936) (65535)) : Sg (QI T_cU G (0) (1)) (F_X10_holds N l1 l2 V) := by
  unfold F_X10_holds
  exact
    sf_w (hS_V.wn on_RcU_60_10) fun V_1 q_2 hS_V_1 =>
    lp4_up (I := fun l1 l2 l3 V => (SIx T_cU G V) ∧ (rg l1 (-39936) (65535)) ∧ (rg l2 (-39936) (65535)) ∧ (rg l3 (0) (100))) (fun _ _ l3 _ => l3.toInt) (0) (100) (fun l1 l2 l3 V h => by
      obtain ⟨hS_V, r_l1, r_l2, r_l3⟩ := h
      have := r_l3; unfold rg at this; omega) (fun k l1 l2 l3 V h hk => by
      obtain ⟨hS_V, r_l1, r_l2, r_l3⟩ := h
      exact s_B_X10_holds_7_U hN (fun l1 l2 l3 V hS_V r_l1 r_l2 r_l3 hc_k7  => hk l1 l2 l3 V (by exact ⟨hS_V, r_l1, r_l2, r_l3⟩) (hc_k7)) hS_V r_l1 r_l2 r_l3 (Int.le_refl _)) N (by have := hN; omega) _ _ _ _ (by exact ⟨hS_V_1, r_l1, r_l2, (rg_m (rg_c (x := (0 : Int32)) (n := 0) rfl) (by decide) (by decide))⟩)
theorem s_F_X11_glyphOf_P {G : sv_V} {N : Nat} (hN : 8589934592 ≤ N) {V : sv_V} {l1 : Int32} (hS_V : SIx T_cP G V) : Sg (QP V (-3) (199)) (F_X11_glyphOf N l1 V) := by
  unfold F_X11_glyphOf
  exact
    sf_ite (fun h_1 =>
    sf_pI (rg_m (rg_c (x := (-3 : Int32)) (n := -3) rfl) (by decide) (by decide)))
     (fun h_1 =>
    sf_ite (fun h_4 =>
    sf_pI (rg_m (rg_c (x := (-2 : Int32)) (n := -2) rfl) (by decide) (by decide)))
     (fun h_4 =>
    have f_6 := (rg_lle (Int32.not_lt.mp h_4) (rg_c (x := (0 : Int32)) (n := 0) rfl) rg_t)
    sf_ite (fun h_7 =>
    have f_8 := (rg_hle h_7 f_6 (rg_c (x := (1114111 : Int32)) (n := 1114111) rfl))
    sf_qI (s_F_X2_findGlyph_P hN hS_V (rg_m f_8 (by decide) (by decide))) fun x_9 r_10 =>
    sf_pI (rg_m r_10 (by decide) (by decide)))
     (fun h_7 =>
    sf_pI (rg_m (rg_c (x := (-2 : Int32)) (n := -2) rfl) (by decide) (by decide)))))
theorem s_F_X11_glyphOf_U {G : sv_V} {N : Nat} (hN : 8589934592 ≤ N) {V : sv_V} {l1 : Int32} (hS_V : SIx T_cU G V) : Sg (QP V (-3) (-3)) (F_X11_glyphOf N l1 V) := by
  unfold F_X11_glyphOf
  exact
    sf_ite (fun h_1 =>
    sf_pI (rg_m (rg_c (x := (-3 : Int32)) (n := -3) rfl) (by decide) (by decide)))
     (fun h_1 =>
    False.elim (rg_none h_1 (hS_V.rd r_RcU_2_2) (rg_c (x := (0 : Int32)) (n := 0) rfl)))
theorem s_F_X11_isIn_P {G : sv_V} {N : Nat} (hN : 8589934592 ≤ N) {l1 : Int32} {l2 : Int32} {V : sv_V} (hS_V : SIx T_cP G V) : Sg (QI T_cP G (-3) (1)) (F_X11_isIn N l1 l2 V) := by
  unfold F_X11_isIn
  exact
    sf_ite (fun h_1 =>
    sf_sI hS_V (rg_m (rg_c (x := (-3 : Int32)) (n := -3) rfl) (by decide) (by decide)))
     (fun h_1 =>
    sf_iteb (fun h_7 =>
    sf_someb <|
    sf_ite (fun h_11 =>
    False.elim (rg_noeq h_11 (rg_c (x := (1 : Int32)) (n := 1) rfl) (rg_c (x := (0 : Int32)) (n := 0) rfl) (by decide)))
     (fun h_11 =>
    sf_sI hS_V (rg_m (rg_c (x := (-2 : Int32)) (n := -2) rfl) (by decide) (by decide))))
     (fun h_7 =>
    have f_12 := (rl_lle (Int64.not_lt.mp (fun q => h_7 (lgc_lt.mpr q))) (rl_w (rg_neg (rg_c (x := (5000 : Int32)) (n := 5000) rfl) (by decide))) (rl_w rg_t))
    have f_13 := (rg_uw f_12)
    sf_iteb (fun h_14 =>
    have f_15 := (rl_hle (lgc_le.mp h_14) (rl_w f_13) (rl_w (rg_c (x := (5000 : Int32)) (n := 5000) rfl)))
    have f_16 := (rg_uw f_15)
    sf_someb <|
    sf_ite (fun h_17 =>
    sf_iteb (fun h_21 =>
    sf_someb <|
    sf_ite (fun h_25 =>
    False.elim (rg_noeq h_25 (rg_c (x := (1 : Int32)) (n := 1) rfl) (rg_c (x := (0 : Int32)) (n := 0) rfl) (by decide)))
     (fun h_25 =>
    sf_sI hS_V (rg_m (rg_c (x := (-2 : Int32)) (n := -2) rfl) (by decide) (by decide))))
     (fun h_21 =>
    have f_26 := (rl_lle (Int64.not_lt.mp (fun q => h_21 (lgc_lt.mpr q))) (rl_w (rg_neg (rg_c (x := (5000 : Int32)) (n := 5000) rfl) (by decide))) (rl_w rg_t))
    have f_27 := (rg_uw f_26)
    sf_iteb (fun h_28 =>
    have f_29 := (rl_hle (lgc_le.mp h_28) (rl_w f_27) (rl_w (rg_c (x := (5000 : Int32)) (n := 5000) rfl)))
    have f_30 := (rg_uw f_29)
    sf_someb <|
    sf_ite (fun h_31 =>
    sf_eV (s_F_X10_chooseRow_P hN hS_V (rg_m (rg_mul (l := (-10000)) (h := (10000)) (rg_c (x := (2 : Int32)) (n := 2) rfl) f_30 (by decide)) (by decide) (by decide))) fun V_32 e_33 hS_V_32 =>
    sf_eI (s_F_X10_holds_P hN hS_V_32 (rg_m (rg_mul (l := (-10000)) (h := (10000)) (rg_c (x := (2 : Int32)) (n := 2) rfl) f_16 (by decide)) (by decide) (by decide)) (rg_m (rg_mul (l := (-10000)) (h := (10000)) (rg_c (x := (2 : Int32)) (n := 2) rfl) f_30 (by decide)) (by decide) (by decide))) fun x_35 V_36 e_38 hS_V_36 r_37 =>
    sf_ite (fun h_40 =>
    sf_sI hS_V_36 (rg_m (rg_c (x := (0 : Int32)) (n := 0) rfl) (by decide) (by decide)))
     (fun h_40 =>
    sf_sI hS_V_36 (rg_m (rg_c (x := (1 : Int32)) (n := 1) rfl) (by decide) (by decide))))
     (fun h_31 =>
    False.elim (rg_none h_31 (rg_c (x := (0 : Int32)) (n := 0) rfl) (rg_c (x := (0 : Int32)) (n := 0) rfl))))
     (fun h_28 =>
    sf_someb <|
    sf_ite (fun h_46 =>
    False.elim (rg_noeq h_46 (rg_c (x := (1 : Int32)) (n := 1) rfl) (rg_c (x := (0 : Int32)) (n := 0) rfl) (by decide)))
     (fun h_46 =>
    sf_sI hS_V (rg_m (rg_c (x := (-2 : Int32)) (n := -2) rfl) (by decide) (by decide))))))
     (fun h_17 =>
    False.elim (rg_none h_17 (rg_c (x := (0 : Int32)) (n := 0) rfl) (rg_c (x := (0 : Int32)) (n := 0) rfl))))
     (fun h_14 =>
    sf_someb <|
    sf_ite (fun h_50 =>
    False.elim (rg_noeq h_50 (rg_c (x := (1 : Int32)) (n := 1) rfl) (rg_c (x := (0 : Int32)) (n := 0) rfl) (by decide)))
     (fun h_50 =>
    sf_sI hS_V (rg_m (rg_c (x := (-2 : Int32)) (n := -2) rfl) (by decide) (by decide))))))
end
section
/-! safety, c, 18 -/
theorem s_F_X11_isIn_U {G : sv_V} {N : Nat} (hN : 8589934592 ≤ N) {l1 : Int32} {l2 : Int32} {V : sv_V} (hS_V : SIx T_cU G V) : Sg (QI T_cU G (-3) (1)) (F_X11_isIn N l1 l2 V) := by
  unfold F_X11_isIn
  exact
    sf_ite (fun h_1 =>
    sf_sI hS_V (rg_m (rg_c (x := (-3 : Int32)) (n := -3) rfl) (by decide) (by decide)))
     (fun h_1 =>
    sf_iteb (fun h_7 =>
    sf_someb <|
    sf_ite (fun h_11 =>
    False.elim (rg_noeq h_11 (rg_c (x := (1 : Int32)) (n := 1) rfl) (rg_c (x := (0 : Int32)) (n := 0) rfl) (by decide)))
     (fun h_11 =>
    sf_sI hS_V (rg_m (rg_c (x := (-2 : Int32)) (n := -2) rfl) (by decide) (by decide))))
     (fun h_7 =>
    have f_12 := (rl_lle (Int64.not_lt.mp (fun q => h_7 (lgc_lt.mpr q))) (rl_w (rg_neg (rg_c (x := (5000 : Int32)) (n := 5000) rfl) (by decide))) (rl_w rg_t))
    have f_13 := (rg_uw f_12)
    sf_iteb (fun h_14 =>
    have f_15 := (rl_hle (lgc_le.mp h_14) (rl_w f_13) (rl_w (rg_c (x := (5000 : Int32)) (n := 5000) rfl)))
    have f_16 := (rg_uw f_15)
    sf_someb <|
    sf_ite (fun h_17 =>
    sf_iteb (fun h_21 =>
    sf_someb <|
    sf_ite (fun h_25 =>
    False.elim (rg_noeq h_25 (rg_c (x := (1 : Int32)) (n := 1) rfl) (rg_c (x := (0 : Int32)) (n := 0) rfl) (by decide)))
     (fun h_25 =>
    sf_sI hS_V (rg_m (rg_c (x := (-2 : Int32)) (n := -2) rfl) (by decide) (by decide))))
     (fun h_21 =>
    have f_26 := (rl_lle (Int64.not_lt.mp (fun q => h_21 (lgc_lt.mpr q))) (rl_w (rg_neg (rg_c (x := (5000 : Int32)) (n := 5000) rfl) (by decide))) (rl_w rg_t))
    have f_27 := (rg_uw f_26)
    sf_iteb (fun h_28 =>
    have f_29 := (rl_hle (lgc_le.mp h_28) (rl_w f_27) (rl_w (rg_c (x := (5000 : Int32)) (n := 5000) rfl)))
    have f_30 := (rg_uw f_29)
    sf_someb <|
    sf_ite (fun h_31 =>
    sf_eV (s_F_X10_chooseRow_U hN hS_V (rg_m (rg_mul (l := (-10000)) (h := (10000)) (rg_c (x := (2 : Int32)) (n := 2) rfl) f_30 (by decide)) (by decide) (by decide))) fun V_32 e_33 hS_V_32 =>
    sf_eI (s_F_X10_holds_U hN hS_V_32 (rg_m (rg_mul (l := (-10000)) (h := (10000)) (rg_c (x := (2 : Int32)) (n := 2) rfl) f_16 (by decide)) (by decide) (by decide)) (rg_m (rg_mul (l := (-10000)) (h := (10000)) (rg_c (x := (2 : Int32)) (n := 2) rfl) f_30 (by decide)) (by decide) (by decide))) fun x_35 V_36 e_38 hS_V_36 r_37 =>
    sf_ite (fun h_40 =>
    sf_sI hS_V_36 (rg_m (rg_c (x := (0 : Int32)) (n := 0) rfl) (by decide) (by decide)))
     (fun h_40 =>
    sf_sI hS_V_36 (rg_m (rg_c (x := (1 : Int32)) (n := 1) rfl) (by decide) (by decide))))
     (fun h_31 =>
    False.elim (rg_none h_31 (rg_c (x := (0 : Int32)) (n := 0) rfl) (rg_c (x := (0 : Int32)) (n := 0) rfl))))
     (fun h_28 =>
    sf_someb <|
    sf_ite (fun h_46 =>
    False.elim (rg_noeq h_46 (rg_c (x := (1 : Int32)) (n := 1) rfl) (rg_c (x := (0 : Int32)) (n := 0) rfl) (by decide)))
     (fun h_46 =>
    sf_sI hS_V (rg_m (rg_c (x := (-2 : Int32)) (n := -2) rfl) (by decide) (by decide))))))
     (fun h_17 =>
    False.elim (rg_none h_17 (rg_c (x := (0 : Int32)) (n := 0) rfl) (rg_c (x := (0 : Int32)) (n := 0) rfl))))
     (fun h_14 =>
    sf_someb <|
    sf_ite (fun h_50 =>
    False.elim (rg_noeq h_50 (rg_c (x := (1 : Int32)) (n := 1) rfl) (rg_c (x := (0 : Int32)) (n := 0) rfl) (by decide)))
     (fun h_50 =>
    sf_sI hS_V (rg_m (rg_c (x := (-2 : Int32)) (n := -2) rfl) (by decide) (by decide))))))
theorem s_B_X1_fillIn_120_P {G : sv_V} {N : Nat} (hN : 8589934592 ≤ N) {k6 : Int32 → Int32 → Int32 → Int32 → sv_V → Option ( Int32 × sv_V )} {k38 : Int32 → Int32 → Int32 → Int32 → Int32 → Int32 → sv_V → Option ( Int32 × sv_V )} {c_k6 : Int} (hk_k6 : ∀ (l2 : Int32) (l3 : Int32) (l4 : Int32) (l5 : Int32) (V : sv_V), SIx T_cP G V → rg l2 (-20000) (20000) → rg l3 (-20000) (20000) → rg l5 (0) (128) → c_k6 < l5.toInt → Sg (QI T_cP G (-2147483648) (2147483647)) (k6 l2 l3 l4 l5 V)) {c_k38 : Int} (hk_k38 : ∀ (l2 : Int32) (l3 : Int32) (l4 : Int32) (l5 : Int32) (l6 : Int32) (l7 : Int32) (V : sv_V), SIx T_cP G V → rg l2 (-20000) (20000) → rg l3 (-20000) (20000) → rg l5 (0) (127) → rg l6 (-39936) (65535) → rg l7 (0) (128) → c_k38 < l7.toInt → c_k6 ≤ l5.toInt → Sg (QI T_cP G (-2147483648) (2147483647)) (k38 l2 l3 l4 l5 l6 l7 V)) {l2 : Int32} {l3 : Int32} {l4 : Int32} {l5 : Int32} {l6 : Int32} {l7 : Int32} {V : sv_V} (hS_V : SIx T_cP G V) (r_l2 : rg l2 (-20000) (20000)) (r_l3 : rg l3 (-20000) (20000)) (r_l5 : rg l5 (0) (127)) (r_l6 : rg l6 (-39936) (65535)) (r_l7 : rg l7 (0) (127)) (hc_k6 : c_k6 ≤ l5.toInt) (hc_k38 : c_k38 ≤ l7.toInt) : Sg (QI T_cP G (-2147483648) (2147483647)) (B_X1_fillIn_120 N k6 k38 l2 l3 l4 l5 l6 l7 V) := by
  unfold B_X1_fillIn_120
  exact
    sf_let fun x_1 q_2 =>
    have f_3 := rg_eq q_2 (rg_add r_l7 (rg_c (x := (1 : Int32)) (n := 1) rfl) (by decide) (by decide))
    hk_k38 _ _ _ _ _ _ _ hS_V r_l2 r_l3 r_l5 r_l6 (rg_m f_3 (by decide) (by decide)) (cnt_u0 q_2 r_l7 (by decide) hc_k38) hc_k6
theorem s_B_X1_fillIn_120_U {G : sv_V} {N : Nat} (hN : 8589934592 ≤ N) {k6 : Int32 → Int32 → Int32 → Int32 → sv_V → Option ( Int32 × sv_V )} {k38 : Int32 → Int32 → Int32 → Int32 → Int32 → Int32 → sv_V → Option ( Int32 × sv_V )} {c_k6 : Int} (hk_k6 : ∀ (l2 : Int32) (l3 : Int32) (l4 : Int32) (l5 : Int32) (V : sv_V), SIx T_cU G V → rg l2 (-20000) (20000) → rg l3 (-20000) (20000) → rg l5 (0) (128) → c_k6 < l5.toInt → Sg (QI T_cU G (-2147483648) (2147483647)) (k6 l2 l3 l4 l5 V)) {c_k38 : Int} (hk_k38 : ∀ (l2 : Int32) (l3 : Int32) (l4 : Int32) (l5 : Int32) (l6 : Int32) (l7 : Int32) (V : sv_V), SIx T_cU G V → rg l2 (-20000) (20000) → rg l3 (-20000) (20000) → rg l5 (0) (127) → rg l6 (-39936) (65535) → rg l7 (0) (128) → c_k38 < l7.toInt → c_k6 ≤ l5.toInt → Sg (QI T_cU G (-2147483648) (2147483647)) (k38 l2 l3 l4 l5 l6 l7 V)) {l2 : Int32} {l3 : Int32} {l4 : Int32} {l5 : Int32} {l6 : Int32} {l7 : Int32} {V : sv_V} (hS_V : SIx T_cU G V) (r_l2 : rg l2 (-20000) (20000)) (r_l3 : rg l3 (-20000) (20000)) (r_l5 : rg l5 (0) (127)) (r_l6 : rg l6 (-39936) (65535)) (r_l7 : rg l7 (0) (127)) (hc_k6 : c_k6 ≤ l5.toInt) (hc_k38 : c_k38 ≤ l7.toInt) : Sg (QI T_cU G (-2147483648) (2147483647)) (B_X1_fillIn_120 N k6 k38 l2 l3 l4 l5 l6 l7 V) := by
  unfold B_X1_fillIn_120
  exact
    sf_let fun x_1 q_2 =>
    have f_3 := rg_eq q_2 (rg_add r_l7 (rg_c (x := (1 : Int32)) (n := 1) rfl) (by decide) (by decide))
    hk_k38 _ _ _ _ _ _ _ hS_V r_l2 r_l3 r_l5 r_l6 (rg_m f_3 (by decide) (by decide)) (cnt_u0 q_2 r_l7 (by decide) hc_k38) hc_k6
theorem s_B_X1_fillIn_126_P {G : sv_V} {N : Nat} (hN : 8589934592 ≤ N) {k6 : Int32 → Int32 → Int32 → Int32 → sv_V → Option ( Int32 × sv_V )} {c_k6 : Int} (hk_k6 : ∀ (l2 : Int32) (l3 : Int32) (l4 : Int32) (l5 : Int32) (V : sv_V), SIx T_cP G V → rg l2 (-20000) (20000) → rg l3 (-20000) (20000) → rg l5 (0) (128) → c_k6 < l5.toInt → Sg (QI T_cP G (-2147483648) (2147483647)) (k6 l2 l3 l4 l5 V)) {l2 : Int32} {l3 : Int32} {l4 : Int32} {l5 : Int32} {V : sv_V} (hS_V : SIx T_cP G V) (r_l2 : rg l2 (-20000) (20000)) (r_l3 : rg l3 (-20000) (20000)) (r_l5 : rg l5 (0) (127)) (hc_k6 : c_k6 ≤ l5.toInt) : Sg (QI T_cP G (-2147483648) (2147483647)) (B_X1_fillIn_126 N k6 l2 l3 l4 l5 V) := by
  unfold B_X1_fillIn_126
  exact
    sf_let fun x_1 q_2 =>
    have f_3 := rg_eq q_2 (rg_add r_l5 (rg_c (x := (1 : Int32)) (n := 1) rfl) (by decide) (by decide))
    hk_k6 _ _ _ _ _ hS_V r_l2 r_l3 (rg_m f_3 (by decide) (by decide)) (cnt_u0 q_2 r_l5 (by decide) hc_k6)
theorem s_B_X1_fillIn_126_U {G : sv_V} {N : Nat} (hN : 8589934592 ≤ N) {k6 : Int32 → Int32 → Int32 → Int32 → sv_V → Option ( Int32 × sv_V )} {c_k6 : Int} (hk_k6 : ∀ (l2 : Int32) (l3 : Int32) (l4 : Int32) (l5 : Int32) (V : sv_V), SIx T_cU G V → rg l2 (-20000) (20000) → rg l3 (-20000) (20000) → rg l5 (0) (128) → c_k6 < l5.toInt → Sg (QI T_cU G (-2147483648) (2147483647)) (k6 l2 l3 l4 l5 V)) {l2 : Int32} {l3 : Int32} {l4 : Int32} {l5 : Int32} {V : sv_V} (hS_V : SIx T_cU G V) (r_l2 : rg l2 (-20000) (20000)) (r_l3 : rg l3 (-20000) (20000)) (r_l5 : rg l5 (0) (127)) (hc_k6 : c_k6 ≤ l5.toInt) : Sg (QI T_cU G (-2147483648) (2147483647)) (B_X1_fillIn_126 N k6 l2 l3 l4 l5 V) := by
  unfold B_X1_fillIn_126
  exact
    sf_let fun x_1 q_2 =>
    have f_3 := rg_eq q_2 (rg_add r_l5 (rg_c (x := (1 : Int32)) (n := 1) rfl) (by decide) (by decide))
    hk_k6 _ _ _ _ _ hS_V r_l2 r_l3 (rg_m f_3 (by decide) (by decide)) (cnt_u0 q_2 r_l5 (by decide) hc_k6)
theorem s_B_X1_fillIn_38_P {G : sv_V} {N : Nat} (hN : 8589934592 ≤ N) {k6 : Int32 → Int32 → Int32 → Int32 → sv_V → Option ( Int32 × sv_V )} {k38 : Int32 → Int32 → Int32 → Int32 → Int32 → Int32 → sv_V → Option ( Int32 × sv_V )} {c_k6 : Int} (hk_k6 : ∀ (l2 : Int32) (l3 : Int32) (l4 : Int32) (l5 : Int32) (V : sv_V), SIx T_cP G V → rg l2 (-20000) (20000) → rg l3 (-20000) (20000) → rg l5 (0) (128) → c_k6 < l5.toInt → Sg (QI T_cP G (-2147483648) (2147483647)) (k6 l2 l3 l4 l5 V)) {c_k38 : Int} (hk_k38 : ∀ (l2 : Int32) (l3 : Int32) (l4 : Int32) (l5 : Int32) (l6 : Int32) (l7 : Int32) (V : sv_V), SIx T_cP G V → rg l2 (-20000) (20000) → rg l3 (-20000) (20000) → rg l5 (0) (127) → rg l6 (-39936) (65535) → rg l7 (0) (128) → c_k38 < l7.toInt → c_k6 ≤ l5.toInt → Sg (QI T_cP G (-2147483648) (2147483647)) (k38 l2 l3 l4 l5 l6 l7 V)) {l2 : Int32} {l3 : Int32} {l4 : Int32} {l5 : Int32} {l6 : Int32} {l7 : Int32} {V : sv_V} (hS_V : SIx T_cP G V) (r_l2 : rg l2 (-20000) (20000)) (r_l3 : rg l3 (-20000) (20000)) (r_l5 : rg l5 (0) (127)) (r_l6 : rg l6 (-39936) (65535)) (r_l7 : rg l7 (0) (128)) (hc_k6 : c_k6 ≤ l5.toInt) (hc_k38 : c_k38 ≤ l7.toInt) : Sg (QI T_cP G (-2147483648) (2147483647)) (B_X1_fillIn_38 N k6 k38 l2 l3 l4 l5 l6 l7 V) := by
  unfold B_X1_fillIn_38
  exact
    sf_ite (fun h_1 =>
    s_B_X1_fillIn_126_P hN hk_k6 hS_V r_l2 r_l3 r_l5 hc_k6)
     (fun h_1 =>
    have f_2 := (rg_hlt (Int32.not_le.mp h_1) r_l7 (hS_V.rd r_RcP_143_1))
    sf_qI (s_F_X10_hasRow_P hN hS_V) fun x_4 r_5 =>
    sf_ite (fun h_6 =>
    s_B_X1_fillIn_126_P hN hk_k6 hS_V r_l2 r_l3 r_l5 hc_k6)
     (fun h_6 =>
    sf_let fun x_9 q_10 =>
    have f_11 := rg_eq q_10 (rg_mul (l := (-39936)) (h := (56320)) (rg_c (x := (2 : Int32)) (n := 2) rfl) (rg_sub (rg_add (rg_mul (l := (0)) (h := (8128)) (rg_c (x := (64 : Int32)) (n := 64) rfl) f_2 (by decide)) (rg_c (x := (32 : Int32)) (n := 32) rfl) (by decide) (by decide)) r_l2 (by decide) (by decide)) (by decide))
    sf_let fun x_12 q_13 =>
    have f_14 := rg_eq q_13 (rg_add (rg_mul (l := (0)) (h := (16256)) r_l5 (rg_c (x := (128 : Int32)) (n := 128) rfl) (by decide)) f_2 (by decide) (by decide))
    sf_p (in_rg f_14 (by decide) (by decide)) <|
    sf_ite (fun h_15 =>
    sf_qI (s_F_X10_spans_P hN hS_V (rg_m f_11 (by decide) (by decide))) fun x_17 r_18 =>
    sf_ite (fun h_19 =>
    s_B_X1_fillIn_120_P hN hk_k6 hk_k38 hS_V r_l2 r_l3 r_l5 r_l6 (rg_m f_2 (by decide) (by decide)) hc_k6 hc_k38)
     (fun h_19 =>
    sf_eI (s_F_X10_holds_P hN hS_V (rg_m f_11 (by decide) (by decide)) r_l6) fun x_22 V_23 e_25 hS_V_23 r_24 =>
    sf_ite (fun h_27 =>
    s_B_X1_fillIn_120_P hN hk_k6 hk_k38 hS_V_23 r_l2 r_l3 r_l5 r_l6 (rg_m f_2 (by decide) (by decide)) hc_k6 hc_k38)
     (fun h_27 =>
    sf_p (in_rg f_14 (by decide) (by decide)) <|
    sf_w (hS_V_23.wca oia_RcP_144 rg_b8) fun V_30 q_31 hS_V_30 =>
    sf_let fun x_32 q_33 =>
    s_B_X1_fillIn_120_P hN hk_k6 hk_k38 hS_V_30 r_l2 r_l3 r_l5 r_l6 (rg_m f_2 (by decide) (by decide)) hc_k6 hc_k38)))
     (fun h_15 =>
    s_B_X1_fillIn_120_P hN hk_k6 hk_k38 hS_V r_l2 r_l3 r_l5 r_l6 (rg_m f_2 (by decide) (by decide)) hc_k6 hc_k38)))
theorem s_B_X1_fillIn_38_U {G : sv_V} {N : Nat} (hN : 8589934592 ≤ N) {k6 : Int32 → Int32 → Int32 → Int32 → sv_V → Option ( Int32 × sv_V )} {k38 : Int32 → Int32 → Int32 → Int32 → Int32 → Int32 → sv_V → Option ( Int32 × sv_V )} {c_k6 : Int} (hk_k6 : ∀ (l2 : Int32) (l3 : Int32) (l4 : Int32) (l5 : Int32) (V : sv_V), SIx T_cU G V → rg l2 (-20000) (20000) → rg l3 (-20000) (20000) → rg l5 (0) (128) → c_k6 < l5.toInt → Sg (QI T_cU G (-2147483648) (2147483647)) (k6 l2 l3 l4 l5 V)) {c_k38 : Int} (hk_k38 : ∀ (l2 : Int32) (l3 : Int32) (l4 : Int32) (l5 : Int32) (l6 : Int32) (l7 : Int32) (V : sv_V), SIx T_cU G V → rg l2 (-20000) (20000) → rg l3 (-20000) (20000) → rg l5 (0) (127) → rg l6 (-39936) (65535) → rg l7 (0) (128) → c_k38 < l7.toInt → c_k6 ≤ l5.toInt → Sg (QI T_cU G (-2147483648) (2147483647)) (k38 l2 l3 l4 l5 l6 l7 V)) {l2 : Int32} {l3 : Int32} {l4 : Int32} {l5 : Int32} {l6 : Int32} {l7 : Int32} {V : sv_V} (hS_V : SIx T_cU G V) (r_l2 : rg l2 (-20000) (20000)) (r_l3 : rg l3 (-20000) (20000)) (r_l5 : rg l5 (0) (127)) (r_l6 : rg l6 (-39936) (65535)) (r_l7 : rg l7 (0) (128)) (hc_k6 : c_k6 ≤ l5.toInt) (hc_k38 : c_k38 ≤ l7.toInt) : Sg (QI T_cU G (-2147483648) (2147483647)) (B_X1_fillIn_38 N k6 k38 l2 l3 l4 l5 l6 l7 V) := by
  unfold B_X1_fillIn_38
  exact
    sf_ite (fun h_1 =>
    s_B_X1_fillIn_126_U hN hk_k6 hS_V r_l2 r_l3 r_l5 hc_k6)
     (fun h_1 =>
    have f_2 := (rg_hlt (Int32.not_le.mp h_1) r_l7 (hS_V.rd r_RcU_143_1))
    sf_qI (s_F_X10_hasRow_U hN hS_V) fun x_4 r_5 =>
    sf_ite (fun h_6 =>
    s_B_X1_fillIn_126_U hN hk_k6 hS_V r_l2 r_l3 r_l5 hc_k6)
     (fun h_6 =>
    sf_let fun x_9 q_10 =>
    have f_11 := rg_eq q_10 (rg_mul (l := (-39936)) (h := (56320)) (rg_c (x := (2 : Int32)) (n := 2) rfl) (rg_sub (rg_add (rg_mul (l := (0)) (h := (8128)) (rg_c (x := (64 : Int32)) (n := 64) rfl) f_2 (by decide)) (rg_c (x := (32 : Int32)) (n := 32) rfl) (by decide) (by decide)) r_l2 (by decide) (by decide)) (by decide))
    sf_let fun x_12 q_13 =>
    have f_14 := rg_eq q_13 (rg_add (rg_mul (l := (0)) (h := (16256)) r_l5 (rg_c (x := (128 : Int32)) (n := 128) rfl) (by decide)) f_2 (by decide) (by decide))
    sf_p (in_rg f_14 (by decide) (by decide)) <|
    sf_ite (fun h_15 =>
    sf_qI (s_F_X10_spans_U hN hS_V (rg_m f_11 (by decide) (by decide))) fun x_17 r_18 =>
    sf_ite (fun h_19 =>
    s_B_X1_fillIn_120_U hN hk_k6 hk_k38 hS_V r_l2 r_l3 r_l5 r_l6 (rg_m f_2 (by decide) (by decide)) hc_k6 hc_k38)
     (fun h_19 =>
    sf_eI (s_F_X10_holds_U hN hS_V (rg_m f_11 (by decide) (by decide)) r_l6) fun x_22 V_23 e_25 hS_V_23 r_24 =>
    sf_ite (fun h_27 =>
    s_B_X1_fillIn_120_U hN hk_k6 hk_k38 hS_V_23 r_l2 r_l3 r_l5 r_l6 (rg_m f_2 (by decide) (by decide)) hc_k6 hc_k38)
     (fun h_27 =>
    sf_p (in_rg f_14 (by decide) (by decide)) <|
    sf_w (hS_V_23.wca oia_RcU_144 rg_b8) fun V_30 q_31 hS_V_30 =>
    sf_let fun x_32 q_33 =>
    s_B_X1_fillIn_120_U hN hk_k6 hk_k38 hS_V_30 r_l2 r_l3 r_l5 r_l6 (rg_m f_2 (by decide) (by decide)) hc_k6 hc_k38)))
     (fun h_15 =>
    s_B_X1_fillIn_120_U hN hk_k6 hk_k38 hS_V r_l2 r_l3 r_l5 r_l6 (rg_m f_2 (by decide) (by decide)) hc_k6 hc_k38)))
theorem s_B_X1_fillIn_6_P {G : sv_V} {N : Nat} (hN : 8589934592 ≤ N) {k6 : Int32 → Int32 → Int32 → Int32 → sv_V → Option ( Int32 × sv_V )} {c_k6 : Int} (hk_k6 : ∀ (l2 : Int32) (l3 : Int32) (l4 : Int32) (l5 : Int32) (V : sv_V), SIx T_cP G V → rg l2 (-20000) (20000) → rg l3 (-20000) (20000) → rg l5 (0) (128) → c_k6 < l5.toInt → Sg (QI T_cP G (-2147483648) (2147483647)) (k6 l2 l3 l4 l5 V)) {l2 : Int32} {l3 : Int32} {l4 : Int32} {l5 : Int32} {V : sv_V} (hS_V : SIx T_cP G V) (r_l2 : rg l2 (-20000) (20000)) (r_l3 : rg l3 (-20000) (20000)) (r_l5 : rg l5 (0) (128)) (hc_k6 : c_k6 ≤ l5.toInt) : Sg (QI T_cP G (-2147483648) (2147483647)) (B_X1_fillIn_6 N k6 l2 l3 l4 l5 V) := by
  unfold B_X1_fillIn_6
  exact
    sf_ite (fun h_1 =>
    sf_sI hS_V rg_t)
     (fun h_1 =>
    have f_2 := (rg_hlt (Int32.not_le.mp h_1) r_l5 (hS_V.rd r_RcP_143_2))
    sf_let fun x_4 q_5 =>
    have f_6 := rg_eq q_5 (rg_mul (l := (-39936)) (h := (56320)) (rg_c (x := (2 : Int32)) (n := 2) rfl) (rg_sub (rg_add (rg_mul (l := (0)) (h := (8128)) (rg_c (x := (64 : Int32)) (n := 64) rfl) f_2 (by decide)) (rg_c (x := (32 : Int32)) (n := 32) rfl) (by decide) (by decide)) r_l3 (by decide) (by decide)) (by decide))
    sf_eV (s_F_X10_chooseRow_P hN hS_V (rg_m f_6 (by decide) (by decide))) fun V_7 e_8 hS_V_7 =>
    lp7_up (I := fun l2 l3 l4 l5 l6 l7 V => (SIx T_cP G V) ∧ (rg l2 (-20000) (20000)) ∧ (rg l3 (-20000) (20000)) ∧ (rg l5 (0) (127)) ∧ (rg l6 (-39936) (65535)) ∧ (rg l7 (0) (128)) ∧ (c_k6 ≤ l5.toInt)) (fun _ _ _ _ _ l7 _ => l7.toInt) (0) (128) (fun l2 l3 l4 l5 l6 l7 V h => by
      obtain ⟨hS_V, r_l2, r_l3, r_l5, r_l6, r_l7, hc_k6⟩ := h
      have := r_l7; unfold rg at this; omega) (fun k l2 l3 l4 l5 l6 l7 V h hk => by
      obtain ⟨hS_V, r_l2, r_l3, r_l5, r_l6, r_l7, hc_k6⟩ := h
      exact s_B_X1_fillIn_38_P hN hk_k6 (fun l2 l3 l4 l5 l6 l7 V hS_V r_l2 r_l3 r_l5 r_l6 r_l7 hc_k38 hc_k6 => hk l2 l3 l4 l5 l6 l7 V (by exact ⟨hS_V, r_l2, r_l3, r_l5, r_l6, r_l7, hc_k6⟩) (hc_k38)) hS_V r_l2 r_l3 r_l5 r_l6 r_l7 hc_k6 (Int.le_refl _)) N (by have := hN; omega) _ _ _ _ _ _ _ (by exact ⟨hS_V_7, r_l2, r_l3, (rg_m f_2 (by decide) (by decide)), (rg_m f_6 (by decide) (by decide)), (rg_m (rg_c (x := (0 : Int32)) (n := 0) rfl) (by decide) (by decide)), hc_k6⟩))
theorem s_B_X1_fillIn_6_U {G : sv_V} {N : Nat} (hN : 8589934592 ≤ N) {k6 : Int32 → Int32 → Int32 → Int32 → sv_V → Option ( Int32 × sv_V )} {c_k6 : Int} (hk_k6 : ∀ (l2 : Int32) (l3 : Int32) (l4 : Int32) (l5 : Int32) (V : sv_V), SIx T_cU G V → rg l2 (-20000) (20000) → rg l3 (-20000) (20000) → rg l5 (0) (128) → c_k6 < l5.toInt → Sg (QI T_cU G (-2147483648) (2147483647)) (k6 l2 l3 l4 l5 V)) {l2 : Int32} {l3 : Int32} {l4 : Int32} {l5 : Int32} {V : sv_V} (hS_V : SIx T_cU G V) (r_l2 : rg l2 (-20000) (20000)) (r_l3 : rg l3 (-20000) (20000)) (r_l5 : rg l5 (0) (128)) (hc_k6 : c_k6 ≤ l5.toInt) : Sg (QI T_cU G (-2147483648) (2147483647)) (B_X1_fillIn_6 N k6 l2 l3 l4 l5 V) := by
  unfold B_X1_fillIn_6
  exact
    sf_ite (fun h_1 =>
    sf_sI hS_V rg_t)
     (fun h_1 =>
    have f_2 := (rg_hlt (Int32.not_le.mp h_1) r_l5 (hS_V.rd r_RcU_143_2))
    sf_let fun x_4 q_5 =>
    have f_6 := rg_eq q_5 (rg_mul (l := (-39936)) (h := (56320)) (rg_c (x := (2 : Int32)) (n := 2) rfl) (rg_sub (rg_add (rg_mul (l := (0)) (h := (8128)) (rg_c (x := (64 : Int32)) (n := 64) rfl) f_2 (by decide)) (rg_c (x := (32 : Int32)) (n := 32) rfl) (by decide) (by decide)) r_l3 (by decide) (by decide)) (by decide))
    sf_eV (s_F_X10_chooseRow_U hN hS_V (rg_m f_6 (by decide) (by decide))) fun V_7 e_8 hS_V_7 =>
    lp7_up (I := fun l2 l3 l4 l5 l6 l7 V => (SIx T_cU G V) ∧ (rg l2 (-20000) (20000)) ∧ (rg l3 (-20000) (20000)) ∧ (rg l5 (0) (127)) ∧ (rg l6 (-39936) (65535)) ∧ (rg l7 (0) (128)) ∧ (c_k6 ≤ l5.toInt)) (fun _ _ _ _ _ l7 _ => l7.toInt) (0) (128) (fun l2 l3 l4 l5 l6 l7 V h => by
      obtain ⟨hS_V, r_l2, r_l3, r_l5, r_l6, r_l7, hc_k6⟩ := h
      have := r_l7; unfold rg at this; omega) (fun k l2 l3 l4 l5 l6 l7 V h hk => by
      obtain ⟨hS_V, r_l2, r_l3, r_l5, r_l6, r_l7, hc_k6⟩ := h
      exact s_B_X1_fillIn_38_U hN hk_k6 (fun l2 l3 l4 l5 l6 l7 V hS_V r_l2 r_l3 r_l5 r_l6 r_l7 hc_k38 hc_k6 => hk l2 l3 l4 l5 l6 l7 V (by exact ⟨hS_V, r_l2, r_l3, r_l5, r_l6, r_l7, hc_k6⟩) (hc_k38)) hS_V r_l2 r_l3 r_l5 r_l6 r_l7 hc_k6 (Int.le_refl _)) N (by have := hN; omega) _ _ _ _ _ _ _ (by exact ⟨hS_V_7, r_l2, r_l3, (rg_m f_2 (by decide) (by decide)), (rg_m f_6 (by decide) (by decide)), (rg_m (rg_c (x := (0 : Int32)) (n := 0) rfl) (by decide) (by decide)), hc_k6⟩))
theorem s_F_X1_fillIn_P {G : sv_V} {N : Nat} (hN : 8589934592 ≤ N) {l2 : Int32} {l3 : Int32} {V : sv_V} (hS_V : SIx T_cP G V) (r_l2 : rg l2 (-20000) (20000)) (r_l3 : rg l3 (-20000) (20000)) : Sg (QI T_cP G (-2147483648) (2147483647)) (F_X1_fillIn N l2 l3 V) := by
  unfold F_X1_fillIn
  exact
    lp5_up (I := fun l2 l3 l4 l5 V => (SIx T_cP G V) ∧ (rg l2 (-20000) (20000)) ∧ (rg l3 (-20000) (20000)) ∧ (rg l5 (0) (128))) (fun _ _ _ l5 _ => l5.toInt) (0) (128) (fun l2 l3 l4 l5 V h => by
      obtain ⟨hS_V, r_l2, r_l3, r_l5⟩ := h
      have := r_l5; unfold rg at this; omega) (fun k l2 l3 l4 l5 V h hk => by
      obtain ⟨hS_V, r_l2, r_l3, r_l5⟩ := h
      exact s_B_X1_fillIn_6_P hN (fun l2 l3 l4 l5 V hS_V r_l2 r_l3 r_l5 hc_k6  => hk l2 l3 l4 l5 V (by exact ⟨hS_V, r_l2, r_l3, r_l5⟩) (hc_k6)) hS_V r_l2 r_l3 r_l5 (Int.le_refl _)) N (by have := hN; omega) _ _ _ _ _ (by exact ⟨hS_V, r_l2, r_l3, (rg_m (rg_c (x := (0 : Int32)) (n := 0) rfl) (by decide) (by decide))⟩)
theorem s_F_X1_fillIn_U {G : sv_V} {N : Nat} (hN : 8589934592 ≤ N) {l2 : Int32} {l3 : Int32} {V : sv_V} (hS_V : SIx T_cU G V) (r_l2 : rg l2 (-20000) (20000)) (r_l3 : rg l3 (-20000) (20000)) : Sg (QI T_cU G (-2147483648) (2147483647)) (F_X1_fillIn N l2 l3 V) := by
  unfold F_X1_fillIn
  exact
    lp5_up (I := fun l2 l3 l4 l5 V => (SIx T_cU G V) ∧ (rg l2 (-20000) (20000)) ∧ (rg l3 (-20000) (20000)) ∧ (rg l5 (0) (128))) (fun _ _ _ l5 _ => l5.toInt) (0) (128) (fun l2 l3 l4 l5 V h => by
      obtain ⟨hS_V, r_l2, r_l3, r_l5⟩ := h
      have := r_l5; unfold rg at this; omega) (fun k l2 l3 l4 l5 V h hk => by
      obtain ⟨hS_V, r_l2, r_l3, r_l5⟩ := h
      exact s_B_X1_fillIn_6_U hN (fun l2 l3 l4 l5 V hS_V r_l2 r_l3 r_l5 hc_k6  => hk l2 l3 l4 l5 V (by exact ⟨hS_V, r_l2, r_l3, r_l5⟩) (hc_k6)) hS_V r_l2 r_l3 r_l5 (Int.le_refl _)) N (by have := hN; omega) _ _ _ _ _ (by exact ⟨hS_V, r_l2, r_l3, (rg_m (rg_c (x := (0 : Int32)) (n := 0) rfl) (by decide) (by decide))⟩)
theorem s_B_X3_glyphsHold_2_M {G : sv_V} {N : Nat} (hN : 8589934592 ≤ N) {k2 : Int32 → sv_V → Option ( Int32 × sv_V )} {c_k2 : Int} (hk_k2 : ∀ (l1 : Int32) (V : sv_V), SIx T_cM G V → rg l1 (0) (200) → c_k2 < l1.toInt → Sg (QI T_cM G (0) (1)) (k2 l1 V)) {l1 : Int32} {V : sv_V} (hS_V : SIx T_cM G V) (r_l1 : rg l1 (0) (200)) (hc_k2 : c_k2 ≤ l1.toInt) : Sg (QI T_cM G (0) (1)) (B_X3_glyphsHold_2 N k2 l1 V) := by
  unfold B_X3_glyphsHold_2
  exact
    sf_ite (fun h_1 =>
    sf_eI (s_F_X3_depthsHold_M hN hS_V) fun x_3 V_4 e_6 hS_V_4 r_5 =>
    sf_p (bl_rg r_5 (by decide) (by decide)) <|
    sf_sI hS_V_4 r_5)
     (fun h_1 =>
    have f_8 := (rg_hlt (Int32.not_le.mp h_1) r_l1 (hS_V.rd r_RcM_2_7))
    sf_eI (s_F_X3_glyphHolds_M hN hS_V (rg_m f_8 (by decide) (by decide))) fun x_9 V_10 e_12 hS_V_10 r_11 =>
    sf_ite (fun h_14 =>
    sf_sI hS_V_10 (rg_m (rg_c (x := (0 : Int32)) (n := 0) rfl) (by decide) (by decide)))
     (fun h_14 =>
    sf_let fun x_17 q_18 =>
    have f_19 := rg_eq q_18 (rg_add f_8 (rg_c (x := (1 : Int32)) (n := 1) rfl) (by decide) (by decide))
    hk_k2 _ _ hS_V_10 (rg_m f_19 (by decide) (by decide)) (cnt_u0 q_18 f_8 (by decide) hc_k2)))
theorem s_F_X3_glyphsHold_M {G : sv_V} {N : Nat} (hN : 8589934592 ≤ N) {V : sv_V} (hS_V : SIx T_cM G V) : Sg (QI T_cM G (0) (1)) (F_X3_glyphsHold N V) := by
  unfold F_X3_glyphsHold
  exact
    lp2_up (I := fun l1 V => (SIx T_cM G V) ∧ (rg l1 (0) (200))) (fun l1 _ => l1.toInt) (0) (200) (fun l1 V h => by
      obtain ⟨hS_V, r_l1⟩ := h
      have := r_l1; unfold rg at this; omega) (fun k l1 V h hk => by
      obtain ⟨hS_V, r_l1⟩ := h
      exact s_B_X3_glyphsHold_2_M hN (fun l1 V hS_V r_l1 hc_k2  => hk l1 V (by exact ⟨hS_V, r_l1⟩) (hc_k2)) hS_V r_l1 (Int.le_refl _)) N (by have := hN; omega) _ _ (by exact ⟨hS_V, (rg_m (rg_c (x := (0 : Int32)) (n := 0) rfl) (by decide) (by decide))⟩)
theorem s_B_X5_vectorCodes_100_R {G : sv_V} {N : Nat} (hN : 8589934592 ≤ N) {bo bm : Nat} (hR : RefsOf G bo bm) {l1 : Int32} {V : sv_V} (hS_V : SIx T_cR G V) (r_l1 : rg l1 (6) (9)) : Sg (SIx T_cR G) (B_X5_vectorCodes_100 N l1 V) := by
  unfold B_X5_vectorCodes_100
  exact
    sf_eV (s_F_X5_goAlongLine_R hN hR hS_V r_l1) fun V_1 e_2 hS_V_1 =>
    sf_sV hS_V_1
theorem s_B_X5_vectorCodes_106_R {G : sv_V} {N : Nat} (hN : 8589934592 ≤ N) {bo bm : Nat} (hR : RefsOf G bo bm) {l1 : Int32} {V : sv_V} (hS_V : SIx T_cR G V) (r_l1 : rg l1 (10) (11)) : Sg (SIx T_cR G) (B_X5_vectorCodes_106 N l1 V) := by
  unfold B_X5_vectorCodes_106
  exact
    sf_eV (s_F_X5_goAlongNumbers_R hN hR hS_V r_l1) fun V_1 e_2 hS_V_1 =>
    sf_sV hS_V_1
theorem s_B_X5_vectorCodes_191_R {G : sv_V} {N : Nat} (hN : 8589934592 ≤ N) {bo bm : Nat} (hR : RefsOf G bo bm) {l1 : Int32} {V : sv_V} (hS_V : SIx T_cR G V) (r_l1 : rg l1 (134) (135)) : Sg (SIx T_cR G) (B_X5_vectorCodes_191 N l1 V) := by
  unfold B_X5_vectorCodes_191
  exact
    sf_eV (s_F_X5_goAlongBothLines_R hN hR hS_V r_l1) fun V_1 e_2 hS_V_1 =>
    sf_sV hS_V_1
theorem s_F_X5_vectorCodes_R {G : sv_V} {N : Nat} (hN : 8589934592 ≤ N) {bo bm : Nat} (hR : RefsOf G bo bm) {l1 : Int32} {V : sv_V} (hS_V : SIx T_cR G V) (r_l1 : rg l1 (0) (255)) : Sg (SIx T_cR G) (F_X5_vectorCodes N l1 V) := by
  unfold F_X5_vectorCodes
  exact
    sf_ite (fun h_1 =>
    have f_2 := (rg_eq h_1 (rg_c (x := (6 : Int32)) (n := 6) rfl))
    s_B_X5_vectorCodes_100_R hN hR hS_V (rg_m f_2 (by decide) (by decide)))
     (fun h_1 =>
    sf_ite (fun h_3 =>
    have f_4 := (rg_eq h_3 (rg_c (x := (7 : Int32)) (n := 7) rfl))
    s_B_X5_vectorCodes_100_R hN hR hS_V (rg_m f_4 (by decide) (by decide)))
     (fun h_3 =>
    sf_ite (fun h_5 =>
    have f_6 := (rg_eq h_5 (rg_c (x := (8 : Int32)) (n := 8) rfl))
    s_B_X5_vectorCodes_100_R hN hR hS_V (rg_m f_6 (by decide) (by decide)))
     (fun h_5 =>
    sf_ite (fun h_7 =>
    have f_8 := (rg_eq h_7 (rg_c (x := (9 : Int32)) (n := 9) rfl))
    s_B_X5_vectorCodes_100_R hN hR hS_V (rg_m f_8 (by decide) (by decide)))
     (fun h_7 =>
    sf_ite (fun h_9 =>
    have f_10 := (rg_eq h_9 (rg_c (x := (10 : Int32)) (n := 10) rfl))
    s_B_X5_vectorCodes_106_R hN hR hS_V (rg_m f_10 (by decide) (by decide)))
     (fun h_9 =>
    sf_ite (fun h_11 =>
    have f_12 := (rg_eq h_11 (rg_c (x := (11 : Int32)) (n := 11) rfl))
    s_B_X5_vectorCodes_106_R hN hR hS_V (rg_m f_12 (by decide) (by decide)))
     (fun h_11 =>
    sf_ite (fun h_13 =>
    sf_eV (s_F_X5_push_R hN hR hS_V) fun V_15 e_16 hS_V_15 =>
    sf_eV (s_F_X5_push_R hN hR hS_V_15) fun V_18 e_19 hS_V_18 =>
    sf_sV hS_V_18)
     (fun h_13 =>
    sf_ite (fun h_21 =>
    sf_eV (s_F_X5_push_R hN hR hS_V) fun V_23 e_24 hS_V_23 =>
    sf_eV (s_F_X5_push_R hN hR hS_V_23) fun V_26 e_27 hS_V_26 =>
    sf_sV hS_V_26)
     (fun h_21 =>
    sf_ite (fun h_29 =>
    sf_w (hS_V.wc oi_RcR_70_0 (rg_m (hS_V.rd r_RcR_70_2) (by decide) (by decide))) fun V_31 q_32 hS_V_31 =>
    sf_w (hS_V_31.wc oi_RcR_70_1 (rg_m (hS_V_31.rd r_RcR_70_3) (by decide) (by decide))) fun V_33 q_34 hS_V_33 =>
    sf_sV hS_V_33)
     (fun h_29 =>
    sf_ite (fun h_35 =>
    have f_36 := (rg_eq h_35 (rg_c (x := (134 : Int32)) (n := 134) rfl))
    s_B_X5_vectorCodes_191_R hN hR hS_V (rg_m f_36 (by decide) (by decide)))
     (fun h_35 =>
    sf_ite (fun h_37 =>
    have f_38 := (rg_eq h_37 (rg_c (x := (135 : Int32)) (n := 135) rfl))
    s_B_X5_vectorCodes_191_R hN hR hS_V (rg_m f_38 (by decide) (by decide)))
     (fun h_37 =>
    sf_eV (s_F_X9_goAlong_R hN hR hS_V r_l1) fun V_39 e_40 hS_V_39 =>
    sf_sV hS_V_39)))))))))))
theorem s_B_X5_singlePointCodes_170_R {G : sv_V} {N : Nat} (hN : 8589934592 ≤ N) {bo bm : Nat} (hR : RefsOf G bo bm) {l1 : Int32} {V : sv_V} (hS_V : SIx T_cR G V) (r_l1 : rg l1 (46) (47)) : Sg (SIx T_cR G) (B_X5_singlePointCodes_170 N l1 V) := by
  unfold B_X5_singlePointCodes_170
  exact
    sf_eV (s_F_X5_touchPoint_R hN hR hS_V r_l1) fun V_1 e_2 hS_V_1 =>
    sf_sV hS_V_1
theorem s_B_X5_singlePointCodes_216_R {G : sv_V} {N : Nat} (hN : 8589934592 ≤ N) {bo bm : Nat} (hR : RefsOf G bo bm) {l1 : Int32} {V : sv_V} (hS_V : SIx T_cR G V) (r_l1 : rg l1 (70) (71)) : Sg (SIx T_cR G) (B_X5_singlePointCodes_216 N l1 V) := by
  unfold B_X5_singlePointCodes_216
  exact
    sf_eV (s_F_X5_tellLong_R hN hR hS_V r_l1) fun V_1 e_2 hS_V_1 =>
    sf_sV hS_V_1
theorem s_B_X5_singlePointCodes_227_R {G : sv_V} {N : Nat} (hN : 8589934592 ≤ N) {bo bm : Nat} (hR : RefsOf G bo bm) {l1 : Int32} {V : sv_V} (hS_V : SIx T_cR G V) (r_l1 : rg l1 (73) (74)) : Sg (SIx T_cR G) (B_X5_singlePointCodes_227 N l1 V) := by
  unfold B_X5_singlePointCodes_227
  exact
    sf_eV (s_F_X5_tellDistance_R hN hR hS_V r_l1) fun V_1 e_2 hS_V_1 =>
    sf_sV hS_V_1
theorem s_B_X5_singlePointCodes_233_R {G : sv_V} {N : Nat} (hN : 8589934592 ≤ N) {bo bm : Nat} (hR : RefsOf G bo bm) {l1 : Int32} {V : sv_V} (hS_V : SIx T_cR G V) (r_l1 : rg l1 (0) (255)) : Sg (SIx T_cR G) (B_X5_singlePointCodes_233 N l1 V) := by
  unfold B_X5_singlePointCodes_233
  exact
    sf_eV (s_F_X5_turnRange_R hN hR hS_V r_l1) fun V_1 e_2 hS_V_1 =>
    sf_sV hS_V_1
theorem s_F_X5_singlePointCodes_R {G : sv_V} {N : Nat} (hN : 8589934592 ≤ N) {bo bm : Nat} (hR : RefsOf G bo bm) {l1 : Int32} {V : sv_V} (hS_V : SIx T_cR G V) (r_l1 : rg l1 (0) (255)) : Sg (SIx T_cR G) (F_X5_singlePointCodes N l1 V) := by
  unfold F_X5_singlePointCodes
  exact
    sf_ite (fun h_1 =>
    sf_eV (s_F_X5_alignPoints_R hN hR hS_V) fun V_3 e_4 hS_V_3 =>
    sf_sV hS_V_3)
     (fun h_1 =>
    sf_ite (fun h_6 =>
    have f_7 := (rg_eq h_6 (rg_c (x := (40 : Int32)) (n := 40) rfl))
    s_B_X5_singlePointCodes_233_R hN hR hS_V (rg_m f_7 (by decide) (by decide)))
     (fun h_6 =>
    sf_ite (fun h_8 =>
    sf_eV (s_F_X5_untouchPoint_R hN hR hS_V) fun V_10 e_11 hS_V_10 =>
    sf_sV hS_V_10)
     (fun h_8 =>
    sf_ite (fun h_13 =>
    have f_14 := (rg_eq h_13 (rg_c (x := (42 : Int32)) (n := 42) rfl))
    s_B_X5_singlePointCodes_233_R hN hR hS_V (rg_m f_14 (by decide) (by decide)))
     (fun h_13 =>
    sf_ite (fun h_15 =>
    have f_16 := (rg_eq h_15 (rg_c (x := (43 : Int32)) (n := 43) rfl))
    s_B_X5_singlePointCodes_233_R hN hR hS_V (rg_m f_16 (by decide) (by decide)))
     (fun h_15 =>
    sf_ite (fun h_17 =>
    have f_18 := (rg_eq h_17 (rg_c (x := (44 : Int32)) (n := 44) rfl))
    s_B_X5_singlePointCodes_233_R hN hR hS_V (rg_m f_18 (by decide) (by decide)))
     (fun h_17 =>
    sf_ite (fun h_19 =>
    have f_20 := (rg_eq h_19 (rg_c (x := (45 : Int32)) (n := 45) rfl))
    s_B_X5_singlePointCodes_233_R hN hR hS_V (rg_m f_20 (by decide) (by decide)))
     (fun h_19 =>
    sf_ite (fun h_21 =>
    have f_22 := (rg_eq h_21 (rg_c (x := (46 : Int32)) (n := 46) rfl))
    s_B_X5_singlePointCodes_170_R hN hR hS_V (rg_m f_22 (by decide) (by decide)))
     (fun h_21 =>
    sf_ite (fun h_23 =>
    have f_24 := (rg_eq h_23 (rg_c (x := (47 : Int32)) (n := 47) rfl))
    s_B_X5_singlePointCodes_170_R hN hR hS_V (rg_m f_24 (by decide) (by decide)))
     (fun h_23 =>
    sf_ite (fun h_25 =>
    sf_o (c := bo) (ref7 hS_V hR rfl) <|
    sf_p (lay_S hR.1 (by decide +kernel)) <|
    sf_crS (T := [89, 100, 110, 120, 130, 140]) hR.1 (by decide +kernel) fun b_27 m_29 q_28 =>
    sf_o (c := bo) (ref7 hS_V hR rfl) <|
    sf_p (lay_S hR.1 (by decide +kernel)) <|
    sf_crS (T := [87, 98, 108, 118, 128, 138]) hR.1 (by decide +kernel) fun b_30 m_32 q_31 =>
    sf_eV (s_F_X5_fillUntouched_R hN hR hS_V (mem_of m_29 (by decide)) (mem_of m_32 (by decide)) (rg_m (rg_c (x := (2 : Int32)) (n := 2) rfl) (by decide) (by decide)) ⟨3, by decide, q_28⟩ ⟨1, by decide, q_31⟩) fun V_33 e_34 hS_V_33 =>
    sf_sV hS_V_33)
     (fun h_25 =>
    sf_ite (fun h_36 =>
    sf_o (c := bo) (ref7 hS_V hR rfl) <|
    sf_p (lay_S hR.1 (by decide +kernel)) <|
    sf_crS (T := [88, 99, 109, 119, 129, 139]) hR.1 (by decide +kernel) fun b_38 m_40 q_39 =>
    sf_o (c := bo) (ref7 hS_V hR rfl) <|
    sf_p (lay_S hR.1 (by decide +kernel)) <|
    sf_crS (T := [86, 97, 107, 117, 127, 137]) hR.1 (by decide +kernel) fun b_41 m_43 q_42 =>
    sf_eV (s_F_X5_fillUntouched_R hN hR hS_V (mem_of m_40 (by decide)) (mem_of m_43 (by decide)) (rg_m (rg_c (x := (1 : Int32)) (n := 1) rfl) (by decide) (by decide)) ⟨2, by decide, q_39⟩ ⟨0, by decide, q_42⟩) fun V_44 e_45 hS_V_44 =>
    sf_sV hS_V_44)
     (fun h_36 =>
    sf_ite (fun h_47 =>
    have f_48 := (rg_eq h_47 (rg_c (x := (50 : Int32)) (n := 50) rfl))
    s_B_X5_singlePointCodes_233_R hN hR hS_V (rg_m f_48 (by decide) (by decide)))
     (fun h_47 =>
    sf_ite (fun h_49 =>
    have f_50 := (rg_eq h_49 (rg_c (x := (51 : Int32)) (n := 51) rfl))
    s_B_X5_singlePointCodes_233_R hN hR hS_V (rg_m f_50 (by decide) (by decide)))
     (fun h_49 =>
    sf_ite (fun h_51 =>
    have f_52 := (rg_eq h_51 (rg_c (x := (52 : Int32)) (n := 52) rfl))
    s_B_X5_singlePointCodes_233_R hN hR hS_V (rg_m f_52 (by decide) (by decide)))
     (fun h_51 =>
    sf_ite (fun h_53 =>
    have f_54 := (rg_eq h_53 (rg_c (x := (53 : Int32)) (n := 53) rfl))
    s_B_X5_singlePointCodes_233_R hN hR hS_V (rg_m f_54 (by decide) (by decide)))
     (fun h_53 =>
    sf_ite (fun h_55 =>
    have f_56 := (rg_eq h_55 (rg_c (x := (54 : Int32)) (n := 54) rfl))
    s_B_X5_singlePointCodes_233_R hN hR hS_V (rg_m f_56 (by decide) (by decide)))
     (fun h_55 =>
    sf_ite (fun h_57 =>
    have f_58 := (rg_eq h_57 (rg_c (x := (55 : Int32)) (n := 55) rfl))
    s_B_X5_singlePointCodes_233_R hN hR hS_V (rg_m f_58 (by decide) (by decide)))
     (fun h_57 =>
    sf_ite (fun h_59 =>
    have f_60 := (rg_eq h_59 (rg_c (x := (56 : Int32)) (n := 56) rfl))
    s_B_X5_singlePointCodes_233_R hN hR hS_V (rg_m f_60 (by decide) (by decide)))
     (fun h_59 =>
    sf_ite (fun h_61 =>
    have f_62 := (rg_eq h_61 (rg_c (x := (57 : Int32)) (n := 57) rfl))
    s_B_X5_singlePointCodes_233_R hN hR hS_V (rg_m f_62 (by decide) (by decide)))
     (fun h_61 =>
    sf_ite (fun h_63 =>
    have f_64 := (rg_eq h_63 (rg_c (x := (58 : Int32)) (n := 58) rfl))
    s_B_X5_singlePointCodes_233_R hN hR hS_V (rg_m f_64 (by decide) (by decide)))
     (fun h_63 =>
    sf_ite (fun h_65 =>
    have f_66 := (rg_eq h_65 (rg_c (x := (59 : Int32)) (n := 59) rfl))
    s_B_X5_singlePointCodes_233_R hN hR hS_V (rg_m f_66 (by decide) (by decide)))
     (fun h_65 =>
    sf_ite (fun h_67 =>
    have f_68 := (rg_eq h_67 (rg_c (x := (60 : Int32)) (n := 60) rfl))
    s_B_X5_singlePointCodes_233_R hN hR hS_V (rg_m f_68 (by decide) (by decide)))
     (fun h_67 =>
    sf_ite (fun h_69 =>
    have f_70 := (rg_eq h_69 (rg_c (x := (61 : Int32)) (n := 61) rfl))
    s_B_X5_singlePointCodes_233_R hN hR hS_V (rg_m f_70 (by decide) (by decide)))
     (fun h_69 =>
    sf_ite (fun h_71 =>
    have f_72 := (rg_eq h_71 (rg_c (x := (62 : Int32)) (n := 62) rfl))
    s_B_X5_singlePointCodes_233_R hN hR hS_V (rg_m f_72 (by decide) (by decide)))
     (fun h_71 =>
    sf_ite (fun h_73 =>
    have f_74 := (rg_eq h_73 (rg_c (x := (63 : Int32)) (n := 63) rfl))
    s_B_X5_singlePointCodes_233_R hN hR hS_V (rg_m f_74 (by decide) (by decide)))
     (fun h_73 =>
    sf_ite (fun h_75 =>
    have f_76 := (rg_eq h_75 (rg_c (x := (64 : Int32)) (n := 64) rfl))
    s_B_X5_singlePointCodes_233_R hN hR hS_V (rg_m f_76 (by decide) (by decide)))
     (fun h_75 =>
    sf_ite (fun h_77 =>
    have f_78 := (rg_eq h_77 (rg_c (x := (65 : Int32)) (n := 65) rfl))
    s_B_X5_singlePointCodes_233_R hN hR hS_V (rg_m f_78 (by decide) (by decide)))
     (fun h_77 =>
    sf_ite (fun h_79 =>
    have f_80 := (rg_eq h_79 (rg_c (x := (66 : Int32)) (n := 66) rfl))
    s_B_X5_singlePointCodes_233_R hN hR hS_V (rg_m f_80 (by decide) (by decide)))
     (fun h_79 =>
    sf_ite (fun h_81 =>
    have f_82 := (rg_eq h_81 (rg_c (x := (67 : Int32)) (n := 67) rfl))
    s_B_X5_singlePointCodes_233_R hN hR hS_V (rg_m f_82 (by decide) (by decide)))
     (fun h_81 =>
    sf_ite (fun h_83 =>
    have f_84 := (rg_eq h_83 (rg_c (x := (68 : Int32)) (n := 68) rfl))
    s_B_X5_singlePointCodes_233_R hN hR hS_V (rg_m f_84 (by decide) (by decide)))
     (fun h_83 =>
    sf_ite (fun h_85 =>
    have f_86 := (rg_eq h_85 (rg_c (x := (69 : Int32)) (n := 69) rfl))
    s_B_X5_singlePointCodes_233_R hN hR hS_V (rg_m f_86 (by decide) (by decide)))
     (fun h_85 =>
    sf_ite (fun h_87 =>
    have f_88 := (rg_eq h_87 (rg_c (x := (70 : Int32)) (n := 70) rfl))
    s_B_X5_singlePointCodes_216_R hN hR hS_V (rg_m f_88 (by decide) (by decide)))
     (fun h_87 =>
    sf_ite (fun h_89 =>
    have f_90 := (rg_eq h_89 (rg_c (x := (71 : Int32)) (n := 71) rfl))
    s_B_X5_singlePointCodes_216_R hN hR hS_V (rg_m f_90 (by decide) (by decide)))
     (fun h_89 =>
    sf_ite (fun h_91 =>
    sf_eV (s_F_X5_setLong_R hN hR hS_V) fun V_93 e_94 hS_V_93 =>
    sf_sV hS_V_93)
     (fun h_91 =>
    sf_ite (fun h_96 =>
    have f_97 := (rg_eq h_96 (rg_c (x := (73 : Int32)) (n := 73) rfl))
    s_B_X5_singlePointCodes_227_R hN hR hS_V (rg_m f_97 (by decide) (by decide)))
     (fun h_96 =>
    sf_ite (fun h_98 =>
    have f_99 := (rg_eq h_98 (rg_c (x := (74 : Int32)) (n := 74) rfl))
    s_B_X5_singlePointCodes_227_R hN hR hS_V (rg_m f_99 (by decide) (by decide)))
     (fun h_98 =>
    s_B_X5_singlePointCodes_233_R hN hR hS_V r_l1))))))))))))))))))))))))))))))))))))
theorem s_F_X5_measuredCodes_R {G : sv_V} {hN_ : Nat} (hN : 8589934592 ≤ hN_) {bo bm : Nat} (hR : RefsOf G bo bm) {l1 : Int32} {V : sv_V} (hS_V : SIx T_cR G V) (r_l1 : rg l1 (0) (255)) : Sg (SIx T_cR G) (F_X5_measuredCodes l1 V) := by
  unfold F_X5_measuredCodes
  exact
    sf_ite (fun h_1 =>
    have f_2 := (rg_lle h_1 (rg_c (x := (60 : Int32)) (n := 60) rfl) r_l1)
    sf_ite (fun h_3 =>
    have f_4 := (rg_lle h_3 (rg_c (x := (64 : Int32)) (n := 64) rfl) f_2)
    sf_ite (fun h_5 =>
    have f_6 := (rg_lle h_5 (rg_c (x := (224 : Int32)) (n := 224) rfl) f_4)
    sf_eV (s_F_X5_moveAsCvt_R hN hR hS_V (rg_m f_6 (by decide) (by decide))) fun V_7 e_8 hS_V_7 =>
    sf_sV hS_V_7)
     (fun h_5 =>
    have f_10 := (rg_hlt (Int32.not_le.mp h_5) f_4 (rg_c (x := (224 : Int32)) (n := 224) rfl))
    sf_eV (s_F_X5_moveAsOriginal_R hN hR hS_V (rg_m f_10 (by decide) (by decide))) fun V_11 e_12 hS_V_11 =>
    sf_sV hS_V_11))
     (fun h_3 =>
    have f_14 := (rg_hlt (Int32.not_le.mp h_3) f_2 (rg_c (x := (64 : Int32)) (n := 64) rfl))
    sf_eV (s_F_X5_moveToCvt_R hN hR hS_V (rg_m f_14 (by decide) (by decide))) fun V_15 e_16 hS_V_15 =>
    sf_sV hS_V_15))
     (fun h_1 =>
    have f_18 := (rg_hlt (Int32.not_le.mp h_1) r_l1 (rg_c (x := (60 : Int32)) (n := 60) rfl))
    sf_eV (s_F_X5_moveFromReference_R hN hR hS_V (rg_m f_18 (by decide) (by decide))) fun V_19 e_20 hS_V_19 =>
    sf_sV hS_V_19)
theorem s_B_X6_addPart_57_P {G : sv_V} {N : Nat} (hN : 8589934592 ≤ N) {V : sv_V} (hS_V : SIx T_cP G V) : Sg (QI T_cP G (0) (1)) (B_X6_addPart_57 N V) := by
  unfold B_X6_addPart_57
  exact
    sf_eV (s_F_X5_failOutside_P hN hS_V (rg_m (rg_c (x := (12 : Int32)) (n := 12) rfl) (by decide) (by decide))) fun V_1 e_2 hS_V_1 =>
    sf_sI hS_V_1 (rg_m (rg_c (x := (0 : Int32)) (n := 0) rfl) (by decide) (by decide))
theorem s_B_X6_addPart_137_P {G : sv_V} {N : Nat} (hN : 8589934592 ≤ N) {l2 : Nat} {l3 : Nat} {V : sv_V} (hS_V : SIx T_cP G V) (m_l2 : l2 ∈ [93, 103, 113, 123]) (m_l3 : l3 ∈ [103, 113, 123, 133]) : Sg (QI T_cP G (0) (1)) (B_X6_addPart_137 N l2 l3 V) := by
  unfold B_X6_addPart_137
  exact
    sf_ite (fun h_1 =>
    sf_sI hS_V (rg_m (rg_c (x := (1 : Int32)) (n := 1) rfl) (by decide) (by decide)))
     (fun h_1 =>
    sf_p (lay_S m_l3 (by decide +kernel)) <|
    sf_crS (T := [105, 115, 125, 135]) m_l3 (by decide +kernel) fun b_4 m_6 q_5 =>
    sf_p (lay_S m_l2 (by decide +kernel)) <|
    sf_crS (T := [95, 105, 115, 125]) m_l2 (by decide +kernel) fun b_7 m_9 q_8 =>
    sf_lenE (n := 2) m_6 (by decide +kernel) <|
    sf_lenE (n := 2) m_9 (by decide +kernel) <|
    sf_p (cpo_rg (m := 2) (rg_c (x := (0 : Int32)) (n := 0) rfl) (rg_c (x := (2 : Int32)) (n := 2) rfl) (by decide) (by decide) (by decide) (Nat.le_refl _)) <|
    sf_p (cpo_rg (m := 2) (rg_c (x := (0 : Int32)) (n := 0) rfl) (rg_c (x := (2 : Int32)) (n := 2) rfl) (by decide) (by decide) (by decide) (Nat.le_refl _)) <|
    sf_w (hS_V.wC (okCS (M := [95, 105, 115, 125]) m_9 osa_RcP_95105115125)) fun V_12 q_13 hS_V_12 =>
    sf_crS (T := [106, 116, 126, 136]) m_l3 (by decide +kernel) fun b_14 m_16 q_15 =>
    sf_crS (T := [96, 106, 116, 126]) m_l2 (by decide +kernel) fun b_17 m_19 q_18 =>
    sf_lenE (n := 2) m_16 (by decide +kernel) <|
    sf_lenE (n := 2) m_19 (by decide +kernel) <|
    sf_p (cpo_rg (m := 2) (rg_c (x := (0 : Int32)) (n := 0) rfl) (rg_c (x := (2 : Int32)) (n := 2) rfl) (by decide) (by decide) (by decide) (Nat.le_refl _)) <|
    sf_p (cpo_rg (m := 2) (rg_c (x := (0 : Int32)) (n := 0) rfl) (rg_c (x := (2 : Int32)) (n := 2) rfl) (by decide) (by decide) (by decide) (Nat.le_refl _)) <|
    sf_w (hS_V_12.wC (okCS (M := [96, 106, 116, 126]) m_19 osa_RcP_96106116126)) fun V_22 q_23 hS_V_22 =>
    sf_sI hS_V_22 (rg_m (rg_c (x := (1 : Int32)) (n := 1) rfl) (by decide) (by decide)))
theorem s_F_X6_addPart_P {G : sv_V} {N : Nat} (hN : 8589934592 ≤ N) {l1 : Int32} {V : sv_V} (hS_V : SIx T_cP G V) (r_l1 : rg l1 (0) (4)) (an_0 : (0 ≤ (V.1 16 9).toInt ∧ 0 ≤ (V.1 16 10).toInt) ∨ ¬ ((V.1 16 7) &&& (2 : Int32)).toInt = 0) : Sg (QI T_cP G (0) (1)) (F_X6_addPart N l1 V) := by
  unfold F_X6_addPart
  exact
    sf_ite (fun h_1 =>
    have f_2 := (rg_hlt h_1 (rg_add r_l1 (rg_c (x := (1 : Int32)) (n := 1) rfl) (by decide) (by decide)) (rg_c (x := (5 : Int32)) (n := 5) rfl))
    have f_3 := (rg_addL f_2 r_l1 (rg_c (x := (1 : Int32)) (n := 1) rfl) (by decide) (by decide))
    sf_p (in_rg f_3 (by decide) (by decide)) <|
    sf_crI (T := [93, 103, 113, 123]) f_3 (by decide) (by decide +kernel) fun b_4 m_5 =>
    sf_p (in_rg (rg_add f_3 (rg_c (x := (1 : Int32)) (n := 1) rfl) (by decide) (by decide)) (by decide) (by decide)) <|
    sf_crI (T := [103, 113, 123, 133]) (rg_add f_3 (rg_c (x := (1 : Int32)) (n := 1) rfl) (by decide) (by decide)) (by decide) (by decide +kernel) fun b_6 m_7 =>
    sf_p (lay_S m_5 (by decide +kernel)) <|
    sf_let fun x_8 q_9 =>
    have f_10 := rg_eq q_9 (hS_V.rdS m_5 rs_RcP_93103113123_9_0_100)
    sf_p (lay_S m_7 (by decide +kernel)) <|
    sf_ite (fun h_11 =>
    s_B_X6_addPart_57_P hN hS_V)
     (fun h_11 =>
    have f_15 := (rg_hle (Int32.not_lt.mp h_11) (rg_add f_10 (hS_V.rdS m_7 rs_RcP_103113123133_9_0_100) (by decide) (by decide)) (rg_c (x := (100 : Int32)) (n := 100) rfl))
    sf_ite (fun h_16 =>
    have f_17 := (rg_hle h_16 (rg_add (hS_V.rdS m_5 rs_RcP_93103113123_10_0_20) (hS_V.rdS m_7 rs_RcP_103113123133_10_0_20) (by decide) (by decide)) (rg_c (x := (20 : Int32)) (n := 20) rfl))
    sf_eV (s_F_X6_append_P hN hS_V m_5 m_7 (by have := ((hS_V.rdS m_5 rs_RcP_93103113123_9_0_100)).1; have := ((hS_V.rdS m_5 rs_RcP_93103113123_9_0_100)).2; have := ((hS_V.rdS m_7 rs_RcP_103113123133_9_0_100)).1; have := ((hS_V.rdS m_7 rs_RcP_103113123133_9_0_100)).2; have := ((hS_V.rdS m_5 rs_RcP_93103113123_10_0_20)).1; have := ((hS_V.rdS m_5 rs_RcP_93103113123_10_0_20)).2; have := ((hS_V.rdS m_7 rs_RcP_103113123133_10_0_20)).1; have := ((hS_V.rdS m_7 rs_RcP_103113123133_10_0_20)).2; have := Int32.lt_iff_toInt_lt.mp h_1; have := ((rg_add f_3 (rg_c (x := (1 : Int32)) (n := 1) rfl) (by decide) (by decide))).1; have := ((rg_add f_3 (rg_c (x := (1 : Int32)) (n := 1) rfl) (by decide) (by decide))).2; have := rg_tia f_3 (rg_c (x := (1 : Int32)) (n := 1) rfl) (by decide) (by decide); have := (f_3).1; have := (f_3).2; have := Int32.le_iff_toInt_le.mp (Int32.not_lt.mp h_11); have := (f_15).1; have := (f_15).2; have := rg_tia f_10 (hS_V.rdS m_7 rs_RcP_103113123133_9_0_100) (by decide) (by decide); have := (f_10).1; have := (f_10).2; have := congrArg Int32.toInt q_9; have := Int32.le_iff_toInt_le.mp h_16; have := (f_17).1; have := (f_17).2; have := rg_tia (hS_V.rdS m_5 rs_RcP_93103113123_10_0_20) (hS_V.rdS m_7 rs_RcP_103113123133_10_0_20) (by decide) (by decide); have := ((hS_V.rd r_RcP_16_9)).1; have := ((hS_V.rd r_RcP_16_9)).2; have := ((hS_V.rd r_RcP_16_10)).1; have := ((hS_V.rd r_RcP_16_10)).2; have := ((hS_V.rd r_RcP_16_7)).1; have := ((hS_V.rd r_RcP_16_7)).2; have := an_0; have : (1 : Int32).toInt = 1 := rfl; have : (5 : Int32).toInt = 5 := rfl; have : (20 : Int32).toInt = 20 := rfl; have : (100 : Int32).toInt = 100 := rfl; omega) (by have := ((hS_V.rdS m_5 rs_RcP_93103113123_9_0_100)).1; have := ((hS_V.rdS m_5 rs_RcP_93103113123_9_0_100)).2; have := ((hS_V.rdS m_7 rs_RcP_103113123133_9_0_100)).1; have := ((hS_V.rdS m_7 rs_RcP_103113123133_9_0_100)).2; have := ((hS_V.rdS m_5 rs_RcP_93103113123_10_0_20)).1; have := ((hS_V.rdS m_5 rs_RcP_93103113123_10_0_20)).2; have := ((hS_V.rdS m_7 rs_RcP_103113123133_10_0_20)).1; have := ((hS_V.rdS m_7 rs_RcP_103113123133_10_0_20)).2; have := Int32.lt_iff_toInt_lt.mp h_1; have := ((rg_add f_3 (rg_c (x := (1 : Int32)) (n := 1) rfl) (by decide) (by decide))).1; have := ((rg_add f_3 (rg_c (x := (1 : Int32)) (n := 1) rfl) (by decide) (by decide))).2; have := rg_tia f_3 (rg_c (x := (1 : Int32)) (n := 1) rfl) (by decide) (by decide); have := (f_3).1; have := (f_3).2; have := Int32.le_iff_toInt_le.mp (Int32.not_lt.mp h_11); have := (f_15).1; have := (f_15).2; have := rg_tia f_10 (hS_V.rdS m_7 rs_RcP_103113123133_9_0_100) (by decide) (by decide); have := (f_10).1; have := (f_10).2; have := congrArg Int32.toInt q_9; have := Int32.le_iff_toInt_le.mp h_16; have := (f_17).1; have := (f_17).2; have := rg_tia (hS_V.rdS m_5 rs_RcP_93103113123_10_0_20) (hS_V.rdS m_7 rs_RcP_103113123133_10_0_20) (by decide) (by decide); have := ((hS_V.rd r_RcP_16_9)).1; have := ((hS_V.rd r_RcP_16_9)).2; have := ((hS_V.rd r_RcP_16_10)).1; have := ((hS_V.rd r_RcP_16_10)).2; have := ((hS_V.rd r_RcP_16_7)).1; have := ((hS_V.rd r_RcP_16_7)).2; have := an_0; have : (1 : Int32).toInt = 1 := rfl; have : (5 : Int32).toInt = 5 := rfl; have : (20 : Int32).toInt = 20 := rfl; have : (100 : Int32).toInt = 100 := rfl; omega)) fun V_18 e_19 hS_V_18 =>
    have f_20 := m_X6_append sv_sub_rf e_19
    sf_ite (fun h_21 =>
    have f_22 := (rg_eq h_21 (rg_c (x := (0 : Int32)) (n := 0) rfl))
    sf_eI (s_F_X6_match_P hN hS_V_18 m_5 (rg_m f_10 (by decide) (by decide)) (cap_S m_5 (by decide) f_10) (by have := (f_10).1; have := (f_10).2; have := congrArg Int32.toInt q_9; have := ((hS_V.rdS m_5 rs_RcP_93103113123_9_0_100)).1; have := ((hS_V.rdS m_5 rs_RcP_93103113123_9_0_100)).2; have := ((hS_V_18.rd r_RcP_16_9)).1; have := ((hS_V_18.rd r_RcP_16_9)).2; have := congrArg Int32.toInt (rd_fr (a := 16) (k := 9) f_20 rfl); have := ((hS_V.rd r_RcP_16_9)).1; have := ((hS_V.rd r_RcP_16_9)).2; have := ((hS_V_18.rd r_RcP_16_10)).1; have := ((hS_V_18.rd r_RcP_16_10)).2; have := congrArg Int32.toInt (rd_fr (a := 16) (k := 10) f_20 rfl); have := ((hS_V.rd r_RcP_16_10)).1; have := ((hS_V.rd r_RcP_16_10)).2; have := Int32.lt_iff_toInt_lt.mp h_1; have := ((rg_add f_3 (rg_c (x := (1 : Int32)) (n := 1) rfl) (by decide) (by decide))).1; have := ((rg_add f_3 (rg_c (x := (1 : Int32)) (n := 1) rfl) (by decide) (by decide))).2; have := rg_tia f_3 (rg_c (x := (1 : Int32)) (n := 1) rfl) (by decide) (by decide); have := (f_3).1; have := (f_3).2; have := Int32.le_iff_toInt_le.mp (Int32.not_lt.mp h_11); have := (f_15).1; have := (f_15).2; have := rg_tia f_10 (hS_V.rdS m_7 rs_RcP_103113123133_9_0_100) (by decide) (by decide); have := ((hS_V.rdS m_7 rs_RcP_103113123133_9_0_100)).1; have := ((hS_V.rdS m_7 rs_RcP_103113123133_9_0_100)).2; have := Int32.le_iff_toInt_le.mp h_16; have := (f_17).1; have := (f_17).2; have := rg_tia (hS_V.rdS m_5 rs_RcP_93103113123_10_0_20) (hS_V.rdS m_7 rs_RcP_103113123133_10_0_20) (by decide) (by decide); have := ((hS_V.rdS m_5 rs_RcP_93103113123_10_0_20)).1; have := ((hS_V.rdS m_5 rs_RcP_93103113123_10_0_20)).2; have := ((hS_V.rdS m_7 rs_RcP_103113123133_10_0_20)).1; have := ((hS_V.rdS m_7 rs_RcP_103113123133_10_0_20)).2; have := congrArg Int32.toInt h_21; have := (f_22).1; have := (f_22).2; have := and_c ((2 : Int32)) (rd_fr (a := 16) (k := 7) f_20 rfl); have := ((hS_V.rd r_RcP_16_7)).1; have := ((hS_V.rd r_RcP_16_7)).2; have := an_0; have : (0 : Int32).toInt = 0 := rfl; have : (1 : Int32).toInt = 1 := rfl; have : (5 : Int32).toInt = 5 := rfl; have : (20 : Int32).toInt = 20 := rfl; have : (100 : Int32).toInt = 100 := rfl; omega) (by have := (f_10).1; have := (f_10).2; have := congrArg Int32.toInt q_9; have := ((hS_V.rdS m_5 rs_RcP_93103113123_9_0_100)).1; have := ((hS_V.rdS m_5 rs_RcP_93103113123_9_0_100)).2; have := ((hS_V_18.rd r_RcP_16_9)).1; have := ((hS_V_18.rd r_RcP_16_9)).2; have := congrArg Int32.toInt (rd_fr (a := 16) (k := 9) f_20 rfl); have := ((hS_V.rd r_RcP_16_9)).1; have := ((hS_V.rd r_RcP_16_9)).2; have := ((hS_V_18.rd r_RcP_16_10)).1; have := ((hS_V_18.rd r_RcP_16_10)).2; have := congrArg Int32.toInt (rd_fr (a := 16) (k := 10) f_20 rfl); have := ((hS_V.rd r_RcP_16_10)).1; have := ((hS_V.rd r_RcP_16_10)).2; have := Int32.lt_iff_toInt_lt.mp h_1; have := ((rg_add f_3 (rg_c (x := (1 : Int32)) (n := 1) rfl) (by decide) (by decide))).1; have := ((rg_add f_3 (rg_c (x := (1 : Int32)) (n := 1) rfl) (by decide) (by decide))).2; have := rg_tia f_3 (rg_c (x := (1 : Int32)) (n := 1) rfl) (by decide) (by decide); have := (f_3).1; have := (f_3).2; have := Int32.le_iff_toInt_le.mp (Int32.not_lt.mp h_11); have := (f_15).1; have := (f_15).2; have := rg_tia f_10 (hS_V.rdS m_7 rs_RcP_103113123133_9_0_100) (by decide) (by decide); have := ((hS_V.rdS m_7 rs_RcP_103113123133_9_0_100)).1; have := ((hS_V.rdS m_7 rs_RcP_103113123133_9_0_100)).2; have := Int32.le_iff_toInt_le.mp h_16; have := (f_17).1; have := (f_17).2; have := rg_tia (hS_V.rdS m_5 rs_RcP_93103113123_10_0_20) (hS_V.rdS m_7 rs_RcP_103113123133_10_0_20) (by decide) (by decide); have := ((hS_V.rdS m_5 rs_RcP_93103113123_10_0_20)).1; have := ((hS_V.rdS m_5 rs_RcP_93103113123_10_0_20)).2; have := ((hS_V.rdS m_7 rs_RcP_103113123133_10_0_20)).1; have := ((hS_V.rdS m_7 rs_RcP_103113123133_10_0_20)).2; have := congrArg Int32.toInt h_21; have := (f_22).1; have := (f_22).2; have := and_c ((2 : Int32)) (rd_fr (a := 16) (k := 7) f_20 rfl); have := ((hS_V.rd r_RcP_16_7)).1; have := ((hS_V.rd r_RcP_16_7)).2; have := an_0; have : (0 : Int32).toInt = 0 := rfl; have : (1 : Int32).toInt = 1 := rfl; have : (5 : Int32).toInt = 5 := rfl; have : (20 : Int32).toInt = 20 := rfl; have : (100 : Int32).toInt = 100 := rfl; omega)) fun x_23 V_24 e_26 hS_V_24 r_25 =>
    sf_ite (fun h_28 =>
    sf_eV (s_F_X5_failOutside_P hN hS_V_24 (rg_m (rg_c (x := (5 : Int32)) (n := 5) rfl) (by decide) (by decide))) fun V_30 e_31 hS_V_30 =>
    sf_sI hS_V_30 (rg_m (rg_c (x := (0 : Int32)) (n := 0) rfl) (by decide) (by decide)))
     (fun h_28 =>
    s_B_X6_addPart_137_P hN hS_V_24 m_5 m_7))
     (fun h_21 =>
    sf_qI (s_F_X6_offset_P hN hS_V_18 (rg_m (hS_V_18.rd r_RcP_16_9) (by decide) (by decide))) fun x_35 r_36 =>
    sf_qI (s_F_X6_offset_P hN hS_V_18 (rg_m (hS_V_18.rd r_RcP_16_10) (by decide) (by decide))) fun x_37 r_38 =>
    sf_eV (s_F_X8_shift_P hN hS_V_18 m_5 (rg_m f_10 (by decide) (by decide)) (cap_S m_5 (by decide) f_10)) fun V_39 e_40 hS_V_39 =>
    s_B_X6_addPart_137_P hN hS_V_39 m_5 m_7))
     (fun h_16 =>
    s_B_X6_addPart_57_P hN hS_V)))
     (fun h_1 =>
    sf_sI hS_V (rg_m (rg_c (x := (0 : Int32)) (n := 0) rfl) (by decide) (by decide)))
theorem s_F_X11_draw_P {G : sv_V} {N : Nat} (hN : 8589934592 ≤ N) {l1 : Int32} {l2 : Int32} {V : sv_V} (hS_V : SIx T_cP G V) : Sg (QI T_cP G (-2147483648) (2147483647)) (F_X11_draw N l1 l2 V) := by
  unfold F_X11_draw
  exact
    sf_ite (fun h_1 =>
    sf_sI hS_V (rg_m (rg_c (x := (-3 : Int32)) (n := -3) rfl) (by decide) (by decide)))
     (fun h_1 =>
    sf_ite (fun h_4 =>
    sf_sI hS_V (rg_m (rg_c (x := (-3 : Int32)) (n := -3) rfl) (by decide) (by decide)))
     (fun h_4 =>
    sf_iteb (fun h_10 =>
    sf_someb <|
    sf_ite (fun h_14 =>
    False.elim (rg_noeq h_14 (rg_c (x := (1 : Int32)) (n := 1) rfl) (rg_c (x := (0 : Int32)) (n := 0) rfl) (by decide)))
     (fun h_14 =>
    sf_sI hS_V (rg_m (rg_c (x := (-2 : Int32)) (n := -2) rfl) (by decide) (by decide))))
     (fun h_10 =>
    have f_15 := (rl_lle (Int64.not_lt.mp (fun q => h_10 (lgc_lt.mpr q))) (rl_w (rg_neg (rg_c (x := (20000 : Int32)) (n := 20000) rfl) (by decide))) (rl_w rg_t))
    have f_16 := (rg_uw f_15)
    sf_iteb (fun h_17 =>
    have f_18 := (rl_hle (lgc_le.mp h_17) (rl_w f_16) (rl_w (rg_c (x := (20000 : Int32)) (n := 20000) rfl)))
    have f_19 := (rg_uw f_18)
    sf_someb <|
    sf_ite (fun h_20 =>
    sf_iteb (fun h_24 =>
    sf_someb <|
    sf_ite (fun h_28 =>
    False.elim (rg_noeq h_28 (rg_c (x := (1 : Int32)) (n := 1) rfl) (rg_c (x := (0 : Int32)) (n := 0) rfl) (by decide)))
     (fun h_28 =>
    sf_sI hS_V (rg_m (rg_c (x := (-2 : Int32)) (n := -2) rfl) (by decide) (by decide))))
     (fun h_24 =>
    have f_29 := (rl_lle (Int64.not_lt.mp (fun q => h_24 (lgc_lt.mpr q))) (rl_w (rg_neg (rg_c (x := (20000 : Int32)) (n := 20000) rfl) (by decide))) (rl_w rg_t))
    have f_30 := (rg_uw f_29)
    sf_iteb (fun h_31 =>
    have f_32 := (rl_hle (lgc_le.mp h_31) (rl_w f_30) (rl_w (rg_c (x := (20000 : Int32)) (n := 20000) rfl)))
    have f_33 := (rg_uw f_32)
    sf_someb <|
    sf_ite (fun h_34 =>
    sf_eI (s_F_X1_fillIn_P hN hS_V (rg_m f_19 (by decide) (by decide)) (rg_m f_33 (by decide) (by decide))) fun x_35 V_36 e_38 hS_V_36 r_37 =>
    sf_sI hS_V_36 r_37)
     (fun h_34 =>
    False.elim (rg_none h_34 (rg_c (x := (0 : Int32)) (n := 0) rfl) (rg_c (x := (0 : Int32)) (n := 0) rfl))))
     (fun h_31 =>
    sf_someb <|
    sf_ite (fun h_43 =>
    False.elim (rg_noeq h_43 (rg_c (x := (1 : Int32)) (n := 1) rfl) (rg_c (x := (0 : Int32)) (n := 0) rfl) (by decide)))
     (fun h_43 =>
    sf_sI hS_V (rg_m (rg_c (x := (-2 : Int32)) (n := -2) rfl) (by decide) (by decide))))))
     (fun h_20 =>
    False.elim (rg_none h_20 (rg_c (x := (0 : Int32)) (n := 0) rfl) (rg_c (x := (0 : Int32)) (n := 0) rfl))))
     (fun h_17 =>
    sf_someb <|
    sf_ite (fun h_47 =>
    False.elim (rg_noeq h_47 (rg_c (x := (1 : Int32)) (n := 1) rfl) (rg_c (x := (0 : Int32)) (n := 0) rfl) (by decide)))
     (fun h_47 =>
    sf_sI hS_V (rg_m (rg_c (x := (-2 : Int32)) (n := -2) rfl) (by decide) (by decide)))))))
theorem s_F_X11_draw_U {G : sv_V} {N : Nat} (hN : 8589934592 ≤ N) {l1 : Int32} {l2 : Int32} {V : sv_V} (hS_V : SIx T_cU G V) : Sg (QI T_cU G (-2147483648) (2147483647)) (F_X11_draw N l1 l2 V) := by
  unfold F_X11_draw
  exact
    sf_ite (fun h_1 =>
    sf_sI hS_V (rg_m (rg_c (x := (-3 : Int32)) (n := -3) rfl) (by decide) (by decide)))
     (fun h_1 =>
    sf_ite (fun h_4 =>
    sf_sI hS_V (rg_m (rg_c (x := (-3 : Int32)) (n := -3) rfl) (by decide) (by decide)))
     (fun h_4 =>
    sf_iteb (fun h_10 =>
    sf_someb <|
    sf_ite (fun h_14 =>
    False.elim (rg_noeq h_14 (rg_c (x := (1 : Int32)) (n := 1) rfl) (rg_c (x := (0 : Int32)) (n := 0) rfl) (by decide)))
     (fun h_14 =>
    sf_sI hS_V (rg_m (rg_c (x := (-2 : Int32)) (n := -2) rfl) (by decide) (by decide))))
     (fun h_10 =>
    have f_15 := (rl_lle (Int64.not_lt.mp (fun q => h_10 (lgc_lt.mpr q))) (rl_w (rg_neg (rg_c (x := (20000 : Int32)) (n := 20000) rfl) (by decide))) (rl_w rg_t))
    have f_16 := (rg_uw f_15)
    sf_iteb (fun h_17 =>
    have f_18 := (rl_hle (lgc_le.mp h_17) (rl_w f_16) (rl_w (rg_c (x := (20000 : Int32)) (n := 20000) rfl)))
    have f_19 := (rg_uw f_18)
    sf_someb <|
    sf_ite (fun h_20 =>
    sf_iteb (fun h_24 =>
    sf_someb <|
    sf_ite (fun h_28 =>
    False.elim (rg_noeq h_28 (rg_c (x := (1 : Int32)) (n := 1) rfl) (rg_c (x := (0 : Int32)) (n := 0) rfl) (by decide)))
     (fun h_28 =>
    sf_sI hS_V (rg_m (rg_c (x := (-2 : Int32)) (n := -2) rfl) (by decide) (by decide))))
     (fun h_24 =>
    have f_29 := (rl_lle (Int64.not_lt.mp (fun q => h_24 (lgc_lt.mpr q))) (rl_w (rg_neg (rg_c (x := (20000 : Int32)) (n := 20000) rfl) (by decide))) (rl_w rg_t))
    have f_30 := (rg_uw f_29)
    sf_iteb (fun h_31 =>
    have f_32 := (rl_hle (lgc_le.mp h_31) (rl_w f_30) (rl_w (rg_c (x := (20000 : Int32)) (n := 20000) rfl)))
    have f_33 := (rg_uw f_32)
    sf_someb <|
    sf_ite (fun h_34 =>
    sf_eI (s_F_X1_fillIn_U hN hS_V (rg_m f_19 (by decide) (by decide)) (rg_m f_33 (by decide) (by decide))) fun x_35 V_36 e_38 hS_V_36 r_37 =>
    sf_sI hS_V_36 r_37)
     (fun h_34 =>
    False.elim (rg_none h_34 (rg_c (x := (0 : Int32)) (n := 0) rfl) (rg_c (x := (0 : Int32)) (n := 0) rfl))))
     (fun h_31 =>
    sf_someb <|
    sf_ite (fun h_43 =>
    False.elim (rg_noeq h_43 (rg_c (x := (1 : Int32)) (n := 1) rfl) (rg_c (x := (0 : Int32)) (n := 0) rfl) (by decide)))
     (fun h_43 =>
    sf_sI hS_V (rg_m (rg_c (x := (-2 : Int32)) (n := -2) rfl) (by decide) (by decide))))))
     (fun h_20 =>
    False.elim (rg_none h_20 (rg_c (x := (0 : Int32)) (n := 0) rfl) (rg_c (x := (0 : Int32)) (n := 0) rfl))))
     (fun h_17 =>
    sf_someb <|
    sf_ite (fun h_47 =>
    False.elim (rg_noeq h_47 (rg_c (x := (1 : Int32)) (n := 1) rfl) (rg_c (x := (0 : Int32)) (n := 0) rfl) (by decide)))
     (fun h_47 =>
    sf_sI hS_V (rg_m (rg_c (x := (-2 : Int32)) (n := -2) rfl) (by decide) (by decide)))))))
theorem s_B_X5_run_302_R {G : sv_V} {N : Nat} (hN : 8589934592 ≤ N) {bo bm : Nat} (hR : RefsOf G bo bm) {k69 : Int32 → sv_V → Option sv_V} {c_k69 : Int} (hk_k69 : ∀ (l5 : Int32) (V : sv_V), SIx T_cR G V → rg l5 (0) (20001) → c_k69 < l5.toInt → Sg (SIx T_cR G) (k69 l5 V)) {l5 : Int32} {V : sv_V} (hS_V : SIx T_cR G V) (r_l5 : rg l5 (0) (20000)) (hc_k69 : c_k69 ≤ l5.toInt) : Sg (SIx T_cR G) (B_X5_run_302 N k69 l5 V) := by
  unfold B_X5_run_302
  exact
    sf_let fun x_1 q_2 =>
    have f_3 := rg_eq q_2 (rg_add r_l5 (rg_c (x := (1 : Int32)) (n := 1) rfl) (by decide) (by decide))
    hk_k69 _ _ hS_V (rg_m f_3 (by decide) (by decide)) (cnt_u0 q_2 r_l5 (by decide) hc_k69)
theorem s_B_X5_run_69_R {G : sv_V} {N : Nat} (hN : 8589934592 ≤ N) {bo bm : Nat} (hR : RefsOf G bo bm) {k69 : Int32 → sv_V → Option sv_V} {c_k69 : Int} (hk_k69 : ∀ (l5 : Int32) (V : sv_V), SIx T_cR G V → rg l5 (0) (20001) → c_k69 < l5.toInt → Sg (SIx T_cR G) (k69 l5 V)) {l5 : Int32} {V : sv_V} (hS_V : SIx T_cR G V) (r_l5 : rg l5 (0) (20001)) (hc_k69 : c_k69 ≤ l5.toInt) : Sg (SIx T_cR G) (B_X5_run_69 N k69 l5 V) := by
  unfold B_X5_run_69
  exact
    sf_ite (fun h_1 =>
    sf_sV hS_V)
     (fun h_1 =>
    have f_3 := (rg_hle (Int32.not_lt.mp h_1) r_l5 (rg_c (x := (20000 : Int32)) (n := 20000) rfl))
    sf_ite (fun h_4 =>
    have f_5 := (rg_eq h_4 (rg_c (x := (0 : Int32)) (n := 0) rfl))
    sf_iteb (fun h_8 =>
    sf_iteb (fun h_10 =>
    sf_someb <|
    sf_ite (fun h_12 =>
    False.elim (rg_noeq h_12 (rg_c (x := (1 : Int32)) (n := 1) rfl) (rg_c (x := (0 : Int32)) (n := 0) rfl) (by decide)))
     (fun h_12 =>
    sf_sV hS_V))
     (fun h_10 =>
    sf_wb (hS_V.wc oi_RcR_69_14 (rg_m (rg_c (x := (4 : Int32)) (n := 4) rfl) (by decide) (by decide))) fun V_14 q_15 hS_V_14 =>
    sf_someb <|
    sf_ite (fun h_16 =>
    False.elim (rg_noeq h_16 (rg_c (x := (1 : Int32)) (n := 1) rfl) (rg_c (x := (0 : Int32)) (n := 0) rfl) (by decide)))
     (fun h_16 =>
    sf_sV hS_V_14)))
     (fun h_8 =>
    have f_17 := (rg_hlt (Int32.not_le.mp h_8) (hS_V.rd r_RcR_69_11) (hS_V.rd r_RcR_69_10))
    sf_someb <|
    sf_ite (fun h_18 =>
    sf_w (hS_V.wc oi_RcR_69_15 (rg_m (rg_sub f_17 (hS_V.rd r_RcR_69_9) (by decide) (by decide)) (by decide) (by decide))) fun V_19 q_20 hS_V_19 =>
    sf_iteb (fun h_30 =>
    have f_31 := (rg_hlt h_30 (hS_V_19.rd r_RcR_69_13) (rg_c (x := (20000 : Int32)) (n := 20000) rfl))
    sf_wb (hS_V_19.wc oi_RcR_69_13 (rg_m (rg_add f_31 (rg_c (x := (1 : Int32)) (n := 1) rfl) (by decide) (by decide)) (by decide) (by decide))) fun V_32 q_33 hS_V_32 =>
    sf_assoc <|
    sf_qI (s_F_X2_u1_R hN hR hS_V_32 (rg_m (wr_k q_33 (by decide) (wr_k q_20 (by decide) f_17)) (by decide) (by decide))) fun x_34 r_35 =>
    sf_wb (hS_V_32.wc oi_RcR_69_11 (rg_m (rg_add (wr_k q_33 (by decide) (wr_k q_20 (by decide) f_17)) (rg_c (x := (1 : Int32)) (n := 1) rfl) (by decide) (by decide)) (by decide) (by decide))) fun V_36 q_37 hS_V_36 =>
    sf_pb (in_rg r_35 (by decide) (by decide)) <|
    sf_letb fun x_38 q_39 =>
    have f_40 := rg_eq q_39 (hS_V_36.rdA (k := x_34.toNatClampNeg) ra_RcR_1006)
    sf_iteb (fun h_41 =>
    have f_42 := (rg_eq h_41 (rg_c (x := (-2 : Int32)) (n := -2) rfl))
    sf_letb fun x_43 q_44 =>
    have f_45 := rg_eq q_44 (hS_V_36.rd r_RcR_70_8)
    sf_iteb (fun h_50 =>
    have f_51 := (rg_hle h_50 f_45 (hS_V_36.rd r_RcR_69_5))
    sf_someb <|
    sf_ite (fun h_52 =>
    sf_p (in_rg r_35 (by decide) (by decide)) <|
    sf_let fun x_53 q_54 =>
    sf_ite (fun h_56 =>
    sf_eV (s_F_X5_vectorCodes_R hN hR hS_V_36 r_35) fun V_58 e_59 hS_V_58 =>
    s_B_X5_run_302_R hN hR hk_k69 hS_V_58 (rg_m f_3 (by decide) (by decide)) hc_k69)
     (fun h_56 =>
    sf_ite (fun h_61 =>
    sf_eV (s_F_X5_settingCodes_R hN hR hS_V_36 r_35) fun V_63 e_64 hS_V_63 =>
    s_B_X5_run_302_R hN hR hk_k69 hS_V_63 (rg_m f_3 (by decide) (by decide)) hc_k69)
     (fun h_61 =>
    sf_ite (fun h_66 =>
    sf_eV (s_F_X5_flowCodes_R hN hR hS_V_36 r_35) fun V_68 e_69 hS_V_68 =>
    s_B_X5_run_302_R hN hR hk_k69 hS_V_68 (rg_m f_3 (by decide) (by decide)) hc_k69)
     (fun h_66 =>
    sf_ite (fun h_71 =>
    have f_72 := (rg_eq h_71 (rg_c (x := (4 : Int32)) (n := 4) rfl))
    sf_eV (s_F_X5_stackCodes_R hN hR hS_V_36 r_35 (by have := (r_35).1; have := (r_35).2; have := ((wr_s q_37 (rg_add (wr_k q_33 (by decide) (wr_k q_20 (by decide) f_17)) (rg_c (x := (1 : Int32)) (n := 1) rfl) (by decide) (by decide)))).1; have := ((wr_s q_37 (rg_add (wr_k q_33 (by decide) (wr_k q_20 (by decide) f_17)) (rg_c (x := (1 : Int32)) (n := 1) rfl) (by decide) (by decide)))).2; have := congrArg Int32.toInt (rd_s q_37); have := ((rg_add (wr_k q_33 (by decide) (wr_k q_20 (by decide) f_17)) (rg_c (x := (1 : Int32)) (n := 1) rfl) (by decide) (by decide))).1; have := ((rg_add (wr_k q_33 (by decide) (wr_k q_20 (by decide) f_17)) (rg_c (x := (1 : Int32)) (n := 1) rfl) (by decide) (by decide))).2; have := rg_tia (wr_k q_33 (by decide) (wr_k q_20 (by decide) f_17)) (rg_c (x := (1 : Int32)) (n := 1) rfl) (by decide) (by decide); have := ((wr_k q_33 (by decide) (wr_k q_20 (by decide) f_17))).1; have := ((wr_k q_33 (by decide) (wr_k q_20 (by decide) f_17))).2; have := congrArg Int32.toInt (rd_k (b := 69) (j := 11) q_33 (by decide)); have := ((wr_k q_20 (by decide) f_17)).1; have := ((wr_k q_20 (by decide) f_17)).2; have := congrArg Int32.toInt (rd_k (b := 69) (j := 11) q_20 (by decide)); have := (f_17).1; have := (f_17).2; have := Int32.le_iff_toInt_le.mp (Int32.not_lt.mp h_1); have := (f_3).1; have := (f_3).2; have := congrArg Int32.toInt h_4; have := (f_5).1; have := (f_5).2; have := Int32.lt_iff_toInt_lt.mp (Int32.not_le.mp h_8); have := ((hS_V.rd r_RcR_69_10)).1; have := ((hS_V.rd r_RcR_69_10)).2; have := congrArg Int32.toInt h_18; have := Int32.lt_iff_toInt_lt.mp h_30; have := (f_31).1; have := (f_31).2; have := congrArg Int32.toInt (rd_k (b := 69) (j := 13) q_20 (by decide)); have := ((hS_V.rd r_RcR_69_13)).1; have := ((hS_V.rd r_RcR_69_13)).2; have := congrArg Int32.toInt h_41; have := (f_42).1; have := (f_42).2; have := congrArg Int32.toInt q_39; have := ((hS_V_36.rdA (k := x_34.toNatClampNeg) ra_RcR_1006)).1; have := ((hS_V_36.rdA (k := x_34.toNatClampNeg) ra_RcR_1006)).2; have := congrArg Int32.toInt (rd_c (b := 1006) (j := x_34.toNatClampNeg) q_37 (by decide)); have := ((hS_V_32.rdA (k := x_34.toNatClampNeg) ra_RcR_1006)).1; have := ((hS_V_32.rdA (k := x_34.toNatClampNeg) ra_RcR_1006)).2; have := congrArg Int32.toInt (rd_c (b := 1006) (j := x_34.toNatClampNeg) q_33 (by decide)); have := ((hS_V_19.rdA (k := x_34.toNatClampNeg) ra_RcR_1006)).1; have := ((hS_V_19.rdA (k := x_34.toNatClampNeg) ra_RcR_1006)).2; have := congrArg Int32.toInt (rd_c (b := 1006) (j := x_34.toNatClampNeg) q_20 (by decide)); have := ((hS_V.rdA (k := x_34.toNatClampNeg) ra_RcR_1006)).1; have := ((hS_V.rdA (k := x_34.toNatClampNeg) ra_RcR_1006)).2; have := Int32.le_iff_toInt_le.mp h_50; have := (f_51).1; have := (f_51).2; have := congrArg Int32.toInt q_44; have := ((hS_V_36.rd r_RcR_70_8)).1; have := ((hS_V_36.rd r_RcR_70_8)).2; have := congrArg Int32.toInt (rd_k (b := 70) (j := 8) q_37 (by decide)); have := ((hS_V_32.rd r_RcR_70_8)).1; have := ((hS_V_32.rd r_RcR_70_8)).2; have := congrArg Int32.toInt (rd_k (b := 70) (j := 8) q_33 (by decide)); have := ((hS_V_19.rd r_RcR_70_8)).1; have := ((hS_V_19.rd r_RcR_70_8)).2; have := congrArg Int32.toInt (rd_k (b := 70) (j := 8) q_20 (by decide)); have := ((hS_V.rd r_RcR_70_8)).1; have := ((hS_V.rd r_RcR_70_8)).2; have := ((hS_V_36.rd r_RcR_69_5)).1; have := ((hS_V_36.rd r_RcR_69_5)).2; have := congrArg Int32.toInt (rd_k (b := 69) (j := 5) q_37 (by decide)); have := ((hS_V_32.rd r_RcR_69_5)).1; have := ((hS_V_32.rd r_RcR_69_5)).2; have := congrArg Int32.toInt (rd_k (b := 69) (j := 5) q_33 (by decide)); have := ((hS_V_19.rd r_RcR_69_5)).1; have := ((hS_V_19.rd r_RcR_69_5)).2; have := congrArg Int32.toInt (rd_k (b := 69) (j := 5) q_20 (by decide)); have := ((hS_V.rd r_RcR_69_5)).1; have := ((hS_V.rd r_RcR_69_5)).2; have := congrArg Int32.toInt h_52; have := ((wr_k q_37 (by decide) (wr_k q_33 (by decide) (wr_k q_20 (by decide) f_5)))).1; have := ((wr_k q_37 (by decide) (wr_k q_33 (by decide) (wr_k q_20 (by decide) f_5)))).2; have := congrArg Int32.toInt (rd_k (b := 69) (j := 14) q_37 (by decide)); have := ((wr_k q_33 (by decide) (wr_k q_20 (by decide) f_5))).1; have := ((wr_k q_33 (by decide) (wr_k q_20 (by decide) f_5))).2; have := congrArg Int32.toInt (rd_k (b := 69) (j := 14) q_33 (by decide)); have := ((wr_k q_20 (by decide) f_5)).1; have := ((wr_k q_20 (by decide) f_5)).2; have := congrArg Int32.toInt (rd_k (b := 69) (j := 14) q_20 (by decide)); have := ne_ti h_56; have := (f_72).1; have := (f_72).2; have := congrArg Int32.toInt q_54; have := ((hS_V_36.rdA (k := x_34.toNatClampNeg) ra_RcR_1007)).1; have := ((hS_V_36.rdA (k := x_34.toNatClampNeg) ra_RcR_1007)).2; have := congrArg Int32.toInt (rd_c (b := 1007) (j := x_34.toNatClampNeg) q_37 (by decide)); have := ((hS_V_32.rdA (k := x_34.toNatClampNeg) ra_RcR_1007)).1; have := ((hS_V_32.rdA (k := x_34.toNatClampNeg) ra_RcR_1007)).2; have := congrArg Int32.toInt (rd_c (b := 1007) (j := x_34.toNatClampNeg) q_33 (by decide)); have := ((hS_V_19.rdA (k := x_34.toNatClampNeg) ra_RcR_1007)).1; have := ((hS_V_19.rdA (k := x_34.toNatClampNeg) ra_RcR_1007)).2; have := congrArg Int32.toInt (rd_c (b := 1007) (j := x_34.toNatClampNeg) q_20 (by decide)); have := ((hS_V.rdA (k := x_34.toNatClampNeg) ra_RcR_1007)).1; have := ((hS_V.rdA (k := x_34.toNatClampNeg) ra_RcR_1007)).2; have := ne_ti h_61; have := ne_ti h_66; have := congrArg Int32.toInt h_71; have : (-2 : Int32).toInt = -2 := rfl; have : (0 : Int32).toInt = 0 := rfl; have : (1 : Int32).toInt = 1 := rfl; have : (2 : Int32).toInt = 2 := rfl; have : (3 : Int32).toInt = 3 := rfl; have : (4 : Int32).toInt = 4 := rfl; have : (20000 : Int32).toInt = 20000 := rfl; omega)) fun V_73 e_74 hS_V_73 =>
    s_B_X5_run_302_R hN hR hk_k69 hS_V_73 (rg_m f_3 (by decide) (by decide)) hc_k69)
     (fun h_71 =>
    sf_ite (fun h_76 =>
    sf_eV (s_F_X5_memoryCodes_R hN hR hS_V_36 r_35) fun V_78 e_79 hS_V_78 =>
    s_B_X5_run_302_R hN hR hk_k69 hS_V_78 (rg_m f_3 (by decide) (by decide)) hc_k69)
     (fun h_76 =>
    sf_ite (fun h_81 =>
    sf_eV (s_F_X5_comparingCodes_R hN hR hS_V_36 r_35) fun V_83 e_84 hS_V_83 =>
    s_B_X5_run_302_R hN hR hk_k69 hS_V_83 (rg_m f_3 (by decide) (by decide)) hc_k69)
     (fun h_81 =>
    sf_ite (fun h_86 =>
    sf_eV (s_F_X5_reckoningCodes_R hN hR hS_V_36 r_35) fun V_88 e_89 hS_V_88 =>
    s_B_X5_run_302_R hN hR hk_k69 hS_V_88 (rg_m f_3 (by decide) (by decide)) hc_k69)
     (fun h_86 =>
    sf_ite (fun h_91 =>
    sf_eV (s_F_X5_singlePointCodes_R hN hR hS_V_36 r_35) fun V_93 e_94 hS_V_93 =>
    s_B_X5_run_302_R hN hR hk_k69 hS_V_93 (rg_m f_3 (by decide) (by decide)) hc_k69)
     (fun h_91 =>
    sf_ite (fun h_96 =>
    sf_eV (s_F_X5_manyPointCodes_R hN hR hS_V_36 r_35) fun V_98 e_99 hS_V_98 =>
    s_B_X5_run_302_R hN hR hk_k69 hS_V_98 (rg_m f_3 (by decide) (by decide)) hc_k69)
     (fun h_96 =>
    sf_ite (fun h_101 =>
    sf_eV (s_F_X5_measuredCodes_R hN hR hS_V_36 r_35) fun V_103 e_104 hS_V_103 =>
    s_B_X5_run_302_R hN hR hk_k69 hS_V_103 (rg_m f_3 (by decide) (by decide)) hc_k69)
     (fun h_101 =>
    sf_ite (fun h_106 =>
    sf_eV (s_F_X5_deltaCodes_R hN hR hS_V_36 r_35) fun V_108 e_109 hS_V_108 =>
    s_B_X5_run_302_R hN hR hk_k69 hS_V_108 (rg_m f_3 (by decide) (by decide)) hc_k69)
     (fun h_106 =>
    sf_ite (fun h_111 =>
    sf_eV (s_F_X5_shiftByReference_R hN hR hS_V_36 r_35) fun V_113 e_114 hS_V_113 =>
    s_B_X5_run_302_R hN hR hk_k69 hS_V_113 (rg_m f_3 (by decide) (by decide)) hc_k69)
     (fun h_111 =>
    sf_eV (s_F_X5_callOwnCode_R hN hR hS_V_36 r_35) fun V_117 e_118 hS_V_117 =>
    s_B_X5_run_302_R hN hR hk_k69 hS_V_117 (rg_m f_3 (by decide) (by decide)) hc_k69)))))))))))))
     (fun h_52 =>
    False.elim (rg_none h_52 (wr_k q_37 (by decide) (wr_k q_33 (by decide) (wr_k q_20 (by decide) f_5))) (rg_c (x := (0 : Int32)) (n := 0) rfl))))
     (fun h_50 =>
    sf_wb (hS_V_36.wc oi_RcR_69_14 (rg_m (rg_c (x := (1 : Int32)) (n := 1) rfl) (by decide) (by decide))) fun V_121 q_122 hS_V_121 =>
    sf_someb <|
    sf_ite (fun h_123 =>
    False.elim (rg_noeq h_123 (wr_s q_122 (rg_c (x := (1 : Int32)) (n := 1) rfl)) (rg_c (x := (0 : Int32)) (n := 0) rfl) (by decide)))
     (fun h_123 =>
    sf_sV hS_V_121)))
     (fun h_41 =>
    sf_iteb (fun h_124 =>
    have f_125 := (rg_eq h_124 (rg_c (x := (-3 : Int32)) (n := -3) rfl))
    sf_letb fun x_126 q_127 =>
    have f_128 := rg_eq q_127 (rg_add (hS_V_36.rd r_RcR_70_8) (rg_c (x := (1 : Int32)) (n := 1) rfl) (by decide) (by decide))
    sf_iteb (fun h_133 =>
    have f_134 := (rg_hle h_133 f_128 (hS_V_36.rd r_RcR_69_5))
    have f_135 := (rg_lle h_133 f_128 (hS_V_36.rd r_RcR_69_5))
    sf_someb <|
    sf_ite (fun h_136 =>
    sf_p (in_rg r_35 (by decide) (by decide)) <|
    sf_let fun x_137 q_138 =>
    sf_ite (fun h_140 =>
    sf_eV (s_F_X5_vectorCodes_R hN hR hS_V_36 r_35) fun V_142 e_143 hS_V_142 =>
    s_B_X5_run_302_R hN hR hk_k69 hS_V_142 (rg_m f_3 (by decide) (by decide)) hc_k69)
     (fun h_140 =>
    sf_ite (fun h_145 =>
    sf_eV (s_F_X5_settingCodes_R hN hR hS_V_36 r_35) fun V_147 e_148 hS_V_147 =>
    s_B_X5_run_302_R hN hR hk_k69 hS_V_147 (rg_m f_3 (by decide) (by decide)) hc_k69)
     (fun h_145 =>
    sf_ite (fun h_150 =>
    sf_eV (s_F_X5_flowCodes_R hN hR hS_V_36 r_35) fun V_152 e_153 hS_V_152 =>
    s_B_X5_run_302_R hN hR hk_k69 hS_V_152 (rg_m f_3 (by decide) (by decide)) hc_k69)
     (fun h_150 =>
    sf_ite (fun h_155 =>
    have f_156 := (rg_eq h_155 (rg_c (x := (4 : Int32)) (n := 4) rfl))
    sf_eV (s_F_X5_stackCodes_R hN hR hS_V_36 r_35 (by have := (r_35).1; have := (r_35).2; have := ((wr_s q_37 (rg_add (wr_k q_33 (by decide) (wr_k q_20 (by decide) f_17)) (rg_c (x := (1 : Int32)) (n := 1) rfl) (by decide) (by decide)))).1; have := ((wr_s q_37 (rg_add (wr_k q_33 (by decide) (wr_k q_20 (by decide) f_17)) (rg_c (x := (1 : Int32)) (n := 1) rfl) (by decide) (by decide)))).2; have := congrArg Int32.toInt (rd_s q_37); have := ((rg_add (wr_k q_33 (by decide) (wr_k q_20 (by decide) f_17)) (rg_c (x := (1 : Int32)) (n := 1) rfl) (by decide) (by decide))).1; have := ((rg_add (wr_k q_33 (by decide) (wr_k q_20 (by decide) f_17)) (rg_c (x := (1 : Int32)) (n := 1) rfl) (by decide) (by decide))).2; have := rg_tia (wr_k q_33 (by decide) (wr_k q_20 (by decide) f_17)) (rg_c (x := (1 : Int32)) (n := 1) rfl) (by decide) (by decide); have := ((wr_k q_33 (by decide) (wr_k q_20 (by decide) f_17))).1; have := ((wr_k q_33 (by decide) (wr_k q_20 (by decide) f_17))).2; have := congrArg Int32.toInt (rd_k (b := 69) (j := 11) q_33 (by decide)); have := ((wr_k q_20 (by decide) f_17)).1; have := ((wr_k q_20 (by decide) f_17)).2; have := congrArg Int32.toInt (rd_k (b := 69) (j := 11) q_20 (by decide)); have := (f_17).1; have := (f_17).2; have := Int32.le_iff_toInt_le.mp (Int32.not_lt.mp h_1); have := (f_3).1; have := (f_3).2; have := congrArg Int32.toInt h_4; have := (f_5).1; have := (f_5).2; have := Int32.lt_iff_toInt_lt.mp (Int32.not_le.mp h_8); have := ((hS_V.rd r_RcR_69_10)).1; have := ((hS_V.rd r_RcR_69_10)).2; have := congrArg Int32.toInt h_18; have := Int32.lt_iff_toInt_lt.mp h_30; have := (f_31).1; have := (f_31).2; have := congrArg Int32.toInt (rd_k (b := 69) (j := 13) q_20 (by decide)); have := ((hS_V.rd r_RcR_69_13)).1; have := ((hS_V.rd r_RcR_69_13)).2; have := ne_ti h_41; have := (f_125).1; have := (f_125).2; have := congrArg Int32.toInt q_39; have := ((hS_V_36.rdA (k := x_34.toNatClampNeg) ra_RcR_1006)).1; have := ((hS_V_36.rdA (k := x_34.toNatClampNeg) ra_RcR_1006)).2; have := congrArg Int32.toInt (rd_c (b := 1006) (j := x_34.toNatClampNeg) q_37 (by decide)); have := ((hS_V_32.rdA (k := x_34.toNatClampNeg) ra_RcR_1006)).1; have := ((hS_V_32.rdA (k := x_34.toNatClampNeg) ra_RcR_1006)).2; have := congrArg Int32.toInt (rd_c (b := 1006) (j := x_34.toNatClampNeg) q_33 (by decide)); have := ((hS_V_19.rdA (k := x_34.toNatClampNeg) ra_RcR_1006)).1; have := ((hS_V_19.rdA (k := x_34.toNatClampNeg) ra_RcR_1006)).2; have := congrArg Int32.toInt (rd_c (b := 1006) (j := x_34.toNatClampNeg) q_20 (by decide)); have := ((hS_V.rdA (k := x_34.toNatClampNeg) ra_RcR_1006)).1; have := ((hS_V.rdA (k := x_34.toNatClampNeg) ra_RcR_1006)).2; have := congrArg Int32.toInt h_124; have := Int32.le_iff_toInt_le.mp h_133; have := (f_134).1; have := (f_134).2; have := congrArg Int32.toInt q_127; have := ((rg_add (hS_V_36.rd r_RcR_70_8) (rg_c (x := (1 : Int32)) (n := 1) rfl) (by decide) (by decide))).1; have := ((rg_add (hS_V_36.rd r_RcR_70_8) (rg_c (x := (1 : Int32)) (n := 1) rfl) (by decide) (by decide))).2; have := rg_tia (hS_V_36.rd r_RcR_70_8) (rg_c (x := (1 : Int32)) (n := 1) rfl) (by decide) (by decide); have := ((hS_V_36.rd r_RcR_70_8)).1; have := ((hS_V_36.rd r_RcR_70_8)).2; have := congrArg Int32.toInt (rd_k (b := 70) (j := 8) q_37 (by decide)); have := ((hS_V_32.rd r_RcR_70_8)).1; have := ((hS_V_32.rd r_RcR_70_8)).2; have := congrArg Int32.toInt (rd_k (b := 70) (j := 8) q_33 (by decide)); have := ((hS_V_19.rd r_RcR_70_8)).1; have := ((hS_V_19.rd r_RcR_70_8)).2; have := congrArg Int32.toInt (rd_k (b := 70) (j := 8) q_20 (by decide)); have := ((hS_V.rd r_RcR_70_8)).1; have := ((hS_V.rd r_RcR_70_8)).2; have := (f_135).1; have := (f_135).2; have := congrArg Int32.toInt (rd_k (b := 69) (j := 5) q_37 (by decide)); have := ((hS_V_32.rd r_RcR_69_5)).1; have := ((hS_V_32.rd r_RcR_69_5)).2; have := congrArg Int32.toInt (rd_k (b := 69) (j := 5) q_33 (by decide)); have := ((hS_V_19.rd r_RcR_69_5)).1; have := ((hS_V_19.rd r_RcR_69_5)).2; have := congrArg Int32.toInt (rd_k (b := 69) (j := 5) q_20 (by decide)); have := ((hS_V.rd r_RcR_69_5)).1; have := ((hS_V.rd r_RcR_69_5)).2; have := congrArg Int32.toInt h_136; have := ((wr_k q_37 (by decide) (wr_k q_33 (by decide) (wr_k q_20 (by decide) f_5)))).1; have := ((wr_k q_37 (by decide) (wr_k q_33 (by decide) (wr_k q_20 (by decide) f_5)))).2; have := congrArg Int32.toInt (rd_k (b := 69) (j := 14) q_37 (by decide)); have := ((wr_k q_33 (by decide) (wr_k q_20 (by decide) f_5))).1; have := ((wr_k q_33 (by decide) (wr_k q_20 (by decide) f_5))).2; have := congrArg Int32.toInt (rd_k (b := 69) (j := 14) q_33 (by decide)); have := ((wr_k q_20 (by decide) f_5)).1; have := ((wr_k q_20 (by decide) f_5)).2; have := congrArg Int32.toInt (rd_k (b := 69) (j := 14) q_20 (by decide)); have := ne_ti h_140; have := (f_156).1; have := (f_156).2; have := congrArg Int32.toInt q_138; have := ((hS_V_36.rdA (k := x_34.toNatClampNeg) ra_RcR_1007)).1; have := ((hS_V_36.rdA (k := x_34.toNatClampNeg) ra_RcR_1007)).2; have := congrArg Int32.toInt (rd_c (b := 1007) (j := x_34.toNatClampNeg) q_37 (by decide)); have := ((hS_V_32.rdA (k := x_34.toNatClampNeg) ra_RcR_1007)).1; have := ((hS_V_32.rdA (k := x_34.toNatClampNeg) ra_RcR_1007)).2; have := congrArg Int32.toInt (rd_c (b := 1007) (j := x_34.toNatClampNeg) q_33 (by decide)); have := ((hS_V_19.rdA (k := x_34.toNatClampNeg) ra_RcR_1007)).1; have := ((hS_V_19.rdA (k := x_34.toNatClampNeg) ra_RcR_1007)).2; have := congrArg Int32.toInt (rd_c (b := 1007) (j := x_34.toNatClampNeg) q_20 (by decide)); have := ((hS_V.rdA (k := x_34.toNatClampNeg) ra_RcR_1007)).1; have := ((hS_V.rdA (k := x_34.toNatClampNeg) ra_RcR_1007)).2; have := ne_ti h_145; have := ne_ti h_150; have := congrArg Int32.toInt h_155; have : (-3 : Int32).toInt = -3 := rfl; have : (-2 : Int32).toInt = -2 := rfl; have : (0 : Int32).toInt = 0 := rfl; have : (1 : Int32).toInt = 1 := rfl; have : (2 : Int32).toInt = 2 := rfl; have : (3 : Int32).toInt = 3 := rfl; have : (4 : Int32).toInt = 4 := rfl; have : (20000 : Int32).toInt = 20000 := rfl; omega)) fun V_157 e_158 hS_V_157 =>
    s_B_X5_run_302_R hN hR hk_k69 hS_V_157 (rg_m f_3 (by decide) (by decide)) hc_k69)
     (fun h_155 =>
    sf_ite (fun h_160 =>
    sf_eV (s_F_X5_memoryCodes_R hN hR hS_V_36 r_35) fun V_162 e_163 hS_V_162 =>
    s_B_X5_run_302_R hN hR hk_k69 hS_V_162 (rg_m f_3 (by decide) (by decide)) hc_k69)
     (fun h_160 =>
    sf_ite (fun h_165 =>
    sf_eV (s_F_X5_comparingCodes_R hN hR hS_V_36 r_35) fun V_167 e_168 hS_V_167 =>
    s_B_X5_run_302_R hN hR hk_k69 hS_V_167 (rg_m f_3 (by decide) (by decide)) hc_k69)
     (fun h_165 =>
    sf_ite (fun h_170 =>
    sf_eV (s_F_X5_reckoningCodes_R hN hR hS_V_36 r_35) fun V_172 e_173 hS_V_172 =>
    s_B_X5_run_302_R hN hR hk_k69 hS_V_172 (rg_m f_3 (by decide) (by decide)) hc_k69)
     (fun h_170 =>
    sf_ite (fun h_175 =>
    sf_eV (s_F_X5_singlePointCodes_R hN hR hS_V_36 r_35) fun V_177 e_178 hS_V_177 =>
    s_B_X5_run_302_R hN hR hk_k69 hS_V_177 (rg_m f_3 (by decide) (by decide)) hc_k69)
     (fun h_175 =>
    sf_ite (fun h_180 =>
    sf_eV (s_F_X5_manyPointCodes_R hN hR hS_V_36 r_35) fun V_182 e_183 hS_V_182 =>
    s_B_X5_run_302_R hN hR hk_k69 hS_V_182 (rg_m f_3 (by decide) (by decide)) hc_k69)
     (fun h_180 =>
    sf_ite (fun h_185 =>
    sf_eV (s_F_X5_measuredCodes_R hN hR hS_V_36 r_35) fun V_187 e_188 hS_V_187 =>
    s_B_X5_run_302_R hN hR hk_k69 hS_V_187 (rg_m f_3 (by decide) (by decide)) hc_k69)
     (fun h_185 =>
    sf_ite (fun h_190 =>
    sf_eV (s_F_X5_deltaCodes_R hN hR hS_V_36 r_35) fun V_192 e_193 hS_V_192 =>
    s_B_X5_run_302_R hN hR hk_k69 hS_V_192 (rg_m f_3 (by decide) (by decide)) hc_k69)
     (fun h_190 =>
    sf_ite (fun h_195 =>
    sf_eV (s_F_X5_shiftByReference_R hN hR hS_V_36 r_35) fun V_197 e_198 hS_V_197 =>
    s_B_X5_run_302_R hN hR hk_k69 hS_V_197 (rg_m f_3 (by decide) (by decide)) hc_k69)
     (fun h_195 =>
    sf_eV (s_F_X5_callOwnCode_R hN hR hS_V_36 r_35) fun V_201 e_202 hS_V_201 =>
    s_B_X5_run_302_R hN hR hk_k69 hS_V_201 (rg_m f_3 (by decide) (by decide)) hc_k69)))))))))))))
     (fun h_136 =>
    False.elim (rg_none h_136 (wr_k q_37 (by decide) (wr_k q_33 (by decide) (wr_k q_20 (by decide) f_5))) (rg_c (x := (0 : Int32)) (n := 0) rfl))))
     (fun h_133 =>
    sf_wb (hS_V_36.wc oi_RcR_69_14 (rg_m (rg_c (x := (1 : Int32)) (n := 1) rfl) (by decide) (by decide))) fun V_204 q_205 hS_V_204 =>
    sf_someb <|
    sf_ite (fun h_206 =>
    False.elim (rg_noeq h_206 (wr_s q_205 (rg_c (x := (1 : Int32)) (n := 1) rfl)) (rg_c (x := (0 : Int32)) (n := 0) rfl) (by decide)))
     (fun h_206 =>
    sf_sV hS_V_204)))
     (fun h_124 =>
    have f_207 := (rg_nel h_124 f_40 (rg_c (x := (-3 : Int32)) (n := -3) rfl))
    sf_iteb (fun h_212 =>
    sf_someb <|
    sf_ite (fun h_213 =>
    sf_p (in_rg r_35 (by decide) (by decide)) <|
    sf_let fun x_214 q_215 =>
    sf_ite (fun h_217 =>
    sf_eV (s_F_X5_vectorCodes_R hN hR hS_V_36 r_35) fun V_219 e_220 hS_V_219 =>
    s_B_X5_run_302_R hN hR hk_k69 hS_V_219 (rg_m f_3 (by decide) (by decide)) hc_k69)
     (fun h_217 =>
    sf_ite (fun h_222 =>
    sf_eV (s_F_X5_settingCodes_R hN hR hS_V_36 r_35) fun V_224 e_225 hS_V_224 =>
    s_B_X5_run_302_R hN hR hk_k69 hS_V_224 (rg_m f_3 (by decide) (by decide)) hc_k69)
     (fun h_222 =>
    sf_ite (fun h_227 =>
    sf_eV (s_F_X5_flowCodes_R hN hR hS_V_36 r_35) fun V_229 e_230 hS_V_229 =>
    s_B_X5_run_302_R hN hR hk_k69 hS_V_229 (rg_m f_3 (by decide) (by decide)) hc_k69)
     (fun h_227 =>
    sf_ite (fun h_232 =>
    have f_233 := (rg_eq h_232 (rg_c (x := (4 : Int32)) (n := 4) rfl))
    sf_eV (s_F_X5_stackCodes_R hN hR hS_V_36 r_35 (by have := (r_35).1; have := (r_35).2; have := ((wr_s q_37 (rg_add (wr_k q_33 (by decide) (wr_k q_20 (by decide) f_17)) (rg_c (x := (1 : Int32)) (n := 1) rfl) (by decide) (by decide)))).1; have := ((wr_s q_37 (rg_add (wr_k q_33 (by decide) (wr_k q_20 (by decide) f_17)) (rg_c (x := (1 : Int32)) (n := 1) rfl) (by decide) (by decide)))).2; have := congrArg Int32.toInt (rd_s q_37); have := ((rg_add (wr_k q_33 (by decide) (wr_k q_20 (by decide) f_17)) (rg_c (x := (1 : Int32)) (n := 1) rfl) (by decide) (by decide))).1; have := ((rg_add (wr_k q_33 (by decide) (wr_k q_20 (by decide) f_17)) (rg_c (x := (1 : Int32)) (n := 1) rfl) (by decide) (by decide))).2; have := rg_tia (wr_k q_33 (by decide) (wr_k q_20 (by decide) f_17)) (rg_c (x := (1 : Int32)) (n := 1) rfl) (by decide) (by decide); have := ((wr_k q_33 (by decide) (wr_k q_20 (by decide) f_17))).1; have := ((wr_k q_33 (by decide) (wr_k q_20 (by decide) f_17))).2; have := congrArg Int32.toInt (rd_k (b := 69) (j := 11) q_33 (by decide)); have := ((wr_k q_20 (by decide) f_17)).1; have := ((wr_k q_20 (by decide) f_17)).2; have := congrArg Int32.toInt (rd_k (b := 69) (j := 11) q_20 (by decide)); have := (f_17).1; have := (f_17).2; have := Int32.le_iff_toInt_le.mp (Int32.not_lt.mp h_1); have := (f_3).1; have := (f_3).2; have := congrArg Int32.toInt h_4; have := (f_5).1; have := (f_5).2; have := Int32.lt_iff_toInt_lt.mp (Int32.not_le.mp h_8); have := ((hS_V.rd r_RcR_69_10)).1; have := ((hS_V.rd r_RcR_69_10)).2; have := congrArg Int32.toInt h_18; have := Int32.lt_iff_toInt_lt.mp h_30; have := (f_31).1; have := (f_31).2; have := congrArg Int32.toInt (rd_k (b := 69) (j := 13) q_20 (by decide)); have := ((hS_V.rd r_RcR_69_13)).1; have := ((hS_V.rd r_RcR_69_13)).2; have := ne_ti h_41; have := (f_207).1; have := (f_207).2; have := congrArg Int32.toInt q_39; have := ((hS_V_36.rdA (k := x_34.toNatClampNeg) ra_RcR_1006)).1; have := ((hS_V_36.rdA (k := x_34.toNatClampNeg) ra_RcR_1006)).2; have := congrArg Int32.toInt (rd_c (b := 1006) (j := x_34.toNatClampNeg) q_37 (by decide)); have := ((hS_V_32.rdA (k := x_34.toNatClampNeg) ra_RcR_1006)).1; have := ((hS_V_32.rdA (k := x_34.toNatClampNeg) ra_RcR_1006)).2; have := congrArg Int32.toInt (rd_c (b := 1006) (j := x_34.toNatClampNeg) q_33 (by decide)); have := ((hS_V_19.rdA (k := x_34.toNatClampNeg) ra_RcR_1006)).1; have := ((hS_V_19.rdA (k := x_34.toNatClampNeg) ra_RcR_1006)).2; have := congrArg Int32.toInt (rd_c (b := 1006) (j := x_34.toNatClampNeg) q_20 (by decide)); have := ((hS_V.rdA (k := x_34.toNatClampNeg) ra_RcR_1006)).1; have := ((hS_V.rdA (k := x_34.toNatClampNeg) ra_RcR_1006)).2; have := ne_ti h_124; have := Int32.le_iff_toInt_le.mp h_212; have := ((hS_V_36.rd r_RcR_69_5)).1; have := ((hS_V_36.rd r_RcR_69_5)).2; have := congrArg Int32.toInt (rd_k (b := 69) (j := 5) q_37 (by decide)); have := ((hS_V_32.rd r_RcR_69_5)).1; have := ((hS_V_32.rd r_RcR_69_5)).2; have := congrArg Int32.toInt (rd_k (b := 69) (j := 5) q_33 (by decide)); have := ((hS_V_19.rd r_RcR_69_5)).1; have := ((hS_V_19.rd r_RcR_69_5)).2; have := congrArg Int32.toInt (rd_k (b := 69) (j := 5) q_20 (by decide)); have := ((hS_V.rd r_RcR_69_5)).1; have := ((hS_V.rd r_RcR_69_5)).2; have := congrArg Int32.toInt h_213; have := ((wr_k q_37 (by decide) (wr_k q_33 (by decide) (wr_k q_20 (by decide) f_5)))).1; have := ((wr_k q_37 (by decide) (wr_k q_33 (by decide) (wr_k q_20 (by decide) f_5)))).2; have := congrArg Int32.toInt (rd_k (b := 69) (j := 14) q_37 (by decide)); have := ((wr_k q_33 (by decide) (wr_k q_20 (by decide) f_5))).1; have := ((wr_k q_33 (by decide) (wr_k q_20 (by decide) f_5))).2; have := congrArg Int32.toInt (rd_k (b := 69) (j := 14) q_33 (by decide)); have := ((wr_k q_20 (by decide) f_5)).1; have := ((wr_k q_20 (by decide) f_5)).2; have := congrArg Int32.toInt (rd_k (b := 69) (j := 14) q_20 (by decide)); have := ne_ti h_217; have := (f_233).1; have := (f_233).2; have := congrArg Int32.toInt q_215; have := ((hS_V_36.rdA (k := x_34.toNatClampNeg) ra_RcR_1007)).1; have := ((hS_V_36.rdA (k := x_34.toNatClampNeg) ra_RcR_1007)).2; have := congrArg Int32.toInt (rd_c (b := 1007) (j := x_34.toNatClampNeg) q_37 (by decide)); have := ((hS_V_32.rdA (k := x_34.toNatClampNeg) ra_RcR_1007)).1; have := ((hS_V_32.rdA (k := x_34.toNatClampNeg) ra_RcR_1007)).2; have := congrArg Int32.toInt (rd_c (b := 1007) (j := x_34.toNatClampNeg) q_33 (by decide)); have := ((hS_V_19.rdA (k := x_34.toNatClampNeg) ra_RcR_1007)).1; have := ((hS_V_19.rdA (k := x_34.toNatClampNeg) ra_RcR_1007)).2; have := congrArg Int32.toInt (rd_c (b := 1007) (j := x_34.toNatClampNeg) q_20 (by decide)); have := ((hS_V.rdA (k := x_34.toNatClampNeg) ra_RcR_1007)).1; have := ((hS_V.rdA (k := x_34.toNatClampNeg) ra_RcR_1007)).2; have := ne_ti h_222; have := ne_ti h_227; have := congrArg Int32.toInt h_232; have : (-3 : Int32).toInt = -3 := rfl; have : (-2 : Int32).toInt = -2 := rfl; have : (0 : Int32).toInt = 0 := rfl; have : (1 : Int32).toInt = 1 := rfl; have : (2 : Int32).toInt = 2 := rfl; have : (3 : Int32).toInt = 3 := rfl; have : (4 : Int32).toInt = 4 := rfl; have : (20000 : Int32).toInt = 20000 := rfl; omega)) fun V_234 e_235 hS_V_234 =>
    s_B_X5_run_302_R hN hR hk_k69 hS_V_234 (rg_m f_3 (by decide) (by decide)) hc_k69)
     (fun h_232 =>
    sf_ite (fun h_237 =>
    sf_eV (s_F_X5_memoryCodes_R hN hR hS_V_36 r_35) fun V_239 e_240 hS_V_239 =>
    s_B_X5_run_302_R hN hR hk_k69 hS_V_239 (rg_m f_3 (by decide) (by decide)) hc_k69)
     (fun h_237 =>
    sf_ite (fun h_242 =>
    sf_eV (s_F_X5_comparingCodes_R hN hR hS_V_36 r_35) fun V_244 e_245 hS_V_244 =>
    s_B_X5_run_302_R hN hR hk_k69 hS_V_244 (rg_m f_3 (by decide) (by decide)) hc_k69)
     (fun h_242 =>
    sf_ite (fun h_247 =>
    sf_eV (s_F_X5_reckoningCodes_R hN hR hS_V_36 r_35) fun V_249 e_250 hS_V_249 =>
    s_B_X5_run_302_R hN hR hk_k69 hS_V_249 (rg_m f_3 (by decide) (by decide)) hc_k69)
     (fun h_247 =>
    sf_ite (fun h_252 =>
    sf_eV (s_F_X5_singlePointCodes_R hN hR hS_V_36 r_35) fun V_254 e_255 hS_V_254 =>
    s_B_X5_run_302_R hN hR hk_k69 hS_V_254 (rg_m f_3 (by decide) (by decide)) hc_k69)
     (fun h_252 =>
    sf_ite (fun h_257 =>
    sf_eV (s_F_X5_manyPointCodes_R hN hR hS_V_36 r_35) fun V_259 e_260 hS_V_259 =>
    s_B_X5_run_302_R hN hR hk_k69 hS_V_259 (rg_m f_3 (by decide) (by decide)) hc_k69)
     (fun h_257 =>
    sf_ite (fun h_262 =>
    sf_eV (s_F_X5_measuredCodes_R hN hR hS_V_36 r_35) fun V_264 e_265 hS_V_264 =>
    s_B_X5_run_302_R hN hR hk_k69 hS_V_264 (rg_m f_3 (by decide) (by decide)) hc_k69)
     (fun h_262 =>
    sf_ite (fun h_267 =>
    sf_eV (s_F_X5_deltaCodes_R hN hR hS_V_36 r_35) fun V_269 e_270 hS_V_269 =>
    s_B_X5_run_302_R hN hR hk_k69 hS_V_269 (rg_m f_3 (by decide) (by decide)) hc_k69)
     (fun h_267 =>
    sf_ite (fun h_272 =>
    sf_eV (s_F_X5_shiftByReference_R hN hR hS_V_36 r_35) fun V_274 e_275 hS_V_274 =>
    s_B_X5_run_302_R hN hR hk_k69 hS_V_274 (rg_m f_3 (by decide) (by decide)) hc_k69)
     (fun h_272 =>
    sf_eV (s_F_X5_callOwnCode_R hN hR hS_V_36 r_35) fun V_278 e_279 hS_V_278 =>
    s_B_X5_run_302_R hN hR hk_k69 hS_V_278 (rg_m f_3 (by decide) (by decide)) hc_k69)))))))))))))
     (fun h_213 =>
    False.elim (rg_none h_213 (wr_k q_37 (by decide) (wr_k q_33 (by decide) (wr_k q_20 (by decide) f_5))) (rg_c (x := (0 : Int32)) (n := 0) rfl))))
     (fun h_212 =>
    sf_wb (hS_V_36.wc oi_RcR_69_14 (rg_m (rg_c (x := (1 : Int32)) (n := 1) rfl) (by decide) (by decide))) fun V_283 q_284 hS_V_283 =>
    sf_someb <|
    sf_ite (fun h_285 =>
    False.elim (rg_noeq h_285 (wr_s q_284 (rg_c (x := (1 : Int32)) (n := 1) rfl)) (rg_c (x := (0 : Int32)) (n := 0) rfl) (by decide)))
     (fun h_285 =>
    sf_sV hS_V_283)))))
     (fun h_30 =>
    sf_wb (hS_V_19.wc oi_RcR_69_14 (rg_m (rg_c (x := (10 : Int32)) (n := 10) rfl) (by decide) (by decide))) fun V_287 q_288 hS_V_287 =>
    sf_someb <|
    sf_ite (fun h_289 =>
    False.elim (rg_noeq h_289 (wr_s q_288 (rg_c (x := (10 : Int32)) (n := 10) rfl)) (rg_c (x := (0 : Int32)) (n := 0) rfl) (by decide)))
     (fun h_289 =>
    sf_sV hS_V_287)))
     (fun h_18 =>
    False.elim (rg_none h_18 (rg_c (x := (0 : Int32)) (n := 0) rfl) (rg_c (x := (0 : Int32)) (n := 0) rfl)))))
     (fun h_4 =>
    sf_sV hS_V))
theorem s_B_X5_run_15_P {G : sv_V} {N : Nat} (hN : 8589934592 ≤ N) {l1 : Int32} {l2 : Int32} {l3 : Nat} {l4 : Nat} {s1 : Int32} {V : sv_V} (hS_V : SIx T_cP G V) (r_l1 : rg l1 (0) (30000)) (r_l2 : rg l2 (0) (12000)) (m_l3 : l3 ∈ [31, 45]) (m_l4 : l4 ∈ [82, 93, 103, 113, 123, 133]) (r_s1 : rg s1 (0) (1)) : Sg (SIx T_cP G) (B_X5_run_15 N l1 l2 l3 l4 s1 V) := by
  unfold B_X5_run_15
  exact
    sf_p (bl_rg r_s1 (by decide) (by decide)) <|
    sf_w (hS_V.wc oi_RcP_69_8 r_s1) fun V_1 q_2 hS_V_1 =>
    sf_w (hS_V_1.wR6 (mem_of m_l3 (by decide)) rfl) fun V_3 q_4 hS_V_3 =>
    sf_w (hS_V_3.wR7 m_l4 rfl) fun V_5 q_6 hS0_ =>
    run_back hS0_ <|
    have hR : RefsOf V_5 l4 l3 := refs_of q_4 q_6 m_l4 m_l3
    have hS_V_5 := run_own hS0_
    sf_w (hS_V_5.wc oi_RcR_69_9 r_l1) fun V_7 q_8 hS_V_7 =>
    sf_w (hS_V_7.wc oi_RcR_69_10 (rg_m (rg_add r_l1 r_l2 (by decide) (by decide)) (by decide) (by decide))) fun V_9 q_10 hS_V_9 =>
    sf_w (hS_V_9.wc oi_RcR_69_11 (rg_m r_l1 (by decide) (by decide))) fun V_11 q_12 hS_V_11 =>
    sf_w (hS_V_11.wc oi_RcR_69_5 (rg_m (rg_c (x := (0 : Int32)) (n := 0) rfl) (by decide) (by decide))) fun V_13 q_14 hS_V_13 =>
    sf_w (hS_V_13.wc oi_RcR_73_9 (rg_m (rg_c (x := (0 : Int32)) (n := 0) rfl) (by decide) (by decide))) fun V_15 q_16 hS_V_15 =>
    sf_eV (s_F_X9_renew_R hN hR hS_V_15) fun V_17 e_18 hS_V_17 =>
    lp2_up (I := fun l5 V => (SIx T_cR V_5 V) ∧ (rg l5 (0) (20001))) (fun l5 _ => l5.toInt) (0) (20001) (fun l5 V h => by
      obtain ⟨hS_V, r_l5⟩ := h
      have := r_l5; unfold rg at this; omega) (fun k l5 V h hk => by
      obtain ⟨hS_V, r_l5⟩ := h
      exact s_B_X5_run_69_R hN hR (fun l5 V hS_V r_l5 hc_k69  => hk l5 V (by exact ⟨hS_V, r_l5⟩) (hc_k69)) hS_V r_l5 (Int.le_refl _)) N (by have := hN; omega) _ _ (by exact ⟨hS_V_17, (rg_m (rg_c (x := (0 : Int32)) (n := 0) rfl) (by decide) (by decide))⟩)
theorem s_F_X5_run_P {G : sv_V} {N : Nat} (hN : 8589934592 ≤ N) {l1 : Int32} {l2 : Int32} {l3 : Nat} {l4 : Nat} {V : sv_V} (hS_V : SIx T_cP G V) (r_l1 : rg l1 (0) (30000)) (r_l2 : rg l2 (0) (12000)) (m_l3 : l3 ∈ [31, 45]) (m_l4 : l4 ∈ [82, 93, 103, 113, 123, 133]) : Sg (SIx T_cP G) (F_X5_run N l1 l2 l3 l4 V) := by
  unfold F_X5_run
  exact
    sf_p (lay_S m_l4 (by decide +kernel)) <|
    sf_ite (fun h_1 =>
    s_B_X5_run_15_P hN hS_V r_l1 r_l2 m_l3 m_l4 (rg_m (rg_c (x := (1 : Int32)) (n := 1) rfl) (by decide) (by decide)))
     (fun h_1 =>
    s_B_X5_run_15_P hN hS_V r_l1 r_l2 m_l3 m_l4 (rg_m (rg_c (x := (0 : Int32)) (n := 0) rfl) (by decide) (by decide)))
theorem s_B_X6_addParts_2_P {G : sv_V} {N : Nat} (hN : 8589934592 ≤ N) {kb : Int32 → Int32 → sv_V → Option ( Int32 × sv_V )} {k2 : Int32 → Int32 → Int32 → sv_V → Option ( Int32 × sv_V )} {c_kb : Int} (hk_kb : ∀ (l1 : Int32) (l2 : Int32) (V : sv_V), SIx T_cP G V → rg l1 (0) (65535) → rg l2 (0) (5) → c_kb < l2.toInt → Sg (QI T_cP G (0) (1)) (kb l1 l2 V)) {c_k2 : Int} (hk_k2 : ∀ (l1 : Int32) (l2 : Int32) (l3 : Int32) (V : sv_V), SIx T_cP G V → rg l1 (0) (199) → rg l2 (0) (4) → rg l3 (0) (8) → c_k2 < l3.toInt → c_kb ≤ l2.toInt → Sg (QI T_cP G (0) (1)) (k2 l1 l2 l3 V)) {l1 : Int32} {l2 : Int32} {l3 : Int32} {V : sv_V} (hS_V : SIx T_cP G V) (r_l1 : rg l1 (0) (199)) (r_l2 : rg l2 (0) (4)) (r_l3 : rg l3 (0) (8)) (hc_kb : c_kb ≤ l2.toInt) (hc_k2 : c_k2 ≤ l3.toInt) : Sg (QI T_cP G (0) (1)) (B_X6_addParts_2 N kb k2 l1 l2 l3 V) := by
  unfold B_X6_addParts_2
  exact
    sf_o (c := 13) (by decide) <|
    sf_o (c := 200) (by decide +kernel) <|
    sf_p (in_rg r_l1 (by decide) (by decide)) <|
    sf_ite (fun h_1 =>
    sf_sI hS_V (rg_m (rg_c (x := (1 : Int32)) (n := 1) rfl) (by decide) (by decide)))
     (fun h_1 =>
    have f_2 := (rg_hlt (Int32.not_le.mp h_1) r_l3 (hS_V.rdA (k := l1.toNatClampNeg) ra_RcP_13))
    have f_3 := (rg_llt (Int32.not_le.mp h_1) r_l3 (hS_V.rdA (k := l1.toNatClampNeg) ra_RcP_13))
    sf_w (hS_V.wn on_RcP_30_12) fun V_4 q_5 hS_V_4 =>
    sf_ite (fun h_6 =>
    have f_7 := (rg_hle h_6 rg_t (rg_c (x := (60 : Int32)) (n := 60) rfl))
    sf_eY (s_F_X3_readPart_P hN hS_V_4 r_l1 (rg_m f_2 (by decide) (by decide))) fun V_8 e_9 hS_V_8 p_11 =>
    sf_bI (hk_kb _ _ _ hS_V_8 (rg_m (hS_V_8.rd r_RcP_16_8) (by decide) (by decide)) (rg_m (rg_add r_l2 (rg_c (x := (1 : Int32)) (n := 1) rfl) (by decide) (by decide)) (by decide) (by decide)) (cnt_u0 rfl r_l2 (by decide) hc_kb)) fun x_12 V_13 hS_V_13 r_14 =>
    sf_ite (fun h_15 =>
    sf_sI hS_V_13 (rg_m (rg_c (x := (0 : Int32)) (n := 0) rfl) (by decide) (by decide)))
     (fun h_15 =>
    have f_17 := (rg_nel h_15 r_14 (rg_c (x := (0 : Int32)) (n := 0) rfl))
    sf_eY (s_F_X3_readPart_P hN hS_V_13 r_l1 (rg_m f_2 (by decide) (by decide))) fun V_18 e_19 hS_V_18 p_21 =>
    sf_eI (s_F_X6_addPart_P hN hS_V_18 r_l2 (by have := (r_l2).1; have := (r_l2).2; have := ((hS_V_18.rd r_RcP_16_9)).1; have := ((hS_V_18.rd r_RcP_16_9)).2; have := ((hS_V_18.rd r_RcP_16_10)).1; have := ((hS_V_18.rd r_RcP_16_10)).2; have := ((hS_V_18.rd r_RcP_16_7)).1; have := ((hS_V_18.rd r_RcP_16_7)).2; have := Int32.lt_iff_toInt_lt.mp (Int32.not_le.mp h_1); have := (f_2).1; have := (f_2).2; have := (f_3).1; have := (f_3).2; have := Int32.le_iff_toInt_le.mp h_6; have := (f_7).1; have := (f_7).2; have := congrArg Int32.toInt (rd_s q_5); have := ne_ti h_15; have := (f_17).1; have := (f_17).2; have := p_11; have := ((hS_V_8.rd r_RcP_16_9)).1; have := ((hS_V_8.rd r_RcP_16_9)).2; have := ((hS_V_8.rd r_RcP_16_10)).1; have := ((hS_V_8.rd r_RcP_16_10)).2; have := ((hS_V_8.rd r_RcP_16_7)).1; have := ((hS_V_8.rd r_RcP_16_7)).2; have := p_21; have : (0 : Int32).toInt = 0 := rfl; have : (1 : Int32).toInt = 1 := rfl; have : (60 : Int32).toInt = 60 := rfl; omega)) fun x_22 V_23 e_25 hS_V_23 r_24 =>
    sf_ite (fun h_27 =>
    sf_sI hS_V_23 (rg_m (rg_c (x := (0 : Int32)) (n := 0) rfl) (by decide) (by decide)))
     (fun h_27 =>
    sf_let fun x_30 q_31 =>
    have f_32 := rg_eq q_31 (rg_add f_2 (rg_c (x := (1 : Int32)) (n := 1) rfl) (by decide) (by decide))
    hk_k2 _ _ _ _ hS_V_23 r_l1 r_l2 (rg_m f_32 (by decide) (by decide)) (cnt_u0 q_31 f_2 (by decide) hc_k2) hc_kb)))
     (fun h_6 =>
    sf_eV (s_F_X5_failOutside_P hN hS_V_4 (rg_m (rg_c (x := (12 : Int32)) (n := 12) rfl) (by decide) (by decide))) fun V_34 e_35 hS_V_34 =>
    sf_sI hS_V_34 (rg_m (rg_c (x := (0 : Int32)) (n := 0) rfl) (by decide) (by decide))))
theorem s_F_X6_addParts_P {G : sv_V} {N : Nat} (hN : 8589934592 ≤ N) {kb : Int32 → Int32 → sv_V → Option ( Int32 × sv_V )} {c_kb : Int} (hk_kb : ∀ (l1 : Int32) (l2 : Int32) (V : sv_V), SIx T_cP G V → rg l1 (0) (65535) → rg l2 (0) (5) → c_kb < l2.toInt → Sg (QI T_cP G (0) (1)) (kb l1 l2 V)) {l1 : Int32} {l2 : Int32} {V : sv_V} (hS_V : SIx T_cP G V) (r_l1 : rg l1 (0) (199)) (r_l2 : rg l2 (0) (4)) (hc_kb : c_kb ≤ l2.toInt) : Sg (QI T_cP G (0) (1)) (F_X6_addParts N kb l1 l2 V) := by
  unfold F_X6_addParts
  exact
    lp4_up (I := fun l1 l2 l3 V => (SIx T_cP G V) ∧ (rg l1 (0) (199)) ∧ (rg l2 (0) (4)) ∧ (rg l3 (0) (8)) ∧ (c_kb ≤ l2.toInt)) (fun _ _ l3 _ => l3.toInt) (0) (8) (fun l1 l2 l3 V h => by
      obtain ⟨hS_V, r_l1, r_l2, r_l3, hc_kb⟩ := h
      have := r_l3; unfold rg at this; omega) (fun k l1 l2 l3 V h hk => by
      obtain ⟨hS_V, r_l1, r_l2, r_l3, hc_kb⟩ := h
      exact s_B_X6_addParts_2_P hN hk_kb (fun l1 l2 l3 V hS_V r_l1 r_l2 r_l3 hc_k2 hc_kb => hk l1 l2 l3 V (by exact ⟨hS_V, r_l1, r_l2, r_l3, hc_kb⟩) (hc_k2)) hS_V r_l1 r_l2 r_l3 hc_kb (Int.le_refl _)) N (by have := hN; omega) _ _ _ _ (by exact ⟨hS_V, r_l1, r_l2, (rg_m (rg_c (x := (0 : Int32)) (n := 0) rfl) (by decide) (by decide)), hc_kb⟩)
theorem s_F_X5_runForSize_P {G : sv_V} {N : Nat} (hN : 8589934592 ≤ N) {l1 : Int32} {l2 : Int32} {V : sv_V} (hS_V : SIx T_cP G V) (r_l1 : rg l1 (0) (12000)) (r_l2 : rg l2 (0) (12000)) : Sg (SIx T_cP G) (F_X5_runForSize N l1 l2 31 V) := by
  unfold F_X5_runForSize
  exact
    sf_eV (s_F_X5_run_P hN hS_V (rg_m r_l1 (by decide) (by decide)) r_l2 (by decide) (by decide)) fun V_1 e_2 hS_V_1 =>
    sf_sV hS_V_1
theorem s_B_X6_setSize_102_P {G : sv_V} {N : Nat} (hN : 8589934592 ≤ N) {l1 : Int32} {V : sv_V} (hS_V : SIx T_cP G V) (r_l1 : rg l1 (4) (48)) : Sg (QI T_cP G (-128) (20000)) (B_X6_setSize_102 N l1 V) := by
  unfold B_X6_setSize_102
  exact
    sf_ite (fun h_1 =>
    sf_w (hS_V.wc oi_RcP_30_7 (rg_m r_l1 (by decide) (by decide))) fun V_3 q_4 hS_V_3 =>
    sf_sI hS_V_3 (rg_m (hS_V_3.rd r_RcP_69_13) (by decide) (by decide)))
     (fun h_1 =>
    have f_5 := (rg_nel h_1 (hS_V.rd r_RcP_69_14) (rg_c (x := (0 : Int32)) (n := 0) rfl))
    sf_w (hS_V.wn on_RcP_30_11) fun V_6 q_7 hS_V_6 =>
    sf_sI hS_V_6 (rg_m (rg_sub (rg_c (x := (-100 : Int32)) (n := -100) rfl) (wr_k q_7 (by decide) f_5) (by decide) (by decide)) (by decide) (by decide)))
theorem s_F_X6_setSize_P {G : sv_V} {N : Nat} (hN : 8589934592 ≤ N) {l1 : Int32} {V : sv_V} (hS_V : SIx T_cP G V) (r_l1 : rg l1 (4) (48)) : Sg (QI T_cP G (-128) (20000)) (F_X6_setSize N l1 V) := by
  unfold F_X6_setSize
  exact
    sf_w (hS_V.wc oi_RcP_30_8 (rg_m (rg_c (x := (0 : Int32)) (n := 0) rfl) (by decide) (by decide))) fun V_1 q_2 hS_V_1 =>
    sf_w (hS_V_1.wc oi_RcP_30_7 (rg_m (rg_c (x := (0 : Int32)) (n := 0) rfl) (by decide) (by decide))) fun V_3 q_4 hS_V_3 =>
    sf_eV (s_F_X7_renew_P hN hS_V_3 r_l1) fun V_5 e_6 hS_V_5 =>
    sf_eV (s_F_X5_beginSize_P hN hS_V_5 r_l1) fun V_8 e_9 hS_V_8 =>
    sf_eV (s_F_X5_runForSize_P hN hS_V_8 (rg_m (hS_V_8.rd r_RcP_4_9) (by decide) (by decide)) (rg_m (hS_V_8.rd r_RcP_5_9) (by decide) (by decide))) fun V_11 e_12 hS_V_11 =>
    sf_ite (fun h_14 =>
    sf_eV (s_F_X5_runForSize_P hN hS_V_11 (rg_m (hS_V_11.rd r_RcP_4_10) (by decide) (by decide)) (rg_m (hS_V_11.rd r_RcP_5_10) (by decide) (by decide))) fun V_16 e_17 hS_V_16 =>
    s_B_X6_setSize_102_P hN hS_V_16 r_l1)
     (fun h_14 =>
    s_B_X6_setSize_102_P hN hS_V_11 r_l1)
theorem s_B_X6_build_16_P {G : sv_V} {N : Nat} (hN : 8589934592 ≤ N) {kb : Int32 → Int32 → sv_V → Option ( Int32 × sv_V )} {V : sv_V} (hS_V : SIx T_cP G V) : Sg (QI T_cP G (0) (1)) (B_X6_build_16 N kb V) := by
  unfold B_X6_build_16
  exact
    sf_eV (s_F_X5_failOutside_P hN hS_V (rg_m (rg_c (x := (12 : Int32)) (n := 12) rfl) (by decide) (by decide))) fun V_1 e_2 hS_V_1 =>
    sf_sI hS_V_1 (rg_m (rg_c (x := (0 : Int32)) (n := 0) rfl) (by decide) (by decide))
theorem s_B_X6_build_169_P {G : sv_V} {N : Nat} (hN : 8589934592 ≤ N) {kb : Int32 → Int32 → sv_V → Option ( Int32 × sv_V )} {V : sv_V} (hS_V : SIx T_cP G V) : Sg (QI T_cP G (0) (1)) (B_X6_build_169 N kb V) := by
  unfold B_X6_build_169
  exact
    sf_ite (fun h_1 =>
    sf_sI hS_V (rg_m (rg_c (x := (1 : Int32)) (n := 1) rfl) (by decide) (by decide)))
     (fun h_1 =>
    sf_sI hS_V (rg_m (rg_c (x := (0 : Int32)) (n := 0) rfl) (by decide) (by decide)))
theorem s_B_X6_build_85_P {G : sv_V} {N : Nat} (hN : 8589934592 ≤ N) {kb : Int32 → Int32 → sv_V → Option ( Int32 × sv_V )} {l1 : Int32} {l3 : Nat} {V : sv_V} (hS_V : SIx T_cP G V) (r_l1 : rg l1 (0) (199)) (m_l3 : l3 ∈ [93, 103, 113, 123, 133]) : Sg (QI T_cP G (0) (1)) (B_X6_build_85 N kb l1 l3 V) := by
  unfold B_X6_build_85
  exact
    sf_qI (s_F_X8_liesWithin_P hN hS_V m_l3 (rg_m (rg_c (x := (1000000 : Int32)) (n := 1000000) rfl) (by decide) (by decide))) fun x_1 r_2 =>
    sf_p (lay_S m_l3 (by decide +kernel)) <|
    sf_ite (fun h_3 =>
    sf_eV (s_F_X5_failOutside_P hN hS_V (rg_m (rg_c (x := (13 : Int32)) (n := 13) rfl) (by decide) (by decide))) fun V_5 e_6 hS_V_5 =>
    sf_sI hS_V_5 (rg_m (rg_c (x := (0 : Int32)) (n := 0) rfl) (by decide) (by decide)))
     (fun h_3 =>
    sf_o (c := 15) (by decide) <|
    sf_o (c := 200) (by decide +kernel) <|
    sf_p (in_rg r_l1 (by decide) (by decide)) <|
    sf_let fun x_9 q_10 =>
    have f_11 := rg_eq q_10 (hS_V.rdA (k := l1.toNatClampNeg) ra_RcP_15)
    sf_ite (fun h_12 =>
    s_B_X6_build_169_P hN hS_V)
     (fun h_12 =>
    have f_14 := (rg_llt (Int32.not_le.mp h_12) (rg_c (x := (0 : Int32)) (n := 0) rfl) f_11)
    sf_eV (s_F_X7_copyFrom_P hN hS_V) fun V_15 e_16 hS_V_15 =>
    sf_eV (s_F_X8_beginProgram_P hN hS_V_15 m_l3) fun V_18 e_19 hS_V_18 =>
    sf_o (c := 14) (by decide) <|
    sf_o (c := 200) (by decide +kernel) <|
    sf_p (in_rg r_l1 (by decide) (by decide)) <|
    sf_eV (s_F_X5_run_P hN hS_V_18 (rg_m (hS_V_18.rdA (k := l1.toNatClampNeg) ra_RcP_14) (by decide) (by decide)) (rg_m f_14 (by decide) (by decide)) (by decide) (mem_of m_l3 (by decide))) fun V_21 e_22 hS_V_21 =>
    sf_eV (s_F_X8_endProgram_P hN hS_V_21 m_l3) fun V_24 e_25 hS_V_24 =>
    s_B_X6_build_169_P hN hS_V_24))
theorem s_G_X6_build_P {G : sv_V} {N : Nat} (hN : 8589934592 ≤ N) {kb : Int32 → Int32 → sv_V → Option ( Int32 × sv_V )} {c_kb : Int} (hk_kb : ∀ (l1 : Int32) (l2 : Int32) (V : sv_V), SIx T_cP G V → rg l1 (0) (65535) → rg l2 (0) (5) → c_kb < l2.toInt → Sg (QI T_cP G (0) (1)) (kb l1 l2 V)) {l1 : Int32} {l2 : Int32} {V : sv_V} (hS_V : SIx T_cP G V) (r_l1 : rg l1 (0) (65535)) (r_l2 : rg l2 (0) (5)) (hc_kb : c_kb ≤ l2.toInt) : Sg (QI T_cP G (0) (1)) (G_X6_build N kb l1 l2 V) := by
  unfold G_X6_build
  exact
    sf_ite (fun h_1 =>
    s_B_X6_build_16_P hN hS_V)
     (fun h_1 =>
    have f_3 := (rg_hlt (Int32.not_le.mp h_1) r_l2 (rg_c (x := (5 : Int32)) (n := 5) rfl))
    sf_iteb (fun h_6 =>
    False.elim (rg_nolt h_6 r_l1 (rg_c (x := (0 : Int32)) (n := 0) rfl) (by decide)))
     (fun h_6 =>
    sf_iteb (fun h_7 =>
    sf_someb <|
    sf_ite (fun h_9 =>
    s_B_X6_build_16_P hN hS_V)
     (fun h_9 =>
    False.elim (rg_none h_9 (rg_c (x := (0 : Int32)) (n := 0) rfl) (rg_c (x := (0 : Int32)) (n := 0) rfl))))
     (fun h_7 =>
    have f_10 := (rg_hlt (Int32.not_le.mp h_7) r_l1 (hS_V.rd r_RcP_2_7))
    sf_someb <|
    sf_ite (fun h_11 =>
    False.elim (rg_noeq h_11 (rg_c (x := (1 : Int32)) (n := 1) rfl) (rg_c (x := (0 : Int32)) (n := 0) rfl) (by decide)))
     (fun h_11 =>
    sf_p (in_rg f_3 (by decide) (by decide)) <|
    sf_crI (T := [93, 103, 113, 123, 133]) f_3 (by decide) (by decide +kernel) fun b_12 m_13 =>
    sf_eY (s_F_X6_beginOutline_P hN hS_V (rg_m f_10 (by decide) (by decide)) m_13) fun V_14 e_15 hS_V_14 p_17 =>
    have f_16 := m_X6_beginOutline sv_sub_rf e_15
    sf_o (c := 13) (by decide) <|
    sf_o (c := 200) (by decide +kernel) <|
    sf_p (in_rg f_10 (by decide) (by decide)) <|
    sf_ite (fun h_18 =>
    have f_19 := (rg_hle h_18 (hS_V_14.rdA (k := l1.toNatClampNeg) ra_RcP_13) (rg_c (x := (0 : Int32)) (n := 0) rfl))
    sf_o (c := 9) (by decide) <|
    sf_o (c := 200) (by decide +kernel) <|
    sf_p (in_rg f_10 (by decide) (by decide)) <|
    sf_ite (fun h_20 =>
    s_B_X6_build_85_P hN hS_V_14 (rg_m f_10 (by decide) (by decide)) m_13)
     (fun h_20 =>
    have f_22 := (rg_llt (Int32.not_le.mp h_20) (rg_c (x := (0 : Int32)) (n := 0) rfl) (hS_V_14.rdA (k := l1.toNatClampNeg) ra_RcP_9))
    sf_eV (s_F_X6_takeOutline_P hN hS_V_14 (rg_m f_10 (by decide) (by decide)) m_13 (by have := (f_10).1; have := (f_10).2; have := ((hS_V_14.rdS m_13 rs_RcP_93103113123133_10_0_20)).1; have := ((hS_V_14.rdS m_13 rs_RcP_93103113123133_10_0_20)).2; have := Int32.lt_iff_toInt_lt.mp (Int32.not_le.mp h_1); have := (f_3).1; have := (f_3).2; have := Int32.le_iff_toInt_le.mp (Int32.not_lt.mp h_6); have := Int32.lt_iff_toInt_lt.mp (Int32.not_le.mp h_7); have := ((hS_V.rd r_RcP_2_7)).1; have := ((hS_V.rd r_RcP_2_7)).2; have := ne_ti h_11; have := Int32.le_iff_toInt_le.mp h_18; have := (f_19).1; have := (f_19).2; have := congrArg Int32.toInt (rd_fr (a := 13) (k := l1.toNatClampNeg) f_16 rfl); have := ((hS_V.rdA (k := l1.toNatClampNeg) ra_RcP_13)).1; have := ((hS_V.rdA (k := l1.toNatClampNeg) ra_RcP_13)).2; have := Int32.lt_iff_toInt_lt.mp (Int32.not_le.mp h_20); have := (f_22).1; have := (f_22).2; have := congrArg Int32.toInt (rd_fr (a := 9) (k := l1.toNatClampNeg) f_16 rfl); have := ((hS_V.rdA (k := l1.toNatClampNeg) ra_RcP_9)).1; have := ((hS_V.rdA (k := l1.toNatClampNeg) ra_RcP_9)).2; have := p_17; have : (0 : Int32).toInt = 0 := rfl; have : (1 : Int32).toInt = 1 := rfl; have : (5 : Int32).toInt = 5 := rfl; omega)) fun V_23 e_24 hS_V_23 =>
    s_B_X6_build_85_P hN hS_V_23 (rg_m f_10 (by decide) (by decide)) m_13))
     (fun h_18 =>
    sf_bI (s_F_X6_addParts_P hN hk_kb hS_V_14 (rg_m f_10 (by decide) (by decide)) (rg_m f_3 (by decide) (by decide)) hc_kb) fun x_27 V_28 hS_V_28 r_29 =>
    sf_ite (fun h_30 =>
    sf_sI hS_V_28 (rg_m (rg_c (x := (0 : Int32)) (n := 0) rfl) (by decide) (by decide)))
     (fun h_30 =>
    s_B_X6_build_85_P hN hS_V_28 (rg_m f_10 (by decide) (by decide)) m_13))))))
theorem s_F_X6_build_P {G : sv_V} {N : Nat} (hN : 8589934592 ≤ N) {l1 : Int32} {l2 : Int32} {V : sv_V} (hS_V : SIx T_cP G V) (r_l1 : rg l1 (0) (199)) (r_l2 : rg l2 (0) (0)) : Sg (QI T_cP G (0) (1)) (F_X6_build N l1 l2 V) := by
  unfold F_X6_build
  exact
    lp3_up (I := fun l1 l2 V => (SIx T_cP G V) ∧ (rg l1 (0) (65535)) ∧ (rg l2 (0) (5))) (fun _ l2 _ => l2.toInt) (0) (5) (fun l1 l2 V h => by
      obtain ⟨hS_V, r_l1, r_l2⟩ := h
      have := r_l2; unfold rg at this; omega) (fun k l1 l2 V h hk => by
      obtain ⟨hS_V, r_l1, r_l2⟩ := h
      exact s_G_X6_build_P hN (fun l1 l2 V hS_V r_l1 r_l2 hc_kb  => hk l1 l2 V (by exact ⟨hS_V, r_l1, r_l2⟩) (hc_kb)) hS_V r_l1 r_l2 (Int.le_refl _)) 8 (by decide) _ _ _ (by exact ⟨hS_V, (rg_m r_l1 (by decide) (by decide)), (rg_m r_l2 (by decide) (by decide))⟩)
theorem s_F_X11_size_P {G : sv_V} {N : Nat} (hN : 8589934592 ≤ N) {l1 : Int32} {V : sv_V} (hS_V : SIx T_cP G V) : Sg (QI T_cP G (-128) (20000)) (F_X11_size N l1 V) := by
  unfold F_X11_size
  exact
    sf_ite (fun h_1 =>
    sf_sI hS_V (rg_m (rg_c (x := (-3 : Int32)) (n := -3) rfl) (by decide) (by decide)))
     (fun h_1 =>
    sf_ite (fun h_4 =>
    sf_sI hS_V (rg_m (rg_c (x := (-2 : Int32)) (n := -2) rfl) (by decide) (by decide)))
     (fun h_4 =>
    have f_6 := (rg_lle (Int32.not_lt.mp h_4) (rg_c (x := (4 : Int32)) (n := 4) rfl) rg_t)
    sf_ite (fun h_7 =>
    have f_8 := (rg_hle h_7 f_6 (rg_c (x := (48 : Int32)) (n := 48) rfl))
    sf_eI (s_F_X6_setSize_P hN hS_V (rg_m f_8 (by decide) (by decide))) fun x_9 V_10 e_12 hS_V_10 r_11 =>
    sf_sI hS_V_10 r_11)
     (fun h_7 =>
    sf_sI hS_V (rg_m (rg_c (x := (-2 : Int32)) (n := -2) rfl) (by decide) (by decide)))))
theorem s_F_X11_size_U {G : sv_V} {N : Nat} (hN : 8589934592 ≤ N) {l1 : Int32} {V : sv_V} (hS_V : SIx T_cU G V) : Sg (QI T_cU G (-3) (-3)) (F_X11_size N l1 V) := by
  unfold F_X11_size
  exact
    sf_ite (fun h_1 =>
    sf_sI hS_V (rg_m (rg_c (x := (-3 : Int32)) (n := -3) rfl) (by decide) (by decide)))
     (fun h_1 =>
    False.elim (rg_none h_1 (hS_V.rd r_RcU_2_2) (rg_c (x := (0 : Int32)) (n := 0) rfl)))
theorem s_B_X6_makeGlyph_106_P {G : sv_V} {N : Nat} (hN : 8589934592 ≤ N) {V : sv_V} (hS_V : SIx T_cP G V) : Sg (QI T_cP G (-115) (100)) (B_X6_makeGlyph_106 N 93 V) := by
  unfold B_X6_makeGlyph_106
  exact
    sf_ite (fun h_1 =>
    sf_w (hS_V.wc oi_RcP_30_8 (rg_m (rg_c (x := (1 : Int32)) (n := 1) rfl) (by decide) (by decide))) fun V_3 q_4 hS_V_3 =>
    sf_eV (s_F_X10_trace_P hN hS_V_3) fun V_5 e_6 hS_V_5 =>
    sf_p (by decide +kernel) <|
    sf_sI hS_V_5 (rg_m (hS_V_5.rd r_RcP_93_9) (by decide) (by decide)))
     (fun h_1 =>
    have f_8 := (rg_nel h_1 (hS_V.rd r_RcP_69_14) (rg_c (x := (0 : Int32)) (n := 0) rfl))
    sf_w (hS_V.wn on_RcP_30_11) fun V_9 q_10 hS_V_9 =>
    sf_sI hS_V_9 (rg_m (rg_sub (rg_c (x := (-100 : Int32)) (n := -100) rfl) (wr_k q_10 (by decide) f_8) (by decide) (by decide)) (by decide) (by decide)))
theorem s_B_X6_makeGlyph_54_P {G : sv_V} {N : Nat} (hN : 8589934592 ≤ N) {s1 : Int32} {V : sv_V} (hS_V : SIx T_cP G V) (r_s1 : rg s1 (0) (1)) : Sg (QI T_cP G (-115) (100)) (B_X6_makeGlyph_54 N 93 s1 V) := by
  unfold B_X6_makeGlyph_54
  exact
    sf_p (bl_rg r_s1 (by decide) (by decide)) <|
    sf_w (hS_V.wc oi_RcP_30_9 r_s1) fun V_1 q_2 hS_V_1 =>
    sf_p (by decide +kernel) <|
    sf_o (c := 95) (by decide) <|
    sf_o (c := 2) (by decide +kernel) <|
    sf_p (in_rg (rg_c (x := (1 : Int32)) (n := 1) rfl) (by decide) (by decide)) <|
    sf_p (in_rg (rg_c (x := (0 : Int32)) (n := 0) rfl) (by decide) (by decide)) <|
    sf_w (hS_V_1.wn on_RcP_30_10) fun V_3 q_4 hS_V_3 =>
    sf_p (in_rg (rg_c (x := (0 : Int32)) (n := 0) rfl) (by decide) (by decide)) <|
    sf_eV (s_F_X8_shift_P hN hS_V_3 (by decide) (rg_m (rg_c (x := (0 : Int32)) (n := 0) rfl) (by decide) (by decide)) (cap_c (by decide) (rg_c (x := (0 : Int32)) (n := 0) rfl))) fun V_5 e_6 hS_V_5 =>
    sf_qI (s_F_X8_liesWithin_P hN hS_V_5 (by decide) (rg_m (rg_c (x := (4096 : Int32)) (n := 4096) rfl) (by decide) (by decide))) fun x_8 r_9 =>
    sf_ite (fun h_10 =>
    sf_eV (s_F_X5_failOutside_P hN hS_V_5 (rg_m (rg_c (x := (13 : Int32)) (n := 13) rfl) (by decide) (by decide))) fun V_12 e_13 hS_V_12 =>
    s_B_X6_makeGlyph_106_P hN hS_V_12)
     (fun h_10 =>
    s_B_X6_makeGlyph_106_P hN hS_V_5)
theorem s_F_X6_makeGlyph_P {G : sv_V} {N : Nat} (hN : 8589934592 ≤ N) {l1 : Int32} {V : sv_V} (hS_V : SIx T_cP G V) (r_l1 : rg l1 (0) (199)) : Sg (QI T_cP G (-115) (100)) (F_X6_makeGlyph N l1 V) := by
  unfold F_X6_makeGlyph
  exact
    sf_w (hS_V.wc oi_RcP_30_8 (rg_m (rg_c (x := (0 : Int32)) (n := 0) rfl) (by decide) (by decide))) fun V_1 q_2 hS_V_1 =>
    sf_w (hS_V_1.wn on_RcP_30_12) fun V_3 q_4 hS_V_3 =>
    sf_eV (s_F_X5_beginCount_P hN hS_V_3) fun V_5 e_6 hS_V_5 =>
    sf_o (c := 93) (by decide) <|
    sf_eI (s_F_X6_build_P hN hS_V_5 r_l1 (rg_m (rg_c (x := (0 : Int32)) (n := 0) rfl) (by decide) (by decide))) fun x_8 V_9 e_11 hS_V_9 r_10 =>
    sf_ite (fun h_13 =>
    s_B_X6_makeGlyph_106_P hN hS_V_9)
     (fun h_13 =>
    sf_o (c := 15) (by decide) <|
    sf_o (c := 200) (by decide +kernel) <|
    sf_p (in_rg r_l1 (by decide) (by decide)) <|
    sf_ite (fun h_16 =>
    s_B_X6_makeGlyph_54_P hN hS_V_9 (rg_m (rg_c (x := (0 : Int32)) (n := 0) rfl) (by decide) (by decide)))
     (fun h_16 =>
    s_B_X6_makeGlyph_54_P hN hS_V_9 (rg_m (rg_c (x := (1 : Int32)) (n := 1) rfl) (by decide) (by decide))))
theorem s_F_X11_make_P {G : sv_V} {N : Nat} (hN : 8589934592 ≤ N) {l1 : Int32} {V : sv_V} (hS_V : SIx T_cP G V) : Sg (QI T_cP G (-115) (100)) (F_X11_make N l1 V) := by
  unfold F_X11_make
  exact
    sf_ite (fun h_1 =>
    sf_sI hS_V (rg_m (rg_c (x := (-3 : Int32)) (n := -3) rfl) (by decide) (by decide)))
     (fun h_1 =>
    sf_ite (fun h_4 =>
    sf_sI hS_V (rg_m (rg_c (x := (-3 : Int32)) (n := -3) rfl) (by decide) (by decide)))
     (fun h_4 =>
    sf_iteb (fun h_9 =>
    sf_someb <|
    sf_ite (fun h_11 =>
    sf_sI hS_V (rg_m (rg_c (x := (-1 : Int32)) (n := -1) rfl) (by decide) (by decide)))
     (fun h_11 =>
    False.elim (rg_none h_11 (rg_c (x := (0 : Int32)) (n := 0) rfl) (rg_c (x := (0 : Int32)) (n := 0) rfl))))
     (fun h_9 =>
    have f_12 := (rg_lle (Int32.not_lt.mp h_9) (rg_c (x := (0 : Int32)) (n := 0) rfl) rg_t)
    sf_iteb (fun h_13 =>
    sf_someb <|
    sf_ite (fun h_15 =>
    sf_sI hS_V (rg_m (rg_c (x := (-1 : Int32)) (n := -1) rfl) (by decide) (by decide)))
     (fun h_15 =>
    False.elim (rg_none h_15 (rg_c (x := (0 : Int32)) (n := 0) rfl) (rg_c (x := (0 : Int32)) (n := 0) rfl))))
     (fun h_13 =>
    have f_16 := (rg_hlt (Int32.not_le.mp h_13) f_12 (hS_V.rd r_RcP_2_7))
    sf_someb <|
    sf_ite (fun h_17 =>
    False.elim (rg_noeq h_17 (rg_c (x := (1 : Int32)) (n := 1) rfl) (rg_c (x := (0 : Int32)) (n := 0) rfl) (by decide)))
     (fun h_17 =>
    sf_eI (s_F_X6_makeGlyph_P hN hS_V (rg_m f_16 (by decide) (by decide))) fun x_18 V_19 e_21 hS_V_19 r_20 =>
    sf_sI hS_V_19 r_20)))))
theorem s_F_X11_make_U {G : sv_V} {N : Nat} (hN : 8589934592 ≤ N) {l1 : Int32} {V : sv_V} (hS_V : SIx T_cU G V) : Sg (QI T_cU G (-3) (-3)) (F_X11_make N l1 V) := by
  unfold F_X11_make
  exact
    sf_ite (fun h_1 =>
    sf_sI hS_V (rg_m (rg_c (x := (-3 : Int32)) (n := -3) rfl) (by decide) (by decide)))
     (fun h_1 =>
    False.elim (rg_none h_1 (hS_V.rd r_RcU_2_2) (rg_c (x := (0 : Int32)) (n := 0) rfl)))
theorem s_B_X11_line_133_P {G : sv_V} {N : Nat} (hN : 8589934592 ≤ N) {k78 : Int32 → Int32 → Int64 → Int32 → Int32 → sv_V → Option ( Int32 × sv_V )} {c_k78 : Int} (hk_k78 : ∀ (l2 : Int32) (l3 : Int32) (l4 : Int64) (l6 : Int32) (l7 : Int32) (V : sv_V), SIx T_cP G V → rg l2 (-20000) (20000) → rg l3 (0) (100) → rl l4 (-2147503648) (2147503647) → rg l6 (-1) (199) → rg l7 (0) (100) → c_k78 < l7.toInt → Sg (QI T_cP G (-2147483648) (2147483647)) (k78 l2 l3 l4 l6 l7 V)) {l2 : Int32} {l3 : Int32} {l4 : Int64} {l7 : Int32} {l8 : Int32} {V : sv_V} (hS_V : SIx T_cP G V) (r_l2 : rg l2 (-20000) (20000)) (r_l3 : rg l3 (1) (100)) (r_l7 : rg l7 (0) (99)) (r_l8 : rg l8 (0) (199)) (hc_k78 : c_k78 ≤ l7.toInt) : Sg (QI T_cP G (-2147483648) (2147483647)) (B_X11_line_133 N k78 l2 l3 l4 l7 l8 V) := by
  unfold B_X11_line_133
  exact
    sf_eI (s_F_X6_makeGlyph_P hN hS_V r_l8) fun x_1 V_2 e_4 hS_V_2 r_3 =>
    sf_ite (fun h_6 =>
    sf_iteb (fun h_11 =>
    sf_someb <|
    sf_ite (fun h_14 =>
    False.elim (rg_noeq h_14 (rg_c (x := (1 : Int32)) (n := 1) rfl) (rg_c (x := (0 : Int32)) (n := 0) rfl) (by decide)))
     (fun h_14 =>
    sf_sI hS_V_2 (rg_m (rg_c (x := (-1000200 : Int32)) (n := -1000200) rfl) (by decide) (by decide))))
     (fun h_11 =>
    have f_15 := (rl_lle (Int64.not_lt.mp (fun q => h_11 (lgc_lt.mpr q))) (rl_w (rg_neg (rg_c (x := (20000 : Int32)) (n := 20000) rfl) (by decide))) rl_t)
    sf_iteb (fun h_16 =>
    have f_17 := (rl_hle (lgc_le.mp h_16) f_15 (rl_w (rg_c (x := (20000 : Int32)) (n := 20000) rfl)))
    sf_someb <|
    sf_ite (fun h_18 =>
    sf_eI (s_F_X1_fillIn_P hN hS_V_2 (rg_m (rg_n f_17 (by decide) (by decide)) (by decide) (by decide)) r_l2) fun x_19 V_20 e_22 hS_V_20 r_21 =>
    sf_let fun x_24 q_25 =>
    have f_26 := rl_eq q_25 (rl_add f_17 (rl_w rg_t) (by decide) (by decide))
    sf_let fun x_27 q_28 =>
    have f_29 := rg_eq q_28 (rg_add r_l7 (rg_c (x := (1 : Int32)) (n := 1) rfl) (by decide) (by decide))
    hk_k78 _ _ _ _ _ _ hS_V_20 r_l2 (rg_m r_l3 (by decide) (by decide)) (rl_m f_26 (by decide) (by decide)) (rg_m r_l8 (by decide) (by decide)) (rg_m f_29 (by decide) (by decide)) (cnt_u0 q_28 r_l7 (by decide) hc_k78))
     (fun h_18 =>
    False.elim (rg_none h_18 (rg_c (x := (0 : Int32)) (n := 0) rfl) (rg_c (x := (0 : Int32)) (n := 0) rfl))))
     (fun h_16 =>
    sf_someb <|
    sf_ite (fun h_32 =>
    False.elim (rg_noeq h_32 (rg_c (x := (1 : Int32)) (n := 1) rfl) (rg_c (x := (0 : Int32)) (n := 0) rfl) (by decide)))
     (fun h_32 =>
    sf_sI hS_V_2 (rg_m (rg_c (x := (-1000200 : Int32)) (n := -1000200) rfl) (by decide) (by decide))))))
     (fun h_6 =>
    have f_33 := (rg_hlt (Int32.not_le.mp h_6) r_3 (rg_c (x := (0 : Int32)) (n := 0) rfl))
    sf_sI hS_V_2 (rg_m (rg_add (rg_c (x := (-1000000 : Int32)) (n := -1000000) rfl) f_33 (by decide) (by decide)) (by decide) (by decide)))
theorem s_B_X11_line_78_P {G : sv_V} {N : Nat} (hN : 8589934592 ≤ N) {k78 : Int32 → Int32 → Int64 → Int32 → Int32 → sv_V → Option ( Int32 × sv_V )} {c_k78 : Int} (hk_k78 : ∀ (l2 : Int32) (l3 : Int32) (l4 : Int64) (l6 : Int32) (l7 : Int32) (V : sv_V), SIx T_cP G V → rg l2 (-20000) (20000) → rg l3 (0) (100) → rl l4 (-2147503648) (2147503647) → rg l6 (-1) (199) → rg l7 (0) (100) → c_k78 < l7.toInt → Sg (QI T_cP G (-2147483648) (2147483647)) (k78 l2 l3 l4 l6 l7 V)) {l2 : Int32} {l3 : Int32} {l4 : Int64} {l6 : Int32} {l7 : Int32} {V : sv_V} (hS_V : SIx T_cP G V) (r_l2 : rg l2 (-20000) (20000)) (r_l3 : rg l3 (0) (100)) (r_l4 : rl l4 (-2147503648) (2147503647)) (r_l6 : rg l6 (-1) (199)) (r_l7 : rg l7 (0) (100)) (hc_k78 : c_k78 ≤ l7.toInt) : Sg (QI T_cP G (-2147483648) (2147483647)) (B_X11_line_78 N k78 l2 l3 l4 l6 l7 V) := by
  unfold B_X11_line_78
  exact
    sf_ite (fun h_1 =>
    sf_sI hS_V rg_t)
     (fun h_1 =>
    have f_2 := (rg_hlt (Int32.not_le.mp h_1) r_l7 r_l3)
    have f_3 := (rg_llt (Int32.not_le.mp h_1) r_l7 r_l3)
    sf_p (in_rg f_2 (by decide) (by decide)) <|
    sf_qI (s_F_X2_findGlyph_P hN hS_V (rg_m (hS_V.rdA (k := l7.toNatClampNeg) ra_RcP_145) (by decide) (by decide))) fun x_4 r_5 =>
    sf_ite (fun h_6 =>
    s_B_X11_line_133_P hN hk_k78 hS_V r_l2 (rg_m f_3 (by decide) (by decide)) (rg_m f_2 (by decide) (by decide)) r_5 hc_k78)
     (fun h_6 =>
    have f_8 := (rg_nel h_6 r_l6 (rg_c (x := (-1 : Int32)) (n := -1) rfl))
    sf_qI (s_F_X2_kernOf_P hN hS_V (rg_m f_8 (by decide) (by decide)) r_5) fun x_9 r_10 =>
    sf_qL (s_F_X5_scaled_P hN hS_V (rl_m (rl_w r_10) (by decide) (by decide))) fun x_11 r_12 =>
    sf_let fun x_13 q_14 =>
    s_B_X11_line_133_P hN hk_k78 hS_V r_l2 (rg_m f_3 (by decide) (by decide)) (rg_m f_2 (by decide) (by decide)) r_5 hc_k78))
theorem s_F_X11_line_P {G : sv_V} {N : Nat} (hN : 8589934592 ≤ N) {l1 : Int32} {l2 : Int32} {V : sv_V} (hS_V : SIx T_cP G V) : Sg (QI T_cP G (-2147483648) (2147483647)) (F_X11_line N l1 l2 V) := by
  unfold F_X11_line
  exact
    sf_ite (fun h_1 =>
    sf_sI hS_V (rg_m (rg_c (x := (-3 : Int32)) (n := -3) rfl) (by decide) (by decide)))
     (fun h_1 =>
    sf_ite (fun h_4 =>
    sf_sI hS_V (rg_m (rg_c (x := (-3 : Int32)) (n := -3) rfl) (by decide) (by decide)))
     (fun h_4 =>
    sf_ite (fun h_7 =>
    sf_sI hS_V (rg_m (rg_c (x := (-3 : Int32)) (n := -3) rfl) (by decide) (by decide)))
     (fun h_7 =>
    sf_iteb (fun h_13 =>
    sf_someb <|
    sf_ite (fun h_17 =>
    False.elim (rg_noeq h_17 (rg_c (x := (1 : Int32)) (n := 1) rfl) (rg_c (x := (0 : Int32)) (n := 0) rfl) (by decide)))
     (fun h_17 =>
    sf_sI hS_V (rg_m (rg_c (x := (-2 : Int32)) (n := -2) rfl) (by decide) (by decide))))
     (fun h_13 =>
    have f_18 := (rl_lle (Int64.not_lt.mp (fun q => h_13 (lgc_lt.mpr q))) (rl_w (rg_neg (rg_c (x := (20000 : Int32)) (n := 20000) rfl) (by decide))) (rl_w rg_t))
    have f_19 := (rg_uw f_18)
    sf_iteb (fun h_20 =>
    have f_21 := (rl_hle (lgc_le.mp h_20) (rl_w f_19) (rl_w (rg_c (x := (20000 : Int32)) (n := 20000) rfl)))
    have f_22 := (rg_uw f_21)
    sf_someb <|
    sf_ite (fun h_23 =>
    sf_iteb (fun h_27 =>
    sf_someb <|
    sf_ite (fun h_31 =>
    False.elim (rg_noeq h_31 (rg_c (x := (1 : Int32)) (n := 1) rfl) (rg_c (x := (0 : Int32)) (n := 0) rfl) (by decide)))
     (fun h_31 =>
    sf_sI hS_V (rg_m (rg_c (x := (-2 : Int32)) (n := -2) rfl) (by decide) (by decide))))
     (fun h_27 =>
    have f_32 := (rl_lle (Int64.not_lt.mp (fun q => h_27 (lgc_lt.mpr q))) (rl_w (rg_neg (rg_c (x := (20000 : Int32)) (n := 20000) rfl) (by decide))) (rl_w rg_t))
    have f_33 := (rg_uw f_32)
    sf_iteb (fun h_34 =>
    have f_35 := (rl_hle (lgc_le.mp h_34) (rl_w f_33) (rl_w (rg_c (x := (20000 : Int32)) (n := 20000) rfl)))
    have f_36 := (rg_uw f_35)
    sf_someb <|
    sf_ite (fun h_37 =>
    sf_let fun x_38 q_39 =>
    have f_40 := rg_eq q_39 (hS_V.rd r_RcP_0_7)
    sf_w (hS_V.wc oi_RcP_0_7 (rg_m (rg_c (x := (0 : Int32)) (n := 0) rfl) (by decide) (by decide))) fun V_41 q_42 hS_V_41 =>
    sf_let fun x_43 q_44 =>
    have f_45 := rl_eq q_44 (rl_w f_22)
    lp6_up (I := fun l2 l3 l4 l6 l7 V => (SIx T_cP G V) ∧ (rg l2 (-20000) (20000)) ∧ (rg l3 (0) (100)) ∧ (rl l4 (-2147503648) (2147503647)) ∧ (rg l6 (-1) (199)) ∧ (rg l7 (0) (100))) (fun _ _ _ _ l7 _ => l7.toInt) (0) (100) (fun l2 l3 l4 l6 l7 V h => by
      obtain ⟨hS_V, r_l2, r_l3, r_l4, r_l6, r_l7⟩ := h
      have := r_l7; unfold rg at this; omega) (fun k l2 l3 l4 l6 l7 V h hk => by
      obtain ⟨hS_V, r_l2, r_l3, r_l4, r_l6, r_l7⟩ := h
      exact s_B_X11_line_78_P hN (fun l2 l3 l4 l6 l7 V hS_V r_l2 r_l3 r_l4 r_l6 r_l7 hc_k78  => hk l2 l3 l4 l6 l7 V (by exact ⟨hS_V, r_l2, r_l3, r_l4, r_l6, r_l7⟩) (hc_k78)) hS_V r_l2 r_l3 r_l4 r_l6 r_l7 (Int.le_refl _)) N (by have := hN; omega) _ _ _ _ _ _ (by exact ⟨hS_V_41, (rg_m f_36 (by decide) (by decide)), (rg_m f_40 (by decide) (by decide)), (rl_m f_45 (by decide) (by decide)), (rg_m (rg_c (x := (-1 : Int32)) (n := -1) rfl) (by decide) (by decide)), (rg_m (rg_c (x := (0 : Int32)) (n := 0) rfl) (by decide) (by decide))⟩))
     (fun h_37 =>
    False.elim (rg_none h_37 (rg_c (x := (0 : Int32)) (n := 0) rfl) (rg_c (x := (0 : Int32)) (n := 0) rfl))))
     (fun h_34 =>
    sf_someb <|
    sf_ite (fun h_49 =>
    False.elim (rg_noeq h_49 (rg_c (x := (1 : Int32)) (n := 1) rfl) (rg_c (x := (0 : Int32)) (n := 0) rfl) (by decide)))
     (fun h_49 =>
    sf_sI hS_V (rg_m (rg_c (x := (-2 : Int32)) (n := -2) rfl) (by decide) (by decide))))))
     (fun h_23 =>
    False.elim (rg_none h_23 (rg_c (x := (0 : Int32)) (n := 0) rfl) (rg_c (x := (0 : Int32)) (n := 0) rfl))))
     (fun h_20 =>
    sf_someb <|
    sf_ite (fun h_53 =>
    False.elim (rg_noeq h_53 (rg_c (x := (1 : Int32)) (n := 1) rfl) (rg_c (x := (0 : Int32)) (n := 0) rfl) (by decide)))
     (fun h_53 =>
    sf_sI hS_V (rg_m (rg_c (x := (-2 : Int32)) (n := -2) rfl) (by decide) (by decide))))))))
theorem s_F_X11_line_U {G : sv_V} {N : Nat} (hN : 8589934592 ≤ N) {l1 : Int32} {l2 : Int32} {V : sv_V} (hS_V : SIx T_cU G V) : Sg (QI T_cU G (-3) (-3)) (F_X11_line N l1 l2 V) := by
  unfold F_X11_line
  exact
    sf_ite (fun h_1 =>
    sf_sI hS_V (rg_m (rg_c (x := (-3 : Int32)) (n := -3) rfl) (by decide) (by decide)))
     (fun h_1 =>
    False.elim (rg_none h_1 (hS_V.rd r_RcU_2_2) (rg_c (x := (0 : Int32)) (n := 0) rfl)))
end
