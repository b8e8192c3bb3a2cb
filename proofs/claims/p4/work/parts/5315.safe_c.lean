/-! safety, c, 15 -/
theorem s_B_X5_fillUntouched_121_R {G : sv_V} {N : Nat} (hN : 8589934592 ≤ N) {bo bm : Nat} (hR : RefsOf G bo bm) {k3 : Nat → Nat → Int32 → Int32 → sv_V → Option sv_V} {k61 : Nat → Nat → Int32 → Int32 → Int32 → Int32 → Int32 → Int32 → Int32 → sv_V → Option sv_V} {c_k3 : Int} (hk_k3 : ∀ (l1 : Nat) (l2 : Nat) (l3 : Int32) (l4 : Int32) (V : sv_V), SIx T_cR G V → l1 ∈ [88, 89, 99, 100, 109, 110, 119, 120, 129, 130, 139, 140] → l2 ∈ [86, 87, 97, 98, 107, 108, 117, 118, 127, 128, 137, 138] → rg l3 (1) (2) → rg l4 (0) (20) → OA bo l1 → OA bo l2 → c_k3 < l4.toInt → Sg (SIx T_cR G) (k3 l1 l2 l3 l4 V)) {c_k61 : Int} (hk_k61 : ∀ (l1 : Nat) (l2 : Nat) (l3 : Int32) (l4 : Int32) (l5 : Int32) (l6 : Int32) (l7 : Int32) (l8 : Int32) (l9 : Int32) (V : sv_V), SIx T_cR G V → l1 ∈ [88, 89, 99, 100, 109, 110, 119, 120, 129, 130, 139, 140] → l2 ∈ [86, 87, 97, 98, 107, 108, 117, 118, 127, 128, 137, 138] → rg l3 (1) (2) → rg l4 (0) (19) → rg l5 (0) (100) → rg l6 (-99) (100) → rg l7 (-1) (199) → rg l8 (-100) (199) → rg l9 (1) (101) → l3.toInt < cap bo → l4.toInt < cap bo → l5.toInt < cap bo → l6.toInt < cap bo → (100 : Int) ≤ cap bo → OA bo l1 → OA bo l2 → l5.toInt + l6.toInt = (V.1 (bo + 1) l4.toNatClampNeg).toInt + 1 → l8.toInt < l5.toInt + l6.toInt → l7.toInt = -1 ∨ 0 ≤ l8.toInt → (l4.toInt = 0 ∧ l5.toInt = 0) ∨ (0 < l4.toInt ∧ l5.toInt = (V.1 (bo + 1) (l4 - (1 : Int32)).toNatClampNeg).toInt + 1) → c_k61 < l9.toInt → c_k3 ≤ l4.toInt → Sg (SIx T_cR G) (k61 l1 l2 l3 l4 l5 l6 l7 l8 l9 V)) {l1 : Nat} {l2 : Nat} {l3 : Int32} {l4 : Int32} {l5 : Int32} {l6 : Int32} {l7 : Int32} {l8 : Int32} {l9 : Int32} {V : sv_V} (hS_V : SIx T_cR G V) (m_l1 : l1 ∈ [88, 89, 99, 100, 109, 110, 119, 120, 129, 130, 139, 140]) (m_l2 : l2 ∈ [86, 87, 97, 98, 107, 108, 117, 118, 127, 128, 137, 138]) (r_l3 : rg l3 (1) (2)) (r_l4 : rg l4 (0) (19)) (r_l5 : rg l5 (0) (100)) (r_l6 : rg l6 (1) (100)) (r_l7 : rg l7 (0) (199)) (r_l8 : rg l8 (-100) (199)) (r_l9 : rg l9 (1) (100)) (cp_l3_bo : l3.toInt < cap bo) (cp_l4_bo : l4.toInt < cap bo) (cp_l5_bo : l5.toInt < cap bo) (cp_l6_bo : l6.toInt < cap bo) (cp_l9_bo : l9.toInt < cap bo) (cb : (100 : Int) ≤ cap bo) (oa_l1 : OA bo l1) (oa_l2 : OA bo l2) (an_0 : l5.toInt + l6.toInt = (V.1 (bo + 1) l4.toNatClampNeg).toInt + 1) (an_1 : l8.toInt < l5.toInt + l6.toInt) (an_2 : l7.toInt = -1 ∨ 0 ≤ l8.toInt) (an_3 : (l4.toInt = 0 ∧ l5.toInt = 0) ∨ (0 < l4.toInt ∧ l5.toInt = (V.1 (bo + 1) (l4 - (1 : Int32)).toNatClampNeg).toInt + 1)) (hc_k3 : c_k3 ≤ l4.toInt) (hc_k61 : c_k61 ≤ l9.toInt) : Sg (SIx T_cR G) (B_X5_fillUntouched_121 N k3 k61 l1 l2 l3 l4 l5 l6 l7 l8 l9 V) := by
  unfold B_X5_fillUntouched_121
  exact
    sf_let fun x_1 q_2 =>
    have f_3 := rg_eq q_2 (rg_add r_l9 (rg_c (x := (1 : Int32)) (n := 1) rfl) (by decide) (by decide))
    hk_k61 _ _ _ _ _ _ _ _ _ _ hS_V m_l1 m_l2 r_l3 r_l4 r_l5 (rg_m r_l6 (by decide) (by decide)) (rg_m r_l7 (by decide) (by decide)) r_l8 (rg_m f_3 (by decide) (by decide)) cp_l3_bo cp_l4_bo cp_l5_bo cp_l6_bo cb oa_l1 oa_l2 (by have := (r_l3).1; have := (r_l3).2; have := (r_l4).1; have := (r_l4).2; have := (r_l5).1; have := (r_l5).2; have := (r_l6).1; have := (r_l6).2; have := (r_l7).1; have := (r_l7).2; have := (r_l8).1; have := (r_l8).2; have := (f_3).1; have := (f_3).2; have := congrArg Int32.toInt q_2; have := ((rg_add r_l9 (rg_c (x := (1 : Int32)) (n := 1) rfl) (by decide) (by decide))).1; have := ((rg_add r_l9 (rg_c (x := (1 : Int32)) (n := 1) rfl) (by decide) (by decide))).2; have := rg_tia r_l9 (rg_c (x := (1 : Int32)) (n := 1) rfl) (by decide) (by decide); have := (r_l9).1; have := (r_l9).2; have := ((hS_V.rdSa (k := l4.toNatClampNeg) (bo1_mem hR.1) rt_RcR_8394104114124134_0_99)).1; have := ((hS_V.rdSa (k := l4.toNatClampNeg) (bo1_mem hR.1) rt_RcR_8394104114124134_0_99)).2; have := ((hS_V.rdSa (k := (l4 - (1 : Int32)).toNatClampNeg) (bo1_mem hR.1) rt_RcR_8394104114124134_0_99)).1; have := ((hS_V.rdSa (k := (l4 - (1 : Int32)).toNatClampNeg) (bo1_mem hR.1) rt_RcR_8394104114124134_0_99)).2; have := cb; have := an_0; have := an_1; have := an_2; have := an_3; have : (1 : Int32).toInt = 1 := rfl; omega) (by have := (r_l3).1; have := (r_l3).2; have := (r_l4).1; have := (r_l4).2; have := (r_l5).1; have := (r_l5).2; have := (r_l6).1; have := (r_l6).2; have := (r_l7).1; have := (r_l7).2; have := (r_l8).1; have := (r_l8).2; have := (f_3).1; have := (f_3).2; have := congrArg Int32.toInt q_2; have := ((rg_add r_l9 (rg_c (x := (1 : Int32)) (n := 1) rfl) (by decide) (by decide))).1; have := ((rg_add r_l9 (rg_c (x := (1 : Int32)) (n := 1) rfl) (by decide) (by decide))).2; have := rg_tia r_l9 (rg_c (x := (1 : Int32)) (n := 1) rfl) (by decide) (by decide); have := (r_l9).1; have := (r_l9).2; have := ((hS_V.rdSa (k := l4.toNatClampNeg) (bo1_mem hR.1) rt_RcR_8394104114124134_0_99)).1; have := ((hS_V.rdSa (k := l4.toNatClampNeg) (bo1_mem hR.1) rt_RcR_8394104114124134_0_99)).2; have := ((hS_V.rdSa (k := (l4 - (1 : Int32)).toNatClampNeg) (bo1_mem hR.1) rt_RcR_8394104114124134_0_99)).1; have := ((hS_V.rdSa (k := (l4 - (1 : Int32)).toNatClampNeg) (bo1_mem hR.1) rt_RcR_8394104114124134_0_99)).2; have := cb; have := an_0; have := an_1; have := an_2; have := an_3; have : (1 : Int32).toInt = 1 := rfl; omega) (by have := (r_l3).1; have := (r_l3).2; have := (r_l4).1; have := (r_l4).2; have := (r_l5).1; have := (r_l5).2; have := (r_l6).1; have := (r_l6).2; have := (r_l7).1; have := (r_l7).2; have := (r_l8).1; have := (r_l8).2; have := (f_3).1; have := (f_3).2; have := congrArg Int32.toInt q_2; have := ((rg_add r_l9 (rg_c (x := (1 : Int32)) (n := 1) rfl) (by decide) (by decide))).1; have := ((rg_add r_l9 (rg_c (x := (1 : Int32)) (n := 1) rfl) (by decide) (by decide))).2; have := rg_tia r_l9 (rg_c (x := (1 : Int32)) (n := 1) rfl) (by decide) (by decide); have := (r_l9).1; have := (r_l9).2; have := ((hS_V.rdSa (k := l4.toNatClampNeg) (bo1_mem hR.1) rt_RcR_8394104114124134_0_99)).1; have := ((hS_V.rdSa (k := l4.toNatClampNeg) (bo1_mem hR.1) rt_RcR_8394104114124134_0_99)).2; have := ((hS_V.rdSa (k := (l4 - (1 : Int32)).toNatClampNeg) (bo1_mem hR.1) rt_RcR_8394104114124134_0_99)).1; have := ((hS_V.rdSa (k := (l4 - (1 : Int32)).toNatClampNeg) (bo1_mem hR.1) rt_RcR_8394104114124134_0_99)).2; have := cb; have := an_0; have := an_1; have := an_2; have := an_3; have : (1 : Int32).toInt = 1 := rfl; omega) (by have := (r_l3).1; have := (r_l3).2; have := (r_l4).1; have := (r_l4).2; have := (r_l5).1; have := (r_l5).2; have := (r_l6).1; have := (r_l6).2; have := (r_l7).1; have := (r_l7).2; have := (r_l8).1; have := (r_l8).2; have := (f_3).1; have := (f_3).2; have := congrArg Int32.toInt q_2; have := ((rg_add r_l9 (rg_c (x := (1 : Int32)) (n := 1) rfl) (by decide) (by decide))).1; have := ((rg_add r_l9 (rg_c (x := (1 : Int32)) (n := 1) rfl) (by decide) (by decide))).2; have := rg_tia r_l9 (rg_c (x := (1 : Int32)) (n := 1) rfl) (by decide) (by decide); have := (r_l9).1; have := (r_l9).2; have := ((hS_V.rdSa (k := l4.toNatClampNeg) (bo1_mem hR.1) rt_RcR_8394104114124134_0_99)).1; have := ((hS_V.rdSa (k := l4.toNatClampNeg) (bo1_mem hR.1) rt_RcR_8394104114124134_0_99)).2; have := ((hS_V.rdSa (k := (l4 - (1 : Int32)).toNatClampNeg) (bo1_mem hR.1) rt_RcR_8394104114124134_0_99)).1; have := ((hS_V.rdSa (k := (l4 - (1 : Int32)).toNatClampNeg) (bo1_mem hR.1) rt_RcR_8394104114124134_0_99)).2; have := cb; have := an_0; have := an_1; have := an_2; have := an_3; have : (1 : Int32).toInt = 1 := rfl; omega) (cnt_u0 q_2 r_l9 (by decide) hc_k61) hc_k3
theorem s_B_X5_fillUntouched_127_R {G : sv_V} {N : Nat} (hN : 8589934592 ≤ N) {bo bm : Nat} (hR : RefsOf G bo bm) {k3 : Nat → Nat → Int32 → Int32 → sv_V → Option sv_V} {c_k3 : Int} (hk_k3 : ∀ (l1 : Nat) (l2 : Nat) (l3 : Int32) (l4 : Int32) (V : sv_V), SIx T_cR G V → l1 ∈ [88, 89, 99, 100, 109, 110, 119, 120, 129, 130, 139, 140] → l2 ∈ [86, 87, 97, 98, 107, 108, 117, 118, 127, 128, 137, 138] → rg l3 (1) (2) → rg l4 (0) (20) → OA bo l1 → OA bo l2 → c_k3 < l4.toInt → Sg (SIx T_cR G) (k3 l1 l2 l3 l4 V)) {l1 : Nat} {l2 : Nat} {l3 : Int32} {l4 : Int32} {V : sv_V} (hS_V : SIx T_cR G V) (m_l1 : l1 ∈ [88, 89, 99, 100, 109, 110, 119, 120, 129, 130, 139, 140]) (m_l2 : l2 ∈ [86, 87, 97, 98, 107, 108, 117, 118, 127, 128, 137, 138]) (r_l3 : rg l3 (1) (2)) (r_l4 : rg l4 (0) (19)) (cp_l3_bo : l3.toInt < cap bo) (cp_l4_bo : l4.toInt < cap bo) (cb : (100 : Int) ≤ cap bo) (oa_l1 : OA bo l1) (oa_l2 : OA bo l2) (hc_k3 : c_k3 ≤ l4.toInt) : Sg (SIx T_cR G) (B_X5_fillUntouched_127 N k3 l1 l2 l3 l4 V) := by
  unfold B_X5_fillUntouched_127
  exact
    sf_let fun x_1 q_2 =>
    have f_3 := rg_eq q_2 (rg_add r_l4 (rg_c (x := (1 : Int32)) (n := 1) rfl) (by decide) (by decide))
    hk_k3 _ _ _ _ _ hS_V m_l1 m_l2 r_l3 (rg_m f_3 (by decide) (by decide)) oa_l1 oa_l2 (cnt_u0 q_2 r_l4 (by decide) hc_k3)
theorem s_B_X5_fillUntouched_61_R {G : sv_V} {N : Nat} (hN : 8589934592 ≤ N) {bo bm : Nat} (hR : RefsOf G bo bm) {k3 : Nat → Nat → Int32 → Int32 → sv_V → Option sv_V} {k61 : Nat → Nat → Int32 → Int32 → Int32 → Int32 → Int32 → Int32 → Int32 → sv_V → Option sv_V} {c_k3 : Int} (hk_k3 : ∀ (l1 : Nat) (l2 : Nat) (l3 : Int32) (l4 : Int32) (V : sv_V), SIx T_cR G V → l1 ∈ [88, 89, 99, 100, 109, 110, 119, 120, 129, 130, 139, 140] → l2 ∈ [86, 87, 97, 98, 107, 108, 117, 118, 127, 128, 137, 138] → rg l3 (1) (2) → rg l4 (0) (20) → OA bo l1 → OA bo l2 → c_k3 < l4.toInt → Sg (SIx T_cR G) (k3 l1 l2 l3 l4 V)) {c_k61 : Int} (hk_k61 : ∀ (l1 : Nat) (l2 : Nat) (l3 : Int32) (l4 : Int32) (l5 : Int32) (l6 : Int32) (l7 : Int32) (l8 : Int32) (l9 : Int32) (V : sv_V), SIx T_cR G V → l1 ∈ [88, 89, 99, 100, 109, 110, 119, 120, 129, 130, 139, 140] → l2 ∈ [86, 87, 97, 98, 107, 108, 117, 118, 127, 128, 137, 138] → rg l3 (1) (2) → rg l4 (0) (19) → rg l5 (0) (100) → rg l6 (-99) (100) → rg l7 (-1) (199) → rg l8 (-100) (199) → rg l9 (1) (101) → l3.toInt < cap bo → l4.toInt < cap bo → l5.toInt < cap bo → l6.toInt < cap bo → (100 : Int) ≤ cap bo → OA bo l1 → OA bo l2 → l5.toInt + l6.toInt = (V.1 (bo + 1) l4.toNatClampNeg).toInt + 1 → l8.toInt < l5.toInt + l6.toInt → l7.toInt = -1 ∨ 0 ≤ l8.toInt → (l4.toInt = 0 ∧ l5.toInt = 0) ∨ (0 < l4.toInt ∧ l5.toInt = (V.1 (bo + 1) (l4 - (1 : Int32)).toNatClampNeg).toInt + 1) → c_k61 < l9.toInt → c_k3 ≤ l4.toInt → Sg (SIx T_cR G) (k61 l1 l2 l3 l4 l5 l6 l7 l8 l9 V)) {l1 : Nat} {l2 : Nat} {l3 : Int32} {l4 : Int32} {l5 : Int32} {l6 : Int32} {l7 : Int32} {l8 : Int32} {l9 : Int32} {V : sv_V} (hS_V : SIx T_cR G V) (m_l1 : l1 ∈ [88, 89, 99, 100, 109, 110, 119, 120, 129, 130, 139, 140]) (m_l2 : l2 ∈ [86, 87, 97, 98, 107, 108, 117, 118, 127, 128, 137, 138]) (r_l3 : rg l3 (1) (2)) (r_l4 : rg l4 (0) (19)) (r_l5 : rg l5 (0) (100)) (r_l6 : rg l6 (-99) (100)) (r_l7 : rg l7 (-1) (199)) (r_l8 : rg l8 (-100) (199)) (r_l9 : rg l9 (1) (101)) (cp_l3_bo : l3.toInt < cap bo) (cp_l4_bo : l4.toInt < cap bo) (cp_l5_bo : l5.toInt < cap bo) (cp_l6_bo : l6.toInt < cap bo) (cb : (100 : Int) ≤ cap bo) (oa_l1 : OA bo l1) (oa_l2 : OA bo l2) (an_0 : l5.toInt + l6.toInt = (V.1 (bo + 1) l4.toNatClampNeg).toInt + 1) (an_1 : l8.toInt < l5.toInt + l6.toInt) (an_2 : l7.toInt = -1 ∨ 0 ≤ l8.toInt) (an_3 : (l4.toInt = 0 ∧ l5.toInt = 0) ∨ (0 < l4.toInt ∧ l5.toInt = (V.1 (bo + 1) (l4 - (1 : Int32)).toNatClampNeg).toInt + 1)) (hc_k3 : c_k3 ≤ l4.toInt) (hc_k61 : c_k61 ≤ l9.toInt) : Sg (SIx T_cR G) (B_X5_fillUntouched_61 N k3 k61 l1 l2 l3 l4 l5 l6 l7 l8 l9 V) := by
  unfold B_X5_fillUntouched_61
  exact
    sf_ite (fun h_1 =>
    s_B_X5_fillUntouched_127_R hN hR hk_k3 hS_V m_l1 m_l2 r_l3 r_l4 cp_l3_bo cp_l4_bo cb oa_l1 oa_l2 hc_k3)
     (fun h_1 =>
    have f_3 := (rg_nel h_1 r_l7 (rg_c (x := (-1 : Int32)) (n := -1) rfl))
    sf_ite (fun h_4 =>
    s_B_X5_fillUntouched_127_R hN hR hk_k3 hS_V m_l1 m_l2 r_l3 r_l4 cp_l3_bo cp_l4_bo cb oa_l1 oa_l2 hc_k3)
     (fun h_4 =>
    have f_5 := (rg_hle (Int32.not_lt.mp h_4) r_l9 r_l6)
    have f_6 := (rg_lle (Int32.not_lt.mp h_4) r_l9 r_l6)
    sf_p (rg_nz1 f_6 (by decide)) <|
    sf_let fun x_7 q_8 =>
    have f_9 := rg_eq q_8 (rg_add r_l5 (rg_rem (x := ((l7 - l5) + l9)) (y := l6) (rg_add (rg_sub f_3 r_l5 (by decide) (by decide)) f_5 (by decide) (by decide)) f_6 (by decide)) (by decide) (by decide))
    sf_o (c := bo) (ref7 hS_V hR rfl) <|
    sf_p (lay_S hR.1 (by decide +kernel)) <|
    sf_crS (T := [90, 101, 111, 121, 131, 141]) hR.1 (by decide +kernel) fun b_10 m_12 q_11 =>
    sf_lenS (m := 0) m_12 (by decide +kernel) fun n_13 m_15 q_14 =>
    sf_p (in_cap2 (by have := (f_9).1; have := (f_9).2; have := congrArg Int32.toInt q_8; have := ((rg_add r_l5 (rg_rem (x := ((l7 - l5) + l9)) (y := l6) (rg_add (rg_sub f_3 r_l5 (by decide) (by decide)) f_5 (by decide) (by decide)) f_6 (by decide)) (by decide) (by decide))).1; have := ((rg_add r_l5 (rg_rem (x := ((l7 - l5) + l9)) (y := l6) (rg_add (rg_sub f_3 r_l5 (by decide) (by decide)) f_5 (by decide) (by decide)) f_6 (by decide)) (by decide) (by decide))).2; have := rg_tia r_l5 (rg_rem (x := ((l7 - l5) + l9)) (y := l6) (rg_add (rg_sub f_3 r_l5 (by decide) (by decide)) f_5 (by decide) (by decide)) f_6 (by decide)) (by decide) (by decide); have := (r_l5).1; have := (r_l5).2; have := ((rg_rem (x := ((l7 - l5) + l9)) (y := l6) (rg_add (rg_sub f_3 r_l5 (by decide) (by decide)) f_5 (by decide) (by decide)) f_6 (by decide))).1; have := ((rg_rem (x := ((l7 - l5) + l9)) (y := l6) (rg_add (rg_sub f_3 r_l5 (by decide) (by decide)) f_5 (by decide) (by decide)) f_6 (by decide))).2; have := rg_remb (rg_add (rg_sub f_3 r_l5 (by decide) (by decide)) f_5 (by decide) (by decide)) f_6 (by decide); have := ((rg_add (rg_sub f_3 r_l5 (by decide) (by decide)) f_5 (by decide) (by decide))).1; have := ((rg_add (rg_sub f_3 r_l5 (by decide) (by decide)) f_5 (by decide) (by decide))).2; have := rg_tia (rg_sub f_3 r_l5 (by decide) (by decide)) f_5 (by decide) (by decide); have := ((rg_sub f_3 r_l5 (by decide) (by decide))).1; have := ((rg_sub f_3 r_l5 (by decide) (by decide))).2; have := rg_tis f_3 r_l5 (by decide) (by decide); have := (f_3).1; have := (f_3).2; have := (f_5).1; have := (f_5).2; have := (f_6).1; have := (f_6).2; have := ne_ti h_1; have := Int32.le_iff_toInt_le.mp (Int32.not_lt.mp h_4); have := (r_l3).1; have := (r_l3).2; have := (r_l4).1; have := (r_l4).2; have := (r_l8).1; have := (r_l8).2; have := cb; have := ((hS_V.rdSa (k := l4.toNatClampNeg) (bo1_mem hR.1) rt_RcR_8394104114124134_0_99)).1; have := ((hS_V.rdSa (k := l4.toNatClampNeg) (bo1_mem hR.1) rt_RcR_8394104114124134_0_99)).2; have := an_0; have := an_1; have := an_2; have := ((hS_V.rdSa (k := (l4 - (1 : Int32)).toNatClampNeg) (bo1_mem hR.1) rt_RcR_8394104114124134_0_99)).1; have := ((hS_V.rdSa (k := (l4 - (1 : Int32)).toNatClampNeg) (bo1_mem hR.1) rt_RcR_8394104114124134_0_99)).2; have := an_3; have : (-1 : Int32).toInt = -1 := rfl; omega) (by have := (f_9).1; have := (f_9).2; have := congrArg Int32.toInt q_8; have := ((rg_add r_l5 (rg_rem (x := ((l7 - l5) + l9)) (y := l6) (rg_add (rg_sub f_3 r_l5 (by decide) (by decide)) f_5 (by decide) (by decide)) f_6 (by decide)) (by decide) (by decide))).1; have := ((rg_add r_l5 (rg_rem (x := ((l7 - l5) + l9)) (y := l6) (rg_add (rg_sub f_3 r_l5 (by decide) (by decide)) f_5 (by decide) (by decide)) f_6 (by decide)) (by decide) (by decide))).2; have := rg_tia r_l5 (rg_rem (x := ((l7 - l5) + l9)) (y := l6) (rg_add (rg_sub f_3 r_l5 (by decide) (by decide)) f_5 (by decide) (by decide)) f_6 (by decide)) (by decide) (by decide); have := (r_l5).1; have := (r_l5).2; have := ((rg_rem (x := ((l7 - l5) + l9)) (y := l6) (rg_add (rg_sub f_3 r_l5 (by decide) (by decide)) f_5 (by decide) (by decide)) f_6 (by decide))).1; have := ((rg_rem (x := ((l7 - l5) + l9)) (y := l6) (rg_add (rg_sub f_3 r_l5 (by decide) (by decide)) f_5 (by decide) (by decide)) f_6 (by decide))).2; have := rg_remb (rg_add (rg_sub f_3 r_l5 (by decide) (by decide)) f_5 (by decide) (by decide)) f_6 (by decide); have := ((rg_add (rg_sub f_3 r_l5 (by decide) (by decide)) f_5 (by decide) (by decide))).1; have := ((rg_add (rg_sub f_3 r_l5 (by decide) (by decide)) f_5 (by decide) (by decide))).2; have := rg_tia (rg_sub f_3 r_l5 (by decide) (by decide)) f_5 (by decide) (by decide); have := ((rg_sub f_3 r_l5 (by decide) (by decide))).1; have := ((rg_sub f_3 r_l5 (by decide) (by decide))).2; have := rg_tis f_3 r_l5 (by decide) (by decide); have := (f_3).1; have := (f_3).2; have := (f_5).1; have := (f_5).2; have := (f_6).1; have := (f_6).2; have := ne_ti h_1; have := Int32.le_iff_toInt_le.mp (Int32.not_lt.mp h_4); have := (r_l3).1; have := (r_l3).2; have := (r_l4).1; have := (r_l4).2; have := (r_l8).1; have := (r_l8).2; have := cb; have := ((hS_V.rdSa (k := l4.toNatClampNeg) (bo1_mem hR.1) rt_RcR_8394104114124134_0_99)).1; have := ((hS_V.rdSa (k := l4.toNatClampNeg) (bo1_mem hR.1) rt_RcR_8394104114124134_0_99)).2; have := an_0; have := an_1; have := an_2; have := ((hS_V.rdSa (k := (l4 - (1 : Int32)).toNatClampNeg) (bo1_mem hR.1) rt_RcR_8394104114124134_0_99)).1; have := ((hS_V.rdSa (k := (l4 - (1 : Int32)).toNatClampNeg) (bo1_mem hR.1) rt_RcR_8394104114124134_0_99)).2; have := an_3; have : (-1 : Int32).toInt = -1 := rfl; omega) (cap_len (mem_of hR.1 (by decide)) q_11 q_14 (by decide))) <|
    sf_ite (fun h_16 =>
    have f_17 := (rg_eq h_16 (rg_c (x := (0 : Int32)) (n := 0) rfl))
    s_B_X5_fillUntouched_121_R hN hR hk_k3 hk_k61 hS_V m_l1 m_l2 r_l3 r_l4 r_l5 (rg_m f_6 (by decide) (by decide)) (rg_m f_3 (by decide) (by decide)) r_l8 (rg_m f_5 (by decide) (by decide)) cp_l3_bo cp_l4_bo cp_l5_bo cp_l6_bo (cap_le (Int32.not_lt.mp h_4) cp_l6_bo) cb oa_l1 oa_l2 (by have := (r_l3).1; have := (r_l3).2; have := (r_l4).1; have := (r_l4).2; have := (r_l5).1; have := (r_l5).2; have := (f_6).1; have := (f_6).2; have := (f_3).1; have := (f_3).2; have := (r_l8).1; have := (r_l8).2; have := (f_5).1; have := (f_5).2; have := ((hS_V.rdSa (k := l4.toNatClampNeg) (bo1_mem hR.1) rt_RcR_8394104114124134_0_99)).1; have := ((hS_V.rdSa (k := l4.toNatClampNeg) (bo1_mem hR.1) rt_RcR_8394104114124134_0_99)).2; have := ((hS_V.rdSa (k := (l4 - (1 : Int32)).toNatClampNeg) (bo1_mem hR.1) rt_RcR_8394104114124134_0_99)).1; have := ((hS_V.rdSa (k := (l4 - (1 : Int32)).toNatClampNeg) (bo1_mem hR.1) rt_RcR_8394104114124134_0_99)).2; have := ne_ti h_1; have := Int32.le_iff_toInt_le.mp (Int32.not_lt.mp h_4); have := congrArg Int32.toInt h_16; have := (f_17).1; have := (f_17).2; have := cb; have := an_0; have := an_1; have := an_2; have := an_3; have : (-1 : Int32).toInt = -1 := rfl; have : (0 : Int32).toInt = 0 := rfl; omega) (by have := (r_l3).1; have := (r_l3).2; have := (r_l4).1; have := (r_l4).2; have := (r_l5).1; have := (r_l5).2; have := (f_6).1; have := (f_6).2; have := (f_3).1; have := (f_3).2; have := (r_l8).1; have := (r_l8).2; have := (f_5).1; have := (f_5).2; have := ((hS_V.rdSa (k := l4.toNatClampNeg) (bo1_mem hR.1) rt_RcR_8394104114124134_0_99)).1; have := ((hS_V.rdSa (k := l4.toNatClampNeg) (bo1_mem hR.1) rt_RcR_8394104114124134_0_99)).2; have := ((hS_V.rdSa (k := (l4 - (1 : Int32)).toNatClampNeg) (bo1_mem hR.1) rt_RcR_8394104114124134_0_99)).1; have := ((hS_V.rdSa (k := (l4 - (1 : Int32)).toNatClampNeg) (bo1_mem hR.1) rt_RcR_8394104114124134_0_99)).2; have := ne_ti h_1; have := Int32.le_iff_toInt_le.mp (Int32.not_lt.mp h_4); have := congrArg Int32.toInt h_16; have := (f_17).1; have := (f_17).2; have := cb; have := an_0; have := an_1; have := an_2; have := an_3; have : (-1 : Int32).toInt = -1 := rfl; have : (0 : Int32).toInt = 0 := rfl; omega) (by have := (r_l3).1; have := (r_l3).2; have := (r_l4).1; have := (r_l4).2; have := (r_l5).1; have := (r_l5).2; have := (f_6).1; have := (f_6).2; have := (f_3).1; have := (f_3).2; have := (r_l8).1; have := (r_l8).2; have := (f_5).1; have := (f_5).2; have := ((hS_V.rdSa (k := l4.toNatClampNeg) (bo1_mem hR.1) rt_RcR_8394104114124134_0_99)).1; have := ((hS_V.rdSa (k := l4.toNatClampNeg) (bo1_mem hR.1) rt_RcR_8394104114124134_0_99)).2; have := ((hS_V.rdSa (k := (l4 - (1 : Int32)).toNatClampNeg) (bo1_mem hR.1) rt_RcR_8394104114124134_0_99)).1; have := ((hS_V.rdSa (k := (l4 - (1 : Int32)).toNatClampNeg) (bo1_mem hR.1) rt_RcR_8394104114124134_0_99)).2; have := ne_ti h_1; have := Int32.le_iff_toInt_le.mp (Int32.not_lt.mp h_4); have := congrArg Int32.toInt h_16; have := (f_17).1; have := (f_17).2; have := cb; have := an_0; have := an_1; have := an_2; have := an_3; have : (-1 : Int32).toInt = -1 := rfl; have : (0 : Int32).toInt = 0 := rfl; omega) (by have := (r_l3).1; have := (r_l3).2; have := (r_l4).1; have := (r_l4).2; have := (r_l5).1; have := (r_l5).2; have := (f_6).1; have := (f_6).2; have := (f_3).1; have := (f_3).2; have := (r_l8).1; have := (r_l8).2; have := (f_5).1; have := (f_5).2; have := ((hS_V.rdSa (k := l4.toNatClampNeg) (bo1_mem hR.1) rt_RcR_8394104114124134_0_99)).1; have := ((hS_V.rdSa (k := l4.toNatClampNeg) (bo1_mem hR.1) rt_RcR_8394104114124134_0_99)).2; have := ((hS_V.rdSa (k := (l4 - (1 : Int32)).toNatClampNeg) (bo1_mem hR.1) rt_RcR_8394104114124134_0_99)).1; have := ((hS_V.rdSa (k := (l4 - (1 : Int32)).toNatClampNeg) (bo1_mem hR.1) rt_RcR_8394104114124134_0_99)).2; have := ne_ti h_1; have := Int32.le_iff_toInt_le.mp (Int32.not_lt.mp h_4); have := congrArg Int32.toInt h_16; have := (f_17).1; have := (f_17).2; have := cb; have := an_0; have := an_1; have := an_2; have := an_3; have : (-1 : Int32).toInt = -1 := rfl; have : (0 : Int32).toInt = 0 := rfl; omega) hc_k3 hc_k61)
     (fun h_16 =>
    have f_18 := (rg_nel h_16 (rg_andr r_l3 (by decide)) (rg_c (x := (0 : Int32)) (n := 0) rfl))
    sf_eV (s_F_X5_fillBetween_R hN hR hS_V m_l1 m_l2 r_l8 (rg_m f_9 (by decide) (by decide)) r_l4 cp_l4_bo cb oa_l1 oa_l2 (by have := (r_l8).1; have := (r_l8).2; have := (f_9).1; have := (f_9).2; have := congrArg Int32.toInt q_8; have := ((rg_add r_l5 (rg_rem (x := ((l7 - l5) + l9)) (y := l6) (rg_add (rg_sub f_3 r_l5 (by decide) (by decide)) f_5 (by decide) (by decide)) f_6 (by decide)) (by decide) (by decide))).1; have := ((rg_add r_l5 (rg_rem (x := ((l7 - l5) + l9)) (y := l6) (rg_add (rg_sub f_3 r_l5 (by decide) (by decide)) f_5 (by decide) (by decide)) f_6 (by decide)) (by decide) (by decide))).2; have := rg_tia r_l5 (rg_rem (x := ((l7 - l5) + l9)) (y := l6) (rg_add (rg_sub f_3 r_l5 (by decide) (by decide)) f_5 (by decide) (by decide)) f_6 (by decide)) (by decide) (by decide); have := (r_l5).1; have := (r_l5).2; have := ((rg_rem (x := ((l7 - l5) + l9)) (y := l6) (rg_add (rg_sub f_3 r_l5 (by decide) (by decide)) f_5 (by decide) (by decide)) f_6 (by decide))).1; have := ((rg_rem (x := ((l7 - l5) + l9)) (y := l6) (rg_add (rg_sub f_3 r_l5 (by decide) (by decide)) f_5 (by decide) (by decide)) f_6 (by decide))).2; have := rg_remb (rg_add (rg_sub f_3 r_l5 (by decide) (by decide)) f_5 (by decide) (by decide)) f_6 (by decide); have := ((rg_add (rg_sub f_3 r_l5 (by decide) (by decide)) f_5 (by decide) (by decide))).1; have := ((rg_add (rg_sub f_3 r_l5 (by decide) (by decide)) f_5 (by decide) (by decide))).2; have := rg_tia (rg_sub f_3 r_l5 (by decide) (by decide)) f_5 (by decide) (by decide); have := ((rg_sub f_3 r_l5 (by decide) (by decide))).1; have := ((rg_sub f_3 r_l5 (by decide) (by decide))).2; have := rg_tis f_3 r_l5 (by decide) (by decide); have := (f_3).1; have := (f_3).2; have := (f_5).1; have := (f_5).2; have := (f_6).1; have := (f_6).2; have := (r_l4).1; have := (r_l4).2; have := ((hS_V.rdSa (k := l4.toNatClampNeg) (bo1_mem hR.1) rt_RcR_8394104114124134_0_99)).1; have := ((hS_V.rdSa (k := l4.toNatClampNeg) (bo1_mem hR.1) rt_RcR_8394104114124134_0_99)).2; have := ((hS_V.rdSa (k := (l4 - (1 : Int32)).toNatClampNeg) (bo1_mem hR.1) rt_RcR_8394104114124134_0_99)).1; have := ((hS_V.rdSa (k := (l4 - (1 : Int32)).toNatClampNeg) (bo1_mem hR.1) rt_RcR_8394104114124134_0_99)).2; have := ne_ti h_1; have := Int32.le_iff_toInt_le.mp (Int32.not_lt.mp h_4); have := ne_ti h_16; have := (f_18).1; have := (f_18).2; have := (r_l3).1; have := (r_l3).2; have := cb; have := an_0; have := an_1; have := an_2; have := an_3; have : (-1 : Int32).toInt = -1 := rfl; have : (0 : Int32).toInt = 0 := rfl; omega) (by have := (r_l8).1; have := (r_l8).2; have := (f_9).1; have := (f_9).2; have := congrArg Int32.toInt q_8; have := ((rg_add r_l5 (rg_rem (x := ((l7 - l5) + l9)) (y := l6) (rg_add (rg_sub f_3 r_l5 (by decide) (by decide)) f_5 (by decide) (by decide)) f_6 (by decide)) (by decide) (by decide))).1; have := ((rg_add r_l5 (rg_rem (x := ((l7 - l5) + l9)) (y := l6) (rg_add (rg_sub f_3 r_l5 (by decide) (by decide)) f_5 (by decide) (by decide)) f_6 (by decide)) (by decide) (by decide))).2; have := rg_tia r_l5 (rg_rem (x := ((l7 - l5) + l9)) (y := l6) (rg_add (rg_sub f_3 r_l5 (by decide) (by decide)) f_5 (by decide) (by decide)) f_6 (by decide)) (by decide) (by decide); have := (r_l5).1; have := (r_l5).2; have := ((rg_rem (x := ((l7 - l5) + l9)) (y := l6) (rg_add (rg_sub f_3 r_l5 (by decide) (by decide)) f_5 (by decide) (by decide)) f_6 (by decide))).1; have := ((rg_rem (x := ((l7 - l5) + l9)) (y := l6) (rg_add (rg_sub f_3 r_l5 (by decide) (by decide)) f_5 (by decide) (by decide)) f_6 (by decide))).2; have := rg_remb (rg_add (rg_sub f_3 r_l5 (by decide) (by decide)) f_5 (by decide) (by decide)) f_6 (by decide); have := ((rg_add (rg_sub f_3 r_l5 (by decide) (by decide)) f_5 (by decide) (by decide))).1; have := ((rg_add (rg_sub f_3 r_l5 (by decide) (by decide)) f_5 (by decide) (by decide))).2; have := rg_tia (rg_sub f_3 r_l5 (by decide) (by decide)) f_5 (by decide) (by decide); have := ((rg_sub f_3 r_l5 (by decide) (by decide))).1; have := ((rg_sub f_3 r_l5 (by decide) (by decide))).2; have := rg_tis f_3 r_l5 (by decide) (by decide); have := (f_3).1; have := (f_3).2; have := (f_5).1; have := (f_5).2; have := (f_6).1; have := (f_6).2; have := (r_l4).1; have := (r_l4).2; have := ((hS_V.rdSa (k := l4.toNatClampNeg) (bo1_mem hR.1) rt_RcR_8394104114124134_0_99)).1; have := ((hS_V.rdSa (k := l4.toNatClampNeg) (bo1_mem hR.1) rt_RcR_8394104114124134_0_99)).2; have := ((hS_V.rdSa (k := (l4 - (1 : Int32)).toNatClampNeg) (bo1_mem hR.1) rt_RcR_8394104114124134_0_99)).1; have := ((hS_V.rdSa (k := (l4 - (1 : Int32)).toNatClampNeg) (bo1_mem hR.1) rt_RcR_8394104114124134_0_99)).2; have := ne_ti h_1; have := Int32.le_iff_toInt_le.mp (Int32.not_lt.mp h_4); have := ne_ti h_16; have := (f_18).1; have := (f_18).2; have := (r_l3).1; have := (r_l3).2; have := cb; have := an_0; have := an_1; have := an_2; have := an_3; have : (-1 : Int32).toInt = -1 := rfl; have : (0 : Int32).toInt = 0 := rfl; omega) (by have := (r_l8).1; have := (r_l8).2; have := (f_9).1; have := (f_9).2; have := congrArg Int32.toInt q_8; have := ((rg_add r_l5 (rg_rem (x := ((l7 - l5) + l9)) (y := l6) (rg_add (rg_sub f_3 r_l5 (by decide) (by decide)) f_5 (by decide) (by decide)) f_6 (by decide)) (by decide) (by decide))).1; have := ((rg_add r_l5 (rg_rem (x := ((l7 - l5) + l9)) (y := l6) (rg_add (rg_sub f_3 r_l5 (by decide) (by decide)) f_5 (by decide) (by decide)) f_6 (by decide)) (by decide) (by decide))).2; have := rg_tia r_l5 (rg_rem (x := ((l7 - l5) + l9)) (y := l6) (rg_add (rg_sub f_3 r_l5 (by decide) (by decide)) f_5 (by decide) (by decide)) f_6 (by decide)) (by decide) (by decide); have := (r_l5).1; have := (r_l5).2; have := ((rg_rem (x := ((l7 - l5) + l9)) (y := l6) (rg_add (rg_sub f_3 r_l5 (by decide) (by decide)) f_5 (by decide) (by decide)) f_6 (by decide))).1; have := ((rg_rem (x := ((l7 - l5) + l9)) (y := l6) (rg_add (rg_sub f_3 r_l5 (by decide) (by decide)) f_5 (by decide) (by decide)) f_6 (by decide))).2; have := rg_remb (rg_add (rg_sub f_3 r_l5 (by decide) (by decide)) f_5 (by decide) (by decide)) f_6 (by decide); have := ((rg_add (rg_sub f_3 r_l5 (by decide) (by decide)) f_5 (by decide) (by decide))).1; have := ((rg_add (rg_sub f_3 r_l5 (by decide) (by decide)) f_5 (by decide) (by decide))).2; have := rg_tia (rg_sub f_3 r_l5 (by decide) (by decide)) f_5 (by decide) (by decide); have := ((rg_sub f_3 r_l5 (by decide) (by decide))).1; have := ((rg_sub f_3 r_l5 (by decide) (by decide))).2; have := rg_tis f_3 r_l5 (by decide) (by decide); have := (f_3).1; have := (f_3).2; have := (f_5).1; have := (f_5).2; have := (f_6).1; have := (f_6).2; have := (r_l4).1; have := (r_l4).2; have := ((hS_V.rdSa (k := l4.toNatClampNeg) (bo1_mem hR.1) rt_RcR_8394104114124134_0_99)).1; have := ((hS_V.rdSa (k := l4.toNatClampNeg) (bo1_mem hR.1) rt_RcR_8394104114124134_0_99)).2; have := ((hS_V.rdSa (k := (l4 - (1 : Int32)).toNatClampNeg) (bo1_mem hR.1) rt_RcR_8394104114124134_0_99)).1; have := ((hS_V.rdSa (k := (l4 - (1 : Int32)).toNatClampNeg) (bo1_mem hR.1) rt_RcR_8394104114124134_0_99)).2; have := ne_ti h_1; have := Int32.le_iff_toInt_le.mp (Int32.not_lt.mp h_4); have := ne_ti h_16; have := (f_18).1; have := (f_18).2; have := (r_l3).1; have := (r_l3).2; have := cb; have := an_0; have := an_1; have := an_2; have := an_3; have : (-1 : Int32).toInt = -1 := rfl; have : (0 : Int32).toInt = 0 := rfl; omega) (by have := (r_l8).1; have := (r_l8).2; have := (f_9).1; have := (f_9).2; have := congrArg Int32.toInt q_8; have := ((rg_add r_l5 (rg_rem (x := ((l7 - l5) + l9)) (y := l6) (rg_add (rg_sub f_3 r_l5 (by decide) (by decide)) f_5 (by decide) (by decide)) f_6 (by decide)) (by decide) (by decide))).1; have := ((rg_add r_l5 (rg_rem (x := ((l7 - l5) + l9)) (y := l6) (rg_add (rg_sub f_3 r_l5 (by decide) (by decide)) f_5 (by decide) (by decide)) f_6 (by decide)) (by decide) (by decide))).2; have := rg_tia r_l5 (rg_rem (x := ((l7 - l5) + l9)) (y := l6) (rg_add (rg_sub f_3 r_l5 (by decide) (by decide)) f_5 (by decide) (by decide)) f_6 (by decide)) (by decide) (by decide); have := (r_l5).1; have := (r_l5).2; have := ((rg_rem (x := ((l7 - l5) + l9)) (y := l6) (rg_add (rg_sub f_3 r_l5 (by decide) (by decide)) f_5 (by decide) (by decide)) f_6 (by decide))).1; have := ((rg_rem (x := ((l7 - l5) + l9)) (y := l6) (rg_add (rg_sub f_3 r_l5 (by decide) (by decide)) f_5 (by decide) (by decide)) f_6 (by decide))).2; have := rg_remb (rg_add (rg_sub f_3 r_l5 (by decide) (by decide)) f_5 (by decide) (by decide)) f_6 (by decide); have := ((rg_add (rg_sub f_3 r_l5 (by decide) (by decide)) f_5 (by decide) (by decide))).1; have := ((rg_add (rg_sub f_3 r_l5 (by decide) (by decide)) f_5 (by decide) (by decide))).2; have := rg_tia (rg_sub f_3 r_l5 (by decide) (by decide)) f_5 (by decide) (by decide); have := ((rg_sub f_3 r_l5 (by decide) (by decide))).1; have := ((rg_sub f_3 r_l5 (by decide) (by decide))).2; have := rg_tis f_3 r_l5 (by decide) (by decide); have := (f_3).1; have := (f_3).2; have := (f_5).1; have := (f_5).2; have := (f_6).1; have := (f_6).2; have := (r_l4).1; have := (r_l4).2; have := ((hS_V.rdSa (k := l4.toNatClampNeg) (bo1_mem hR.1) rt_RcR_8394104114124134_0_99)).1; have := ((hS_V.rdSa (k := l4.toNatClampNeg) (bo1_mem hR.1) rt_RcR_8394104114124134_0_99)).2; have := ((hS_V.rdSa (k := (l4 - (1 : Int32)).toNatClampNeg) (bo1_mem hR.1) rt_RcR_8394104114124134_0_99)).1; have := ((hS_V.rdSa (k := (l4 - (1 : Int32)).toNatClampNeg) (bo1_mem hR.1) rt_RcR_8394104114124134_0_99)).2; have := ne_ti h_1; have := Int32.le_iff_toInt_le.mp (Int32.not_lt.mp h_4); have := ne_ti h_16; have := (f_18).1; have := (f_18).2; have := (r_l3).1; have := (r_l3).2; have := cb; have := an_0; have := an_1; have := an_2; have := an_3; have : (-1 : Int32).toInt = -1 := rfl; have : (0 : Int32).toInt = 0 := rfl; omega) (by have := (r_l8).1; have := (r_l8).2; have := (f_9).1; have := (f_9).2; have := congrArg Int32.toInt q_8; have := ((rg_add r_l5 (rg_rem (x := ((l7 - l5) + l9)) (y := l6) (rg_add (rg_sub f_3 r_l5 (by decide) (by decide)) f_5 (by decide) (by decide)) f_6 (by decide)) (by decide) (by decide))).1; have := ((rg_add r_l5 (rg_rem (x := ((l7 - l5) + l9)) (y := l6) (rg_add (rg_sub f_3 r_l5 (by decide) (by decide)) f_5 (by decide) (by decide)) f_6 (by decide)) (by decide) (by decide))).2; have := rg_tia r_l5 (rg_rem (x := ((l7 - l5) + l9)) (y := l6) (rg_add (rg_sub f_3 r_l5 (by decide) (by decide)) f_5 (by decide) (by decide)) f_6 (by decide)) (by decide) (by decide); have := (r_l5).1; have := (r_l5).2; have := ((rg_rem (x := ((l7 - l5) + l9)) (y := l6) (rg_add (rg_sub f_3 r_l5 (by decide) (by decide)) f_5 (by decide) (by decide)) f_6 (by decide))).1; have := ((rg_rem (x := ((l7 - l5) + l9)) (y := l6) (rg_add (rg_sub f_3 r_l5 (by decide) (by decide)) f_5 (by decide) (by decide)) f_6 (by decide))).2; have := rg_remb (rg_add (rg_sub f_3 r_l5 (by decide) (by decide)) f_5 (by decide) (by decide)) f_6 (by decide); have := ((rg_add (rg_sub f_3 r_l5 (by decide) (by decide)) f_5 (by decide) (by decide))).1; have := ((rg_add (rg_sub f_3 r_l5 (by decide) (by decide)) f_5 (by decide) (by decide))).2; have := rg_tia (rg_sub f_3 r_l5 (by decide) (by decide)) f_5 (by decide) (by decide); have := ((rg_sub f_3 r_l5 (by decide) (by decide))).1; have := ((rg_sub f_3 r_l5 (by decide) (by decide))).2; have := rg_tis f_3 r_l5 (by decide) (by decide); have := (f_3).1; have := (f_3).2; have := (f_5).1; have := (f_5).2; have := (f_6).1; have := (f_6).2; have := (r_l4).1; have := (r_l4).2; have := ((hS_V.rdSa (k := l4.toNatClampNeg) (bo1_mem hR.1) rt_RcR_8394104114124134_0_99)).1; have := ((hS_V.rdSa (k := l4.toNatClampNeg) (bo1_mem hR.1) rt_RcR_8394104114124134_0_99)).2; have := ((hS_V.rdSa (k := (l4 - (1 : Int32)).toNatClampNeg) (bo1_mem hR.1) rt_RcR_8394104114124134_0_99)).1; have := ((hS_V.rdSa (k := (l4 - (1 : Int32)).toNatClampNeg) (bo1_mem hR.1) rt_RcR_8394104114124134_0_99)).2; have := ne_ti h_1; have := Int32.le_iff_toInt_le.mp (Int32.not_lt.mp h_4); have := ne_ti h_16; have := (f_18).1; have := (f_18).2; have := (r_l3).1; have := (r_l3).2; have := cb; have := an_0; have := an_1; have := an_2; have := an_3; have : (-1 : Int32).toInt = -1 := rfl; have : (0 : Int32).toInt = 0 := rfl; omega) (by have := (r_l8).1; have := (r_l8).2; have := (f_9).1; have := (f_9).2; have := congrArg Int32.toInt q_8; have := ((rg_add r_l5 (rg_rem (x := ((l7 - l5) + l9)) (y := l6) (rg_add (rg_sub f_3 r_l5 (by decide) (by decide)) f_5 (by decide) (by decide)) f_6 (by decide)) (by decide) (by decide))).1; have := ((rg_add r_l5 (rg_rem (x := ((l7 - l5) + l9)) (y := l6) (rg_add (rg_sub f_3 r_l5 (by decide) (by decide)) f_5 (by decide) (by decide)) f_6 (by decide)) (by decide) (by decide))).2; have := rg_tia r_l5 (rg_rem (x := ((l7 - l5) + l9)) (y := l6) (rg_add (rg_sub f_3 r_l5 (by decide) (by decide)) f_5 (by decide) (by decide)) f_6 (by decide)) (by decide) (by decide); have := (r_l5).1; have := (r_l5).2; have := ((rg_rem (x := ((l7 - l5) + l9)) (y := l6) (rg_add (rg_sub f_3 r_l5 (by decide) (by decide)) f_5 (by decide) (by decide)) f_6 (by decide))).1; have := ((rg_rem (x := ((l7 - l5) + l9)) (y := l6) (rg_add (rg_sub f_3 r_l5 (by decide) (by decide)) f_5 (by decide) (by decide)) f_6 (by decide))).2; have := rg_remb (rg_add (rg_sub f_3 r_l5 (by decide) (by decide)) f_5 (by decide) (by decide)) f_6 (by decide); have := ((rg_add (rg_sub f_3 r_l5 (by decide) (by decide)) f_5 (by decide) (by decide))).1; have := ((rg_add (rg_sub f_3 r_l5 (by decide) (by decide)) f_5 (by decide) (by decide))).2; have := rg_tia (rg_sub f_3 r_l5 (by decide) (by decide)) f_5 (by decide) (by decide); have := ((rg_sub f_3 r_l5 (by decide) (by decide))).1; have := ((rg_sub f_3 r_l5 (by decide) (by decide))).2; have := rg_tis f_3 r_l5 (by decide) (by decide); have := (f_3).1; have := (f_3).2; have := (f_5).1; have := (f_5).2; have := (f_6).1; have := (f_6).2; have := (r_l4).1; have := (r_l4).2; have := ((hS_V.rdSa (k := l4.toNatClampNeg) (bo1_mem hR.1) rt_RcR_8394104114124134_0_99)).1; have := ((hS_V.rdSa (k := l4.toNatClampNeg) (bo1_mem hR.1) rt_RcR_8394104114124134_0_99)).2; have := ((hS_V.rdSa (k := (l4 - (1 : Int32)).toNatClampNeg) (bo1_mem hR.1) rt_RcR_8394104114124134_0_99)).1; have := ((hS_V.rdSa (k := (l4 - (1 : Int32)).toNatClampNeg) (bo1_mem hR.1) rt_RcR_8394104114124134_0_99)).2; have := ne_ti h_1; have := Int32.le_iff_toInt_le.mp (Int32.not_lt.mp h_4); have := ne_ti h_16; have := (f_18).1; have := (f_18).2; have := (r_l3).1; have := (r_l3).2; have := cb; have := an_0; have := an_1; have := an_2; have := an_3; have : (-1 : Int32).toInt = -1 := rfl; have : (0 : Int32).toInt = 0 := rfl; omega)) fun V_19 e_20 hS_V_19 =>
    have f_21 := m_X5_fillBetween (Lm := [(86, none), (87, none), (97, none), (98, none), (107, none), (108, none), (117, none), (118, none), (127, none), (128, none), (137, none), (138, none)]) (sv_sub_rf.sub (by decide +kernel)) (fun k => hit_S (L := [86, 87, 97, 98, 107, 108, 117, 118, 127, 128, 137, 138]) m_l2 k rfl) e_20
    s_B_X5_fillUntouched_121_R hN hR hk_k3 hk_k61 hS_V_19 m_l1 m_l2 r_l3 r_l4 r_l5 (rg_m f_6 (by decide) (by decide)) (rg_m f_3 (by decide) (by decide)) (rg_m f_9 (by decide) (by decide)) (rg_m f_5 (by decide) (by decide)) cp_l3_bo cp_l4_bo cp_l5_bo cp_l6_bo (cap_le (Int32.not_lt.mp h_4) cp_l6_bo) cb oa_l1 oa_l2 (by have := (r_l3).1; have := (r_l3).2; have := (r_l4).1; have := (r_l4).2; have := (r_l5).1; have := (r_l5).2; have := (f_6).1; have := (f_6).2; have := (f_3).1; have := (f_3).2; have := (f_9).1; have := (f_9).2; have := congrArg Int32.toInt q_8; have := ((rg_add r_l5 (rg_rem (x := ((l7 - l5) + l9)) (y := l6) (rg_add (rg_sub f_3 r_l5 (by decide) (by decide)) f_5 (by decide) (by decide)) f_6 (by decide)) (by decide) (by decide))).1; have := ((rg_add r_l5 (rg_rem (x := ((l7 - l5) + l9)) (y := l6) (rg_add (rg_sub f_3 r_l5 (by decide) (by decide)) f_5 (by decide) (by decide)) f_6 (by decide)) (by decide) (by decide))).2; have := rg_tia r_l5 (rg_rem (x := ((l7 - l5) + l9)) (y := l6) (rg_add (rg_sub f_3 r_l5 (by decide) (by decide)) f_5 (by decide) (by decide)) f_6 (by decide)) (by decide) (by decide); have := ((rg_rem (x := ((l7 - l5) + l9)) (y := l6) (rg_add (rg_sub f_3 r_l5 (by decide) (by decide)) f_5 (by decide) (by decide)) f_6 (by decide))).1; have := ((rg_rem (x := ((l7 - l5) + l9)) (y := l6) (rg_add (rg_sub f_3 r_l5 (by decide) (by decide)) f_5 (by decide) (by decide)) f_6 (by decide))).2; have := rg_remb (rg_add (rg_sub f_3 r_l5 (by decide) (by decide)) f_5 (by decide) (by decide)) f_6 (by decide); have := ((rg_add (rg_sub f_3 r_l5 (by decide) (by decide)) f_5 (by decide) (by decide))).1; have := ((rg_add (rg_sub f_3 r_l5 (by decide) (by decide)) f_5 (by decide) (by decide))).2; have := rg_tia (rg_sub f_3 r_l5 (by decide) (by decide)) f_5 (by decide) (by decide); have := ((rg_sub f_3 r_l5 (by decide) (by decide))).1; have := ((rg_sub f_3 r_l5 (by decide) (by decide))).2; have := rg_tis f_3 r_l5 (by decide) (by decide); have := (f_5).1; have := (f_5).2; have := ((hS_V_19.rdSa (k := l4.toNatClampNeg) (bo1_mem hR.1) rt_RcR_8394104114124134_0_99)).1; have := ((hS_V_19.rdSa (k := l4.toNatClampNeg) (bo1_mem hR.1) rt_RcR_8394104114124134_0_99)).2; have := congrArg Int32.toInt (rd_frS (L := [83, 94, 104, 114, 124, 134]) (a := (bo + 1)) (k := l4.toNatClampNeg) f_21 (bo1_mem hR.1) rfl); have := ((hS_V.rdSa (k := l4.toNatClampNeg) (bo1_mem hR.1) rt_RcR_8394104114124134_0_99)).1; have := ((hS_V.rdSa (k := l4.toNatClampNeg) (bo1_mem hR.1) rt_RcR_8394104114124134_0_99)).2; have := ((hS_V_19.rdSa (k := (l4 - (1 : Int32)).toNatClampNeg) (bo1_mem hR.1) rt_RcR_8394104114124134_0_99)).1; have := ((hS_V_19.rdSa (k := (l4 - (1 : Int32)).toNatClampNeg) (bo1_mem hR.1) rt_RcR_8394104114124134_0_99)).2; have := congrArg Int32.toInt (rd_frS (L := [83, 94, 104, 114, 124, 134]) (a := (bo + 1)) (k := (l4 - (1 : Int32)).toNatClampNeg) f_21 (bo1_mem hR.1) rfl); have := ((hS_V.rdSa (k := (l4 - (1 : Int32)).toNatClampNeg) (bo1_mem hR.1) rt_RcR_8394104114124134_0_99)).1; have := ((hS_V.rdSa (k := (l4 - (1 : Int32)).toNatClampNeg) (bo1_mem hR.1) rt_RcR_8394104114124134_0_99)).2; have := ne_ti h_1; have := Int32.le_iff_toInt_le.mp (Int32.not_lt.mp h_4); have := ne_ti h_16; have := (f_18).1; have := (f_18).2; have := (r_l8).1; have := (r_l8).2; have := cb; have := an_0; have := an_1; have := an_2; have := an_3; have : (-1 : Int32).toInt = -1 := rfl; have : (0 : Int32).toInt = 0 := rfl; omega) (by have := (r_l3).1; have := (r_l3).2; have := (r_l4).1; have := (r_l4).2; have := (r_l5).1; have := (r_l5).2; have := (f_6).1; have := (f_6).2; have := (f_3).1; have := (f_3).2; have := (f_9).1; have := (f_9).2; have := congrArg Int32.toInt q_8; have := ((rg_add r_l5 (rg_rem (x := ((l7 - l5) + l9)) (y := l6) (rg_add (rg_sub f_3 r_l5 (by decide) (by decide)) f_5 (by decide) (by decide)) f_6 (by decide)) (by decide) (by decide))).1; have := ((rg_add r_l5 (rg_rem (x := ((l7 - l5) + l9)) (y := l6) (rg_add (rg_sub f_3 r_l5 (by decide) (by decide)) f_5 (by decide) (by decide)) f_6 (by decide)) (by decide) (by decide))).2; have := rg_tia r_l5 (rg_rem (x := ((l7 - l5) + l9)) (y := l6) (rg_add (rg_sub f_3 r_l5 (by decide) (by decide)) f_5 (by decide) (by decide)) f_6 (by decide)) (by decide) (by decide); have := ((rg_rem (x := ((l7 - l5) + l9)) (y := l6) (rg_add (rg_sub f_3 r_l5 (by decide) (by decide)) f_5 (by decide) (by decide)) f_6 (by decide))).1; have := ((rg_rem (x := ((l7 - l5) + l9)) (y := l6) (rg_add (rg_sub f_3 r_l5 (by decide) (by decide)) f_5 (by decide) (by decide)) f_6 (by decide))).2; have := rg_remb (rg_add (rg_sub f_3 r_l5 (by decide) (by decide)) f_5 (by decide) (by decide)) f_6 (by decide); have := ((rg_add (rg_sub f_3 r_l5 (by decide) (by decide)) f_5 (by decide) (by decide))).1; have := ((rg_add (rg_sub f_3 r_l5 (by decide) (by decide)) f_5 (by decide) (by decide))).2; have := rg_tia (rg_sub f_3 r_l5 (by decide) (by decide)) f_5 (by decide) (by decide); have := ((rg_sub f_3 r_l5 (by decide) (by decide))).1; have := ((rg_sub f_3 r_l5 (by decide) (by decide))).2; have := rg_tis f_3 r_l5 (by decide) (by decide); have := (f_5).1; have := (f_5).2; have := ((hS_V_19.rdSa (k := l4.toNatClampNeg) (bo1_mem hR.1) rt_RcR_8394104114124134_0_99)).1; have := ((hS_V_19.rdSa (k := l4.toNatClampNeg) (bo1_mem hR.1) rt_RcR_8394104114124134_0_99)).2; have := congrArg Int32.toInt (rd_frS (L := [83, 94, 104, 114, 124, 134]) (a := (bo + 1)) (k := l4.toNatClampNeg) f_21 (bo1_mem hR.1) rfl); have := ((hS_V.rdSa (k := l4.toNatClampNeg) (bo1_mem hR.1) rt_RcR_8394104114124134_0_99)).1; have := ((hS_V.rdSa (k := l4.toNatClampNeg) (bo1_mem hR.1) rt_RcR_8394104114124134_0_99)).2; have := ((hS_V_19.rdSa (k := (l4 - (1 : Int32)).toNatClampNeg) (bo1_mem hR.1) rt_RcR_8394104114124134_0_99)).1; have := ((hS_V_19.rdSa (k := (l4 - (1 : Int32)).toNatClampNeg) (bo1_mem hR.1) rt_RcR_8394104114124134_0_99)).2; have := congrArg Int32.toInt (rd_frS (L := [83, 94, 104, 114, 124, 134]) (a := (bo + 1)) (k := (l4 - (1 : Int32)).toNatClampNeg) f_21 (bo1_mem hR.1) rfl); have := ((hS_V.rdSa (k := (l4 - (1 : Int32)).toNatClampNeg) (bo1_mem hR.1) rt_RcR_8394104114124134_0_99)).1; have := ((hS_V.rdSa (k := (l4 - (1 : Int32)).toNatClampNeg) (bo1_mem hR.1) rt_RcR_8394104114124134_0_99)).2; have := ne_ti h_1; have := Int32.le_iff_toInt_le.mp (Int32.not_lt.mp h_4); have := ne_ti h_16; have := (f_18).1; have := (f_18).2; have := (r_l8).1; have := (r_l8).2; have := cb; have := an_0; have := an_1; have := an_2; have := an_3; have : (-1 : Int32).toInt = -1 := rfl; have : (0 : Int32).toInt = 0 := rfl; omega) (by have := (r_l3).1; have := (r_l3).2; have := (r_l4).1; have := (r_l4).2; have := (r_l5).1; have := (r_l5).2; have := (f_6).1; have := (f_6).2; have := (f_3).1; have := (f_3).2; have := (f_9).1; have := (f_9).2; have := congrArg Int32.toInt q_8; have := ((rg_add r_l5 (rg_rem (x := ((l7 - l5) + l9)) (y := l6) (rg_add (rg_sub f_3 r_l5 (by decide) (by decide)) f_5 (by decide) (by decide)) f_6 (by decide)) (by decide) (by decide))).1; have := ((rg_add r_l5 (rg_rem (x := ((l7 - l5) + l9)) (y := l6) (rg_add (rg_sub f_3 r_l5 (by decide) (by decide)) f_5 (by decide) (by decide)) f_6 (by decide)) (by decide) (by decide))).2; have := rg_tia r_l5 (rg_rem (x := ((l7 - l5) + l9)) (y := l6) (rg_add (rg_sub f_3 r_l5 (by decide) (by decide)) f_5 (by decide) (by decide)) f_6 (by decide)) (by decide) (by decide); have := ((rg_rem (x := ((l7 - l5) + l9)) (y := l6) (rg_add (rg_sub f_3 r_l5 (by decide) (by decide)) f_5 (by decide) (by decide)) f_6 (by decide))).1; have := ((rg_rem (x := ((l7 - l5) + l9)) (y := l6) (rg_add (rg_sub f_3 r_l5 (by decide) (by decide)) f_5 (by decide) (by decide)) f_6 (by decide))).2; have := rg_remb (rg_add (rg_sub f_3 r_l5 (by decide) (by decide)) f_5 (by decide) (by decide)) f_6 (by decide); have := ((rg_add (rg_sub f_3 r_l5 (by decide) (by decide)) f_5 (by decide) (by decide))).1; have := ((rg_add (rg_sub f_3 r_l5 (by decide) (by decide)) f_5 (by decide) (by decide))).2; have := rg_tia (rg_sub f_3 r_l5 (by decide) (by decide)) f_5 (by decide) (by decide); have := ((rg_sub f_3 r_l5 (by decide) (by decide))).1; have := ((rg_sub f_3 r_l5 (by decide) (by decide))).2; have := rg_tis f_3 r_l5 (by decide) (by decide); have := (f_5).1; have := (f_5).2; have := ((hS_V_19.rdSa (k := l4.toNatClampNeg) (bo1_mem hR.1) rt_RcR_8394104114124134_0_99)).1; have := ((hS_V_19.rdSa (k := l4.toNatClampNeg) (bo1_mem hR.1) rt_RcR_8394104114124134_0_99)).2; have := congrArg Int32.toInt (rd_frS (L := [83, 94, 104, 114, 124, 134]) (a := (bo + 1)) (k := l4.toNatClampNeg) f_21 (bo1_mem hR.1) rfl); have := ((hS_V.rdSa (k := l4.toNatClampNeg) (bo1_mem hR.1) rt_RcR_8394104114124134_0_99)).1; have := ((hS_V.rdSa (k := l4.toNatClampNeg) (bo1_mem hR.1) rt_RcR_8394104114124134_0_99)).2; have := ((hS_V_19.rdSa (k := (l4 - (1 : Int32)).toNatClampNeg) (bo1_mem hR.1) rt_RcR_8394104114124134_0_99)).1; have := ((hS_V_19.rdSa (k := (l4 - (1 : Int32)).toNatClampNeg) (bo1_mem hR.1) rt_RcR_8394104114124134_0_99)).2; have := congrArg Int32.toInt (rd_frS (L := [83, 94, 104, 114, 124, 134]) (a := (bo + 1)) (k := (l4 - (1 : Int32)).toNatClampNeg) f_21 (bo1_mem hR.1) rfl); have := ((hS_V.rdSa (k := (l4 - (1 : Int32)).toNatClampNeg) (bo1_mem hR.1) rt_RcR_8394104114124134_0_99)).1; have := ((hS_V.rdSa (k := (l4 - (1 : Int32)).toNatClampNeg) (bo1_mem hR.1) rt_RcR_8394104114124134_0_99)).2; have := ne_ti h_1; have := Int32.le_iff_toInt_le.mp (Int32.not_lt.mp h_4); have := ne_ti h_16; have := (f_18).1; have := (f_18).2; have := (r_l8).1; have := (r_l8).2; have := cb; have := an_0; have := an_1; have := an_2; have := an_3; have : (-1 : Int32).toInt = -1 := rfl; have : (0 : Int32).toInt = 0 := rfl; omega) (by have := (r_l3).1; have := (r_l3).2; have := (r_l4).1; have := (r_l4).2; have := (r_l5).1; have := (r_l5).2; have := (f_6).1; have := (f_6).2; have := (f_3).1; have := (f_3).2; have := (f_9).1; have := (f_9).2; have := congrArg Int32.toInt q_8; have := ((rg_add r_l5 (rg_rem (x := ((l7 - l5) + l9)) (y := l6) (rg_add (rg_sub f_3 r_l5 (by decide) (by decide)) f_5 (by decide) (by decide)) f_6 (by decide)) (by decide) (by decide))).1; have := ((rg_add r_l5 (rg_rem (x := ((l7 - l5) + l9)) (y := l6) (rg_add (rg_sub f_3 r_l5 (by decide) (by decide)) f_5 (by decide) (by decide)) f_6 (by decide)) (by decide) (by decide))).2; have := rg_tia r_l5 (rg_rem (x := ((l7 - l5) + l9)) (y := l6) (rg_add (rg_sub f_3 r_l5 (by decide) (by decide)) f_5 (by decide) (by decide)) f_6 (by decide)) (by decide) (by decide); have := ((rg_rem (x := ((l7 - l5) + l9)) (y := l6) (rg_add (rg_sub f_3 r_l5 (by decide) (by decide)) f_5 (by decide) (by decide)) f_6 (by decide))).1; have := ((rg_rem (x := ((l7 - l5) + l9)) (y := l6) (rg_add (rg_sub f_3 r_l5 (by decide) (by decide)) f_5 (by decide) (by decide)) f_6 (by decide))).2; have := rg_remb (rg_add (rg_sub f_3 r_l5 (by decide) (by decide)) f_5 (by decide) (by decide)) f_6 (by decide); have := ((rg_add (rg_sub f_3 r_l5 (by decide) (by decide)) f_5 (by decide) (by decide))).1; have := ((rg_add (rg_sub f_3 r_l5 (by decide) (by decide)) f_5 (by decide) (by decide))).2; have := rg_tia (rg_sub f_3 r_l5 (by decide) (by decide)) f_5 (by decide) (by decide); have := ((rg_sub f_3 r_l5 (by decide) (by decide))).1; have := ((rg_sub f_3 r_l5 (by decide) (by decide))).2; have := rg_tis f_3 r_l5 (by decide) (by decide); have := (f_5).1; have := (f_5).2; have := ((hS_V_19.rdSa (k := l4.toNatClampNeg) (bo1_mem hR.1) rt_RcR_8394104114124134_0_99)).1; have := ((hS_V_19.rdSa (k := l4.toNatClampNeg) (bo1_mem hR.1) rt_RcR_8394104114124134_0_99)).2; have := congrArg Int32.toInt (rd_frS (L := [83, 94, 104, 114, 124, 134]) (a := (bo + 1)) (k := l4.toNatClampNeg) f_21 (bo1_mem hR.1) rfl); have := ((hS_V.rdSa (k := l4.toNatClampNeg) (bo1_mem hR.1) rt_RcR_8394104114124134_0_99)).1; have := ((hS_V.rdSa (k := l4.toNatClampNeg) (bo1_mem hR.1) rt_RcR_8394104114124134_0_99)).2; have := ((hS_V_19.rdSa (k := (l4 - (1 : Int32)).toNatClampNeg) (bo1_mem hR.1) rt_RcR_8394104114124134_0_99)).1; have := ((hS_V_19.rdSa (k := (l4 - (1 : Int32)).toNatClampNeg) (bo1_mem hR.1) rt_RcR_8394104114124134_0_99)).2; have := congrArg Int32.toInt (rd_frS (L := [83, 94, 104, 114, 124, 134]) (a := (bo + 1)) (k := (l4 - (1 : Int32)).toNatClampNeg) f_21 (bo1_mem hR.1) rfl); have := ((hS_V.rdSa (k := (l4 - (1 : Int32)).toNatClampNeg) (bo1_mem hR.1) rt_RcR_8394104114124134_0_99)).1; have := ((hS_V.rdSa (k := (l4 - (1 : Int32)).toNatClampNeg) (bo1_mem hR.1) rt_RcR_8394104114124134_0_99)).2; have := ne_ti h_1; have := Int32.le_iff_toInt_le.mp (Int32.not_lt.mp h_4); have := ne_ti h_16; have := (f_18).1; have := (f_18).2; have := (r_l8).1; have := (r_l8).2; have := cb; have := an_0; have := an_1; have := an_2; have := an_3; have : (-1 : Int32).toInt = -1 := rfl; have : (0 : Int32).toInt = 0 := rfl; omega) hc_k3 hc_k61)))
theorem s_B_X5_fillUntouched_3_R {G : sv_V} {N : Nat} (hN : 8589934592 ≤ N) {bo bm : Nat} (hR : RefsOf G bo bm) {k3 : Nat → Nat → Int32 → Int32 → sv_V → Option sv_V} {c_k3 : Int} (hk_k3 : ∀ (l1 : Nat) (l2 : Nat) (l3 : Int32) (l4 : Int32) (V : sv_V), SIx T_cR G V → l1 ∈ [88, 89, 99, 100, 109, 110, 119, 120, 129, 130, 139, 140] → l2 ∈ [86, 87, 97, 98, 107, 108, 117, 118, 127, 128, 137, 138] → rg l3 (1) (2) → rg l4 (0) (20) → OA bo l1 → OA bo l2 → c_k3 < l4.toInt → Sg (SIx T_cR G) (k3 l1 l2 l3 l4 V)) {l1 : Nat} {l2 : Nat} {l3 : Int32} {l4 : Int32} {V : sv_V} (hS_V : SIx T_cR G V) (m_l1 : l1 ∈ [88, 89, 99, 100, 109, 110, 119, 120, 129, 130, 139, 140]) (m_l2 : l2 ∈ [86, 87, 97, 98, 107, 108, 117, 118, 127, 128, 137, 138]) (r_l3 : rg l3 (1) (2)) (r_l4 : rg l4 (0) (20)) (oa_l1 : OA bo l1) (oa_l2 : OA bo l2) (hc_k3 : c_k3 ≤ l4.toInt) : Sg (SIx T_cR G) (B_X5_fillUntouched_3 N k3 l1 l2 l3 l4 V) := by
  unfold B_X5_fillUntouched_3
  exact
    sf_o (c := bo) (ref7 hS_V hR rfl) <|
    sf_p (lay_S hR.1 (by decide +kernel)) <|
    sf_ite (fun h_1 =>
    sf_sV hS_V)
     (fun h_1 =>
    have f_2 := (rg_hlt (Int32.not_le.mp h_1) r_l4 (hS_V.rdS hR.1 rs_RcR_8293103113123133_10_0_20))
    have f_3 := (rg_llt (Int32.not_le.mp h_1) r_l4 (hS_V.rdS hR.1 rs_RcR_8293103113123133_10_0_20))
    have f_4 := (hS_V.cut (M := [93, 103, 113, 123, 133]) hR.1 f_3 (by decide +kernel))
    sf_o (c := bo) (ref7 hS_V hR rfl) <|
    sf_iteb (fun h_10 =>
    have f_11 := (rg_eq h_10 (rg_c (x := (0 : Int32)) (n := 0) rfl))
    sf_someb <|
    sf_p (lay_S f_4 (by decide +kernel)) <|
    sf_o (c := bo) (ref7 hS_V hR rfl) <|
    sf_p (lay_S f_4 (by decide +kernel)) <|
    sf_o (c := bo + 1) (cr6_bo hR.1) <|
    sf_lenE (n := 20) (bo1_mem hR.1) (by decide +kernel) <|
    sf_p (in_rg f_11 (by decide) (by decide)) <|
    sf_let fun x_13 q_14 =>
    have f_15 := rg_eq q_14 (rg_add (rg_sub (hS_V.rdSa (k := l4.toNatClampNeg) (bo1_mem hR.1) rt_RcR_8394104114124134_0_99) (rg_c (x := (0 : Int32)) (n := 0) rfl) (by decide) (by decide)) (rg_c (x := (1 : Int32)) (n := 1) rfl) (by decide) (by decide))
    sf_yI (s_F_X5_firstTouched_R hN hR (A_ := (0 : Int32).toInt + x_13.toInt) hS_V (rg_m (rg_c (x := (0 : Int32)) (n := 0) rfl) (by decide) (by decide)) (rg_m f_15 (by decide) (by decide)) r_l3 (cap_S f_4 (by decide) (rg_c (x := (0 : Int32)) (n := 0) rfl)) (cap_S f_4 (by decide) f_15) (cap_S f_4 (by decide) r_l3) (by have := (f_15).1; have := (f_15).2; have := congrArg Int32.toInt q_14; have := ((rg_add (rg_sub (hS_V.rdSa (k := l4.toNatClampNeg) (bo1_mem hR.1) rt_RcR_8394104114124134_0_99) (rg_c (x := (0 : Int32)) (n := 0) rfl) (by decide) (by decide)) (rg_c (x := (1 : Int32)) (n := 1) rfl) (by decide) (by decide))).1; have := ((rg_add (rg_sub (hS_V.rdSa (k := l4.toNatClampNeg) (bo1_mem hR.1) rt_RcR_8394104114124134_0_99) (rg_c (x := (0 : Int32)) (n := 0) rfl) (by decide) (by decide)) (rg_c (x := (1 : Int32)) (n := 1) rfl) (by decide) (by decide))).2; have := rg_tia (rg_sub (hS_V.rdSa (k := l4.toNatClampNeg) (bo1_mem hR.1) rt_RcR_8394104114124134_0_99) (rg_c (x := (0 : Int32)) (n := 0) rfl) (by decide) (by decide)) (rg_c (x := (1 : Int32)) (n := 1) rfl) (by decide) (by decide); have := ((rg_sub (hS_V.rdSa (k := l4.toNatClampNeg) (bo1_mem hR.1) rt_RcR_8394104114124134_0_99) (rg_c (x := (0 : Int32)) (n := 0) rfl) (by decide) (by decide))).1; have := ((rg_sub (hS_V.rdSa (k := l4.toNatClampNeg) (bo1_mem hR.1) rt_RcR_8394104114124134_0_99) (rg_c (x := (0 : Int32)) (n := 0) rfl) (by decide) (by decide))).2; have := rg_tis (hS_V.rdSa (k := l4.toNatClampNeg) (bo1_mem hR.1) rt_RcR_8394104114124134_0_99) (rg_c (x := (0 : Int32)) (n := 0) rfl) (by decide) (by decide); have := ((hS_V.rdSa (k := l4.toNatClampNeg) (bo1_mem hR.1) rt_RcR_8394104114124134_0_99)).1; have := ((hS_V.rdSa (k := l4.toNatClampNeg) (bo1_mem hR.1) rt_RcR_8394104114124134_0_99)).2; have := (r_l3).1; have := (r_l3).2; have := Int32.lt_iff_toInt_lt.mp (Int32.not_le.mp h_1); have := (f_11).1; have := (f_11).2; have := (f_3).1; have := (f_3).2; have := congrArg Int32.toInt h_10; have : (0 : Int32).toInt = 0 := rfl; have : (1 : Int32).toInt = 1 := rfl; omega) (cap_mn f_4 (by decide)) (by have := (f_15).1; have := (f_15).2; have := congrArg Int32.toInt q_14; have := ((rg_add (rg_sub (hS_V.rdSa (k := l4.toNatClampNeg) (bo1_mem hR.1) rt_RcR_8394104114124134_0_99) (rg_c (x := (0 : Int32)) (n := 0) rfl) (by decide) (by decide)) (rg_c (x := (1 : Int32)) (n := 1) rfl) (by decide) (by decide))).1; have := ((rg_add (rg_sub (hS_V.rdSa (k := l4.toNatClampNeg) (bo1_mem hR.1) rt_RcR_8394104114124134_0_99) (rg_c (x := (0 : Int32)) (n := 0) rfl) (by decide) (by decide)) (rg_c (x := (1 : Int32)) (n := 1) rfl) (by decide) (by decide))).2; have := rg_tia (rg_sub (hS_V.rdSa (k := l4.toNatClampNeg) (bo1_mem hR.1) rt_RcR_8394104114124134_0_99) (rg_c (x := (0 : Int32)) (n := 0) rfl) (by decide) (by decide)) (rg_c (x := (1 : Int32)) (n := 1) rfl) (by decide) (by decide); have := ((rg_sub (hS_V.rdSa (k := l4.toNatClampNeg) (bo1_mem hR.1) rt_RcR_8394104114124134_0_99) (rg_c (x := (0 : Int32)) (n := 0) rfl) (by decide) (by decide))).1; have := ((rg_sub (hS_V.rdSa (k := l4.toNatClampNeg) (bo1_mem hR.1) rt_RcR_8394104114124134_0_99) (rg_c (x := (0 : Int32)) (n := 0) rfl) (by decide) (by decide))).2; have := rg_tis (hS_V.rdSa (k := l4.toNatClampNeg) (bo1_mem hR.1) rt_RcR_8394104114124134_0_99) (rg_c (x := (0 : Int32)) (n := 0) rfl) (by decide) (by decide); have := ((hS_V.rdSa (k := l4.toNatClampNeg) (bo1_mem hR.1) rt_RcR_8394104114124134_0_99)).1; have := ((hS_V.rdSa (k := l4.toNatClampNeg) (bo1_mem hR.1) rt_RcR_8394104114124134_0_99)).2; have := (r_l3).1; have := (r_l3).2; have := Int32.lt_iff_toInt_lt.mp (Int32.not_le.mp h_1); have := (f_11).1; have := (f_11).2; have := (f_3).1; have := (f_3).2; have := congrArg Int32.toInt h_10; have : (0 : Int32).toInt = 0 := rfl; have : (1 : Int32).toInt = 1 := rfl; omega)) fun x_16 r_17 p_18 =>
    lp10_up (I := fun l1 l2 l3 l4 l5 l6 l7 l8 l9 V => (SIx T_cR G V) ∧ (l1 ∈ [88, 89, 99, 100, 109, 110, 119, 120, 129, 130, 139, 140]) ∧ (l2 ∈ [86, 87, 97, 98, 107, 108, 117, 118, 127, 128, 137, 138]) ∧ (rg l3 (1) (2)) ∧ (rg l4 (0) (19)) ∧ (rg l5 (0) (100)) ∧ (rg l6 (-99) (100)) ∧ (rg l7 (-1) (199)) ∧ (rg l8 (-100) (199)) ∧ (rg l9 (1) (101)) ∧ (l3.toInt < cap bo) ∧ (l4.toInt < cap bo) ∧ (l5.toInt < cap bo) ∧ (l6.toInt < cap bo) ∧ ((100 : Int) ≤ cap bo) ∧ (OA bo l1) ∧ (OA bo l2) ∧ (l5.toInt + l6.toInt = (V.1 (bo + 1) l4.toNatClampNeg).toInt + 1) ∧ (l8.toInt < l5.toInt + l6.toInt) ∧ (l7.toInt = -1 ∨ 0 ≤ l8.toInt) ∧ ((l4.toInt = 0 ∧ l5.toInt = 0) ∨ (0 < l4.toInt ∧ l5.toInt = (V.1 (bo + 1) (l4 - (1 : Int32)).toNatClampNeg).toInt + 1)) ∧ (c_k3 ≤ l4.toInt)) (fun _ _ _ _ _ _ _ _ l9 _ => l9.toInt) (1) (101) (fun l1 l2 l3 l4 l5 l6 l7 l8 l9 V h => by
      obtain ⟨hS_V, m_l1, m_l2, r_l3, r_l4, r_l5, r_l6, r_l7, r_l8, r_l9, cp_l3_bo, cp_l4_bo, cp_l5_bo, cp_l6_bo, cb, oa_l1, oa_l2, an_0, an_1, an_2, an_3, hc_k3⟩ := h
      have := r_l9; unfold rg at this; omega) (fun k l1 l2 l3 l4 l5 l6 l7 l8 l9 V h hk => by
      obtain ⟨hS_V, m_l1, m_l2, r_l3, r_l4, r_l5, r_l6, r_l7, r_l8, r_l9, cp_l3_bo, cp_l4_bo, cp_l5_bo, cp_l6_bo, cb, oa_l1, oa_l2, an_0, an_1, an_2, an_3, hc_k3⟩ := h
      exact s_B_X5_fillUntouched_61_R hN hR hk_k3 (fun l1 l2 l3 l4 l5 l6 l7 l8 l9 V hS_V m_l1 m_l2 r_l3 r_l4 r_l5 r_l6 r_l7 r_l8 r_l9 cp_l3_bo cp_l4_bo cp_l5_bo cp_l6_bo cb oa_l1 oa_l2 an_0 an_1 an_2 an_3 hc_k61 hc_k3 => hk l1 l2 l3 l4 l5 l6 l7 l8 l9 V (by exact ⟨hS_V, m_l1, m_l2, r_l3, r_l4, r_l5, r_l6, r_l7, r_l8, r_l9, cp_l3_bo, cp_l4_bo, cp_l5_bo, cp_l6_bo, cb, oa_l1, oa_l2, an_0, an_1, an_2, an_3, hc_k3⟩) (hc_k61)) hS_V m_l1 m_l2 r_l3 r_l4 r_l5 r_l6 r_l7 r_l8 r_l9 cp_l3_bo cp_l4_bo cp_l5_bo cp_l6_bo cb oa_l1 oa_l2 an_0 an_1 an_2 an_3 hc_k3 (Int.le_refl _)) N (by have := hN; omega) _ _ _ _ _ _ _ _ _ _ (by exact ⟨hS_V, m_l1, m_l2, r_l3, (rg_m f_11 (by decide) (by decide)), (rg_m (rg_c (x := (0 : Int32)) (n := 0) rfl) (by decide) (by decide)), (rg_m f_15 (by decide) (by decide)), r_17, (rg_m r_17 (by decide) (by decide)), (rg_m (rg_c (x := (1 : Int32)) (n := 1) rfl) (by decide) (by decide)), (cap_S f_4 (by decide) r_l3), (cap_S f_4 (by decide) f_11), (cap_S f_4 (by decide) (rg_c (x := (0 : Int32)) (n := 0) rfl)), (cap_S f_4 (by decide) f_15), (cap_mn f_4 (by decide)), oa_l1, oa_l2, (by have := (r_l3).1; have := (r_l3).2; have := (f_11).1; have := (f_11).2; have := (f_15).1; have := (f_15).2; have := congrArg Int32.toInt q_14; have := ((rg_add (rg_sub (hS_V.rdSa (k := l4.toNatClampNeg) (bo1_mem hR.1) rt_RcR_8394104114124134_0_99) (rg_c (x := (0 : Int32)) (n := 0) rfl) (by decide) (by decide)) (rg_c (x := (1 : Int32)) (n := 1) rfl) (by decide) (by decide))).1; have := ((rg_add (rg_sub (hS_V.rdSa (k := l4.toNatClampNeg) (bo1_mem hR.1) rt_RcR_8394104114124134_0_99) (rg_c (x := (0 : Int32)) (n := 0) rfl) (by decide) (by decide)) (rg_c (x := (1 : Int32)) (n := 1) rfl) (by decide) (by decide))).2; have := rg_tia (rg_sub (hS_V.rdSa (k := l4.toNatClampNeg) (bo1_mem hR.1) rt_RcR_8394104114124134_0_99) (rg_c (x := (0 : Int32)) (n := 0) rfl) (by decide) (by decide)) (rg_c (x := (1 : Int32)) (n := 1) rfl) (by decide) (by decide); have := ((rg_sub (hS_V.rdSa (k := l4.toNatClampNeg) (bo1_mem hR.1) rt_RcR_8394104114124134_0_99) (rg_c (x := (0 : Int32)) (n := 0) rfl) (by decide) (by decide))).1; have := ((rg_sub (hS_V.rdSa (k := l4.toNatClampNeg) (bo1_mem hR.1) rt_RcR_8394104114124134_0_99) (rg_c (x := (0 : Int32)) (n := 0) rfl) (by decide) (by decide))).2; have := rg_tis (hS_V.rdSa (k := l4.toNatClampNeg) (bo1_mem hR.1) rt_RcR_8394104114124134_0_99) (rg_c (x := (0 : Int32)) (n := 0) rfl) (by decide) (by decide); have := ((hS_V.rdSa (k := l4.toNatClampNeg) (bo1_mem hR.1) rt_RcR_8394104114124134_0_99)).1; have := ((hS_V.rdSa (k := l4.toNatClampNeg) (bo1_mem hR.1) rt_RcR_8394104114124134_0_99)).2; have := (r_17).1; have := (r_17).2; have := ((hS_V.rdSa (k := (l4 - (1 : Int32)).toNatClampNeg) (bo1_mem hR.1) rt_RcR_8394104114124134_0_99)).1; have := ((hS_V.rdSa (k := (l4 - (1 : Int32)).toNatClampNeg) (bo1_mem hR.1) rt_RcR_8394104114124134_0_99)).2; have := Int32.lt_iff_toInt_lt.mp (Int32.not_le.mp h_1); have := (f_3).1; have := (f_3).2; have := congrArg Int32.toInt h_10; have := p_18; have : (0 : Int32).toInt = 0 := rfl; have : (1 : Int32).toInt = 1 := rfl; omega), (by have := (r_l3).1; have := (r_l3).2; have := (f_11).1; have := (f_11).2; have := (f_15).1; have := (f_15).2; have := congrArg Int32.toInt q_14; have := ((rg_add (rg_sub (hS_V.rdSa (k := l4.toNatClampNeg) (bo1_mem hR.1) rt_RcR_8394104114124134_0_99) (rg_c (x := (0 : Int32)) (n := 0) rfl) (by decide) (by decide)) (rg_c (x := (1 : Int32)) (n := 1) rfl) (by decide) (by decide))).1; have := ((rg_add (rg_sub (hS_V.rdSa (k := l4.toNatClampNeg) (bo1_mem hR.1) rt_RcR_8394104114124134_0_99) (rg_c (x := (0 : Int32)) (n := 0) rfl) (by decide) (by decide)) (rg_c (x := (1 : Int32)) (n := 1) rfl) (by decide) (by decide))).2; have := rg_tia (rg_sub (hS_V.rdSa (k := l4.toNatClampNeg) (bo1_mem hR.1) rt_RcR_8394104114124134_0_99) (rg_c (x := (0 : Int32)) (n := 0) rfl) (by decide) (by decide)) (rg_c (x := (1 : Int32)) (n := 1) rfl) (by decide) (by decide); have := ((rg_sub (hS_V.rdSa (k := l4.toNatClampNeg) (bo1_mem hR.1) rt_RcR_8394104114124134_0_99) (rg_c (x := (0 : Int32)) (n := 0) rfl) (by decide) (by decide))).1; have := ((rg_sub (hS_V.rdSa (k := l4.toNatClampNeg) (bo1_mem hR.1) rt_RcR_8394104114124134_0_99) (rg_c (x := (0 : Int32)) (n := 0) rfl) (by decide) (by decide))).2; have := rg_tis (hS_V.rdSa (k := l4.toNatClampNeg) (bo1_mem hR.1) rt_RcR_8394104114124134_0_99) (rg_c (x := (0 : Int32)) (n := 0) rfl) (by decide) (by decide); have := ((hS_V.rdSa (k := l4.toNatClampNeg) (bo1_mem hR.1) rt_RcR_8394104114124134_0_99)).1; have := ((hS_V.rdSa (k := l4.toNatClampNeg) (bo1_mem hR.1) rt_RcR_8394104114124134_0_99)).2; have := (r_17).1; have := (r_17).2; have := ((hS_V.rdSa (k := (l4 - (1 : Int32)).toNatClampNeg) (bo1_mem hR.1) rt_RcR_8394104114124134_0_99)).1; have := ((hS_V.rdSa (k := (l4 - (1 : Int32)).toNatClampNeg) (bo1_mem hR.1) rt_RcR_8394104114124134_0_99)).2; have := Int32.lt_iff_toInt_lt.mp (Int32.not_le.mp h_1); have := (f_3).1; have := (f_3).2; have := congrArg Int32.toInt h_10; have := p_18; have : (0 : Int32).toInt = 0 := rfl; have : (1 : Int32).toInt = 1 := rfl; omega), (by have := (r_l3).1; have := (r_l3).2; have := (f_11).1; have := (f_11).2; have := (f_15).1; have := (f_15).2; have := congrArg Int32.toInt q_14; have := ((rg_add (rg_sub (hS_V.rdSa (k := l4.toNatClampNeg) (bo1_mem hR.1) rt_RcR_8394104114124134_0_99) (rg_c (x := (0 : Int32)) (n := 0) rfl) (by decide) (by decide)) (rg_c (x := (1 : Int32)) (n := 1) rfl) (by decide) (by decide))).1; have := ((rg_add (rg_sub (hS_V.rdSa (k := l4.toNatClampNeg) (bo1_mem hR.1) rt_RcR_8394104114124134_0_99) (rg_c (x := (0 : Int32)) (n := 0) rfl) (by decide) (by decide)) (rg_c (x := (1 : Int32)) (n := 1) rfl) (by decide) (by decide))).2; have := rg_tia (rg_sub (hS_V.rdSa (k := l4.toNatClampNeg) (bo1_mem hR.1) rt_RcR_8394104114124134_0_99) (rg_c (x := (0 : Int32)) (n := 0) rfl) (by decide) (by decide)) (rg_c (x := (1 : Int32)) (n := 1) rfl) (by decide) (by decide); have := ((rg_sub (hS_V.rdSa (k := l4.toNatClampNeg) (bo1_mem hR.1) rt_RcR_8394104114124134_0_99) (rg_c (x := (0 : Int32)) (n := 0) rfl) (by decide) (by decide))).1; have := ((rg_sub (hS_V.rdSa (k := l4.toNatClampNeg) (bo1_mem hR.1) rt_RcR_8394104114124134_0_99) (rg_c (x := (0 : Int32)) (n := 0) rfl) (by decide) (by decide))).2; have := rg_tis (hS_V.rdSa (k := l4.toNatClampNeg) (bo1_mem hR.1) rt_RcR_8394104114124134_0_99) (rg_c (x := (0 : Int32)) (n := 0) rfl) (by decide) (by decide); have := ((hS_V.rdSa (k := l4.toNatClampNeg) (bo1_mem hR.1) rt_RcR_8394104114124134_0_99)).1; have := ((hS_V.rdSa (k := l4.toNatClampNeg) (bo1_mem hR.1) rt_RcR_8394104114124134_0_99)).2; have := (r_17).1; have := (r_17).2; have := ((hS_V.rdSa (k := (l4 - (1 : Int32)).toNatClampNeg) (bo1_mem hR.1) rt_RcR_8394104114124134_0_99)).1; have := ((hS_V.rdSa (k := (l4 - (1 : Int32)).toNatClampNeg) (bo1_mem hR.1) rt_RcR_8394104114124134_0_99)).2; have := Int32.lt_iff_toInt_lt.mp (Int32.not_le.mp h_1); have := (f_3).1; have := (f_3).2; have := congrArg Int32.toInt h_10; have := p_18; have : (0 : Int32).toInt = 0 := rfl; have : (1 : Int32).toInt = 1 := rfl; omega), (by have := (r_l3).1; have := (r_l3).2; have := (f_11).1; have := (f_11).2; have := (f_15).1; have := (f_15).2; have := congrArg Int32.toInt q_14; have := ((rg_add (rg_sub (hS_V.rdSa (k := l4.toNatClampNeg) (bo1_mem hR.1) rt_RcR_8394104114124134_0_99) (rg_c (x := (0 : Int32)) (n := 0) rfl) (by decide) (by decide)) (rg_c (x := (1 : Int32)) (n := 1) rfl) (by decide) (by decide))).1; have := ((rg_add (rg_sub (hS_V.rdSa (k := l4.toNatClampNeg) (bo1_mem hR.1) rt_RcR_8394104114124134_0_99) (rg_c (x := (0 : Int32)) (n := 0) rfl) (by decide) (by decide)) (rg_c (x := (1 : Int32)) (n := 1) rfl) (by decide) (by decide))).2; have := rg_tia (rg_sub (hS_V.rdSa (k := l4.toNatClampNeg) (bo1_mem hR.1) rt_RcR_8394104114124134_0_99) (rg_c (x := (0 : Int32)) (n := 0) rfl) (by decide) (by decide)) (rg_c (x := (1 : Int32)) (n := 1) rfl) (by decide) (by decide); have := ((rg_sub (hS_V.rdSa (k := l4.toNatClampNeg) (bo1_mem hR.1) rt_RcR_8394104114124134_0_99) (rg_c (x := (0 : Int32)) (n := 0) rfl) (by decide) (by decide))).1; have := ((rg_sub (hS_V.rdSa (k := l4.toNatClampNeg) (bo1_mem hR.1) rt_RcR_8394104114124134_0_99) (rg_c (x := (0 : Int32)) (n := 0) rfl) (by decide) (by decide))).2; have := rg_tis (hS_V.rdSa (k := l4.toNatClampNeg) (bo1_mem hR.1) rt_RcR_8394104114124134_0_99) (rg_c (x := (0 : Int32)) (n := 0) rfl) (by decide) (by decide); have := ((hS_V.rdSa (k := l4.toNatClampNeg) (bo1_mem hR.1) rt_RcR_8394104114124134_0_99)).1; have := ((hS_V.rdSa (k := l4.toNatClampNeg) (bo1_mem hR.1) rt_RcR_8394104114124134_0_99)).2; have := (r_17).1; have := (r_17).2; have := ((hS_V.rdSa (k := (l4 - (1 : Int32)).toNatClampNeg) (bo1_mem hR.1) rt_RcR_8394104114124134_0_99)).1; have := ((hS_V.rdSa (k := (l4 - (1 : Int32)).toNatClampNeg) (bo1_mem hR.1) rt_RcR_8394104114124134_0_99)).2; have := Int32.lt_iff_toInt_lt.mp (Int32.not_le.mp h_1); have := (f_3).1; have := (f_3).2; have := congrArg Int32.toInt h_10; have := p_18; have : (0 : Int32).toInt = 0 := rfl; have : (1 : Int32).toInt = 1 := rfl; omega), hc_k3⟩))
     (fun h_10 =>
    have f_19 := (rg_nel h_10 f_2 (rg_c (x := (0 : Int32)) (n := 0) rfl))
    have f_20 := (rg_llt (Int32.not_le.mp h_1) f_19 f_3)
    sf_pb (lay_S f_4 (by decide +kernel)) <|
    sf_ob (c := bo + 1) (cr6_bo hR.1) <|
    sf_assoc <|
    sf_lenE (n := 20) (bo1_mem hR.1) (by decide +kernel) <|
    sf_pb (in_rg (rg_sub f_19 (rg_c (x := (1 : Int32)) (n := 1) rfl) (by decide) (by decide)) (by decide) (by decide)) <|
    sf_someb <|
    sf_p (lay_S f_4 (by decide +kernel)) <|
    sf_o (c := bo) (ref7 hS_V hR rfl) <|
    sf_p (lay_S f_4 (by decide +kernel)) <|
    sf_o (c := bo + 1) (cr6_bo hR.1) <|
    sf_lenE (n := 20) (bo1_mem hR.1) (by decide +kernel) <|
    sf_p (in_rg f_19 (by decide) (by decide)) <|
    sf_let fun x_23 q_24 =>
    have f_25 := rg_eq q_24 (rg_add (rg_sub (hS_V.rdSa (k := l4.toNatClampNeg) (bo1_mem hR.1) rt_RcR_8394104114124134_0_99) (rg_add (hS_V.rdSa (k := (l4 - (1 : Int32)).toNatClampNeg) (bo1_mem hR.1) rt_RcR_8394104114124134_0_99) (rg_c (x := (1 : Int32)) (n := 1) rfl) (by decide) (by decide)) (by decide) (by decide)) (rg_c (x := (1 : Int32)) (n := 1) rfl) (by decide) (by decide))
    sf_yI (s_F_X5_firstTouched_R hN hR (A_ := ((V.1 (bo + 1) (l4 - (1 : Int32)).toNatClampNeg) + (1 : Int32)).toInt + x_23.toInt) hS_V (rg_m (rg_add (hS_V.rdSa (k := (l4 - (1 : Int32)).toNatClampNeg) (bo1_mem hR.1) rt_RcR_8394104114124134_0_99) (rg_c (x := (1 : Int32)) (n := 1) rfl) (by decide) (by decide)) (by decide) (by decide)) (rg_m f_25 (by decide) (by decide)) r_l3 (cap_S f_4 (by decide) (rg_add (hS_V.rdSa (k := (l4 - (1 : Int32)).toNatClampNeg) (bo1_mem hR.1) rt_RcR_8394104114124134_0_99) (rg_c (x := (1 : Int32)) (n := 1) rfl) (by decide) (by decide))) (cap_S f_4 (by decide) f_25) (cap_S f_4 (by decide) r_l3) (by have := ((rg_add (hS_V.rdSa (k := (l4 - (1 : Int32)).toNatClampNeg) (bo1_mem hR.1) rt_RcR_8394104114124134_0_99) (rg_c (x := (1 : Int32)) (n := 1) rfl) (by decide) (by decide))).1; have := ((rg_add (hS_V.rdSa (k := (l4 - (1 : Int32)).toNatClampNeg) (bo1_mem hR.1) rt_RcR_8394104114124134_0_99) (rg_c (x := (1 : Int32)) (n := 1) rfl) (by decide) (by decide))).2; have := rg_tia (hS_V.rdSa (k := (l4 - (1 : Int32)).toNatClampNeg) (bo1_mem hR.1) rt_RcR_8394104114124134_0_99) (rg_c (x := (1 : Int32)) (n := 1) rfl) (by decide) (by decide); have := ((hS_V.rdSa (k := (l4 - (1 : Int32)).toNatClampNeg) (bo1_mem hR.1) rt_RcR_8394104114124134_0_99)).1; have := ((hS_V.rdSa (k := (l4 - (1 : Int32)).toNatClampNeg) (bo1_mem hR.1) rt_RcR_8394104114124134_0_99)).2; have := (f_25).1; have := (f_25).2; have := congrArg Int32.toInt q_24; have := ((rg_add (rg_sub (hS_V.rdSa (k := l4.toNatClampNeg) (bo1_mem hR.1) rt_RcR_8394104114124134_0_99) (rg_add (hS_V.rdSa (k := (l4 - (1 : Int32)).toNatClampNeg) (bo1_mem hR.1) rt_RcR_8394104114124134_0_99) (rg_c (x := (1 : Int32)) (n := 1) rfl) (by decide) (by decide)) (by decide) (by decide)) (rg_c (x := (1 : Int32)) (n := 1) rfl) (by decide) (by decide))).1; have := ((rg_add (rg_sub (hS_V.rdSa (k := l4.toNatClampNeg) (bo1_mem hR.1) rt_RcR_8394104114124134_0_99) (rg_add (hS_V.rdSa (k := (l4 - (1 : Int32)).toNatClampNeg) (bo1_mem hR.1) rt_RcR_8394104114124134_0_99) (rg_c (x := (1 : Int32)) (n := 1) rfl) (by decide) (by decide)) (by decide) (by decide)) (rg_c (x := (1 : Int32)) (n := 1) rfl) (by decide) (by decide))).2; have := rg_tia (rg_sub (hS_V.rdSa (k := l4.toNatClampNeg) (bo1_mem hR.1) rt_RcR_8394104114124134_0_99) (rg_add (hS_V.rdSa (k := (l4 - (1 : Int32)).toNatClampNeg) (bo1_mem hR.1) rt_RcR_8394104114124134_0_99) (rg_c (x := (1 : Int32)) (n := 1) rfl) (by decide) (by decide)) (by decide) (by decide)) (rg_c (x := (1 : Int32)) (n := 1) rfl) (by decide) (by decide); have := ((rg_sub (hS_V.rdSa (k := l4.toNatClampNeg) (bo1_mem hR.1) rt_RcR_8394104114124134_0_99) (rg_add (hS_V.rdSa (k := (l4 - (1 : Int32)).toNatClampNeg) (bo1_mem hR.1) rt_RcR_8394104114124134_0_99) (rg_c (x := (1 : Int32)) (n := 1) rfl) (by decide) (by decide)) (by decide) (by decide))).1; have := ((rg_sub (hS_V.rdSa (k := l4.toNatClampNeg) (bo1_mem hR.1) rt_RcR_8394104114124134_0_99) (rg_add (hS_V.rdSa (k := (l4 - (1 : Int32)).toNatClampNeg) (bo1_mem hR.1) rt_RcR_8394104114124134_0_99) (rg_c (x := (1 : Int32)) (n := 1) rfl) (by decide) (by decide)) (by decide) (by decide))).2; have := rg_tis (hS_V.rdSa (k := l4.toNatClampNeg) (bo1_mem hR.1) rt_RcR_8394104114124134_0_99) (rg_add (hS_V.rdSa (k := (l4 - (1 : Int32)).toNatClampNeg) (bo1_mem hR.1) rt_RcR_8394104114124134_0_99) (rg_c (x := (1 : Int32)) (n := 1) rfl) (by decide) (by decide)) (by decide) (by decide); have := ((hS_V.rdSa (k := l4.toNatClampNeg) (bo1_mem hR.1) rt_RcR_8394104114124134_0_99)).1; have := ((hS_V.rdSa (k := l4.toNatClampNeg) (bo1_mem hR.1) rt_RcR_8394104114124134_0_99)).2; have := (r_l3).1; have := (r_l3).2; have := Int32.lt_iff_toInt_lt.mp (Int32.not_le.mp h_1); have := (f_19).1; have := (f_19).2; have := (f_20).1; have := (f_20).2; have := ne_ti h_10; have : (0 : Int32).toInt = 0 := rfl; have : (1 : Int32).toInt = 1 := rfl; omega) (cap_mn f_4 (by decide)) (by have := ((rg_add (hS_V.rdSa (k := (l4 - (1 : Int32)).toNatClampNeg) (bo1_mem hR.1) rt_RcR_8394104114124134_0_99) (rg_c (x := (1 : Int32)) (n := 1) rfl) (by decide) (by decide))).1; have := ((rg_add (hS_V.rdSa (k := (l4 - (1 : Int32)).toNatClampNeg) (bo1_mem hR.1) rt_RcR_8394104114124134_0_99) (rg_c (x := (1 : Int32)) (n := 1) rfl) (by decide) (by decide))).2; have := rg_tia (hS_V.rdSa (k := (l4 - (1 : Int32)).toNatClampNeg) (bo1_mem hR.1) rt_RcR_8394104114124134_0_99) (rg_c (x := (1 : Int32)) (n := 1) rfl) (by decide) (by decide); have := ((hS_V.rdSa (k := (l4 - (1 : Int32)).toNatClampNeg) (bo1_mem hR.1) rt_RcR_8394104114124134_0_99)).1; have := ((hS_V.rdSa (k := (l4 - (1 : Int32)).toNatClampNeg) (bo1_mem hR.1) rt_RcR_8394104114124134_0_99)).2; have := (f_25).1; have := (f_25).2; have := congrArg Int32.toInt q_24; have := ((rg_add (rg_sub (hS_V.rdSa (k := l4.toNatClampNeg) (bo1_mem hR.1) rt_RcR_8394104114124134_0_99) (rg_add (hS_V.rdSa (k := (l4 - (1 : Int32)).toNatClampNeg) (bo1_mem hR.1) rt_RcR_8394104114124134_0_99) (rg_c (x := (1 : Int32)) (n := 1) rfl) (by decide) (by decide)) (by decide) (by decide)) (rg_c (x := (1 : Int32)) (n := 1) rfl) (by decide) (by decide))).1; have := ((rg_add (rg_sub (hS_V.rdSa (k := l4.toNatClampNeg) (bo1_mem hR.1) rt_RcR_8394104114124134_0_99) (rg_add (hS_V.rdSa (k := (l4 - (1 : Int32)).toNatClampNeg) (bo1_mem hR.1) rt_RcR_8394104114124134_0_99) (rg_c (x := (1 : Int32)) (n := 1) rfl) (by decide) (by decide)) (by decide) (by decide)) (rg_c (x := (1 : Int32)) (n := 1) rfl) (by decide) (by decide))).2; have := rg_tia (rg_sub (hS_V.rdSa (k := l4.toNatClampNeg) (bo1_mem hR.1) rt_RcR_8394104114124134_0_99) (rg_add (hS_V.rdSa (k := (l4 - (1 : Int32)).toNatClampNeg) (bo1_mem hR.1) rt_RcR_8394104114124134_0_99) (rg_c (x := (1 : Int32)) (n := 1) rfl) (by decide) (by decide)) (by decide) (by decide)) (rg_c (x := (1 : Int32)) (n := 1) rfl) (by decide) (by decide); have := ((rg_sub (hS_V.rdSa (k := l4.toNatClampNeg) (bo1_mem hR.1) rt_RcR_8394104114124134_0_99) (rg_add (hS_V.rdSa (k := (l4 - (1 : Int32)).toNatClampNeg) (bo1_mem hR.1) rt_RcR_8394104114124134_0_99) (rg_c (x := (1 : Int32)) (n := 1) rfl) (by decide) (by decide)) (by decide) (by decide))).1; have := ((rg_sub (hS_V.rdSa (k := l4.toNatClampNeg) (bo1_mem hR.1) rt_RcR_8394104114124134_0_99) (rg_add (hS_V.rdSa (k := (l4 - (1 : Int32)).toNatClampNeg) (bo1_mem hR.1) rt_RcR_8394104114124134_0_99) (rg_c (x := (1 : Int32)) (n := 1) rfl) (by decide) (by decide)) (by decide) (by decide))).2; have := rg_tis (hS_V.rdSa (k := l4.toNatClampNeg) (bo1_mem hR.1) rt_RcR_8394104114124134_0_99) (rg_add (hS_V.rdSa (k := (l4 - (1 : Int32)).toNatClampNeg) (bo1_mem hR.1) rt_RcR_8394104114124134_0_99) (rg_c (x := (1 : Int32)) (n := 1) rfl) (by decide) (by decide)) (by decide) (by decide); have := ((hS_V.rdSa (k := l4.toNatClampNeg) (bo1_mem hR.1) rt_RcR_8394104114124134_0_99)).1; have := ((hS_V.rdSa (k := l4.toNatClampNeg) (bo1_mem hR.1) rt_RcR_8394104114124134_0_99)).2; have := (r_l3).1; have := (r_l3).2; have := Int32.lt_iff_toInt_lt.mp (Int32.not_le.mp h_1); have := (f_19).1; have := (f_19).2; have := (f_20).1; have := (f_20).2; have := ne_ti h_10; have : (0 : Int32).toInt = 0 := rfl; have : (1 : Int32).toInt = 1 := rfl; omega)) fun x_26 r_27 p_28 =>
    lp10_up (I := fun l1 l2 l3 l4 l5 l6 l7 l8 l9 V => (SIx T_cR G V) ∧ (l1 ∈ [88, 89, 99, 100, 109, 110, 119, 120, 129, 130, 139, 140]) ∧ (l2 ∈ [86, 87, 97, 98, 107, 108, 117, 118, 127, 128, 137, 138]) ∧ (rg l3 (1) (2)) ∧ (rg l4 (0) (19)) ∧ (rg l5 (0) (100)) ∧ (rg l6 (-99) (100)) ∧ (rg l7 (-1) (199)) ∧ (rg l8 (-100) (199)) ∧ (rg l9 (1) (101)) ∧ (l3.toInt < cap bo) ∧ (l4.toInt < cap bo) ∧ (l5.toInt < cap bo) ∧ (l6.toInt < cap bo) ∧ ((100 : Int) ≤ cap bo) ∧ (OA bo l1) ∧ (OA bo l2) ∧ (l5.toInt + l6.toInt = (V.1 (bo + 1) l4.toNatClampNeg).toInt + 1) ∧ (l8.toInt < l5.toInt + l6.toInt) ∧ (l7.toInt = -1 ∨ 0 ≤ l8.toInt) ∧ ((l4.toInt = 0 ∧ l5.toInt = 0) ∨ (0 < l4.toInt ∧ l5.toInt = (V.1 (bo + 1) (l4 - (1 : Int32)).toNatClampNeg).toInt + 1)) ∧ (c_k3 ≤ l4.toInt)) (fun _ _ _ _ _ _ _ _ l9 _ => l9.toInt) (1) (101) (fun l1 l2 l3 l4 l5 l6 l7 l8 l9 V h => by
      obtain ⟨hS_V, m_l1, m_l2, r_l3, r_l4, r_l5, r_l6, r_l7, r_l8, r_l9, cp_l3_bo, cp_l4_bo, cp_l5_bo, cp_l6_bo, cb, oa_l1, oa_l2, an_0, an_1, an_2, an_3, hc_k3⟩ := h
      have := r_l9; unfold rg at this; omega) (fun k l1 l2 l3 l4 l5 l6 l7 l8 l9 V h hk => by
      obtain ⟨hS_V, m_l1, m_l2, r_l3, r_l4, r_l5, r_l6, r_l7, r_l8, r_l9, cp_l3_bo, cp_l4_bo, cp_l5_bo, cp_l6_bo, cb, oa_l1, oa_l2, an_0, an_1, an_2, an_3, hc_k3⟩ := h
      exact s_B_X5_fillUntouched_61_R hN hR hk_k3 (fun l1 l2 l3 l4 l5 l6 l7 l8 l9 V hS_V m_l1 m_l2 r_l3 r_l4 r_l5 r_l6 r_l7 r_l8 r_l9 cp_l3_bo cp_l4_bo cp_l5_bo cp_l6_bo cb oa_l1 oa_l2 an_0 an_1 an_2 an_3 hc_k61 hc_k3 => hk l1 l2 l3 l4 l5 l6 l7 l8 l9 V (by exact ⟨hS_V, m_l1, m_l2, r_l3, r_l4, r_l5, r_l6, r_l7, r_l8, r_l9, cp_l3_bo, cp_l4_bo, cp_l5_bo, cp_l6_bo, cb, oa_l1, oa_l2, an_0, an_1, an_2, an_3, hc_k3⟩) (hc_k61)) hS_V m_l1 m_l2 r_l3 r_l4 r_l5 r_l6 r_l7 r_l8 r_l9 cp_l3_bo cp_l4_bo cp_l5_bo cp_l6_bo cb oa_l1 oa_l2 an_0 an_1 an_2 an_3 hc_k3 (Int.le_refl _)) N (by have := hN; omega) _ _ _ _ _ _ _ _ _ _ (by exact ⟨hS_V, m_l1, m_l2, r_l3, (rg_m f_19 (by decide) (by decide)), (rg_m (rg_add (hS_V.rdSa (k := (l4 - (1 : Int32)).toNatClampNeg) (bo1_mem hR.1) rt_RcR_8394104114124134_0_99) (rg_c (x := (1 : Int32)) (n := 1) rfl) (by decide) (by decide)) (by decide) (by decide)), (rg_m f_25 (by decide) (by decide)), r_27, (rg_m r_27 (by decide) (by decide)), (rg_m (rg_c (x := (1 : Int32)) (n := 1) rfl) (by decide) (by decide)), (cap_S f_4 (by decide) r_l3), (cap_S f_4 (by decide) f_19), (cap_S f_4 (by decide) (rg_add (hS_V.rdSa (k := (l4 - (1 : Int32)).toNatClampNeg) (bo1_mem hR.1) rt_RcR_8394104114124134_0_99) (rg_c (x := (1 : Int32)) (n := 1) rfl) (by decide) (by decide))), (cap_S f_4 (by decide) f_25), (cap_mn f_4 (by decide)), oa_l1, oa_l2, (by have := (r_l3).1; have := (r_l3).2; have := (f_19).1; have := (f_19).2; have := ((rg_add (hS_V.rdSa (k := (l4 - (1 : Int32)).toNatClampNeg) (bo1_mem hR.1) rt_RcR_8394104114124134_0_99) (rg_c (x := (1 : Int32)) (n := 1) rfl) (by decide) (by decide))).1; have := ((rg_add (hS_V.rdSa (k := (l4 - (1 : Int32)).toNatClampNeg) (bo1_mem hR.1) rt_RcR_8394104114124134_0_99) (rg_c (x := (1 : Int32)) (n := 1) rfl) (by decide) (by decide))).2; have := rg_tia (hS_V.rdSa (k := (l4 - (1 : Int32)).toNatClampNeg) (bo1_mem hR.1) rt_RcR_8394104114124134_0_99) (rg_c (x := (1 : Int32)) (n := 1) rfl) (by decide) (by decide); have := ((hS_V.rdSa (k := (l4 - (1 : Int32)).toNatClampNeg) (bo1_mem hR.1) rt_RcR_8394104114124134_0_99)).1; have := ((hS_V.rdSa (k := (l4 - (1 : Int32)).toNatClampNeg) (bo1_mem hR.1) rt_RcR_8394104114124134_0_99)).2; have := (f_25).1; have := (f_25).2; have := congrArg Int32.toInt q_24; have := ((rg_add (rg_sub (hS_V.rdSa (k := l4.toNatClampNeg) (bo1_mem hR.1) rt_RcR_8394104114124134_0_99) (rg_add (hS_V.rdSa (k := (l4 - (1 : Int32)).toNatClampNeg) (bo1_mem hR.1) rt_RcR_8394104114124134_0_99) (rg_c (x := (1 : Int32)) (n := 1) rfl) (by decide) (by decide)) (by decide) (by decide)) (rg_c (x := (1 : Int32)) (n := 1) rfl) (by decide) (by decide))).1; have := ((rg_add (rg_sub (hS_V.rdSa (k := l4.toNatClampNeg) (bo1_mem hR.1) rt_RcR_8394104114124134_0_99) (rg_add (hS_V.rdSa (k := (l4 - (1 : Int32)).toNatClampNeg) (bo1_mem hR.1) rt_RcR_8394104114124134_0_99) (rg_c (x := (1 : Int32)) (n := 1) rfl) (by decide) (by decide)) (by decide) (by decide)) (rg_c (x := (1 : Int32)) (n := 1) rfl) (by decide) (by decide))).2; have := rg_tia (rg_sub (hS_V.rdSa (k := l4.toNatClampNeg) (bo1_mem hR.1) rt_RcR_8394104114124134_0_99) (rg_add (hS_V.rdSa (k := (l4 - (1 : Int32)).toNatClampNeg) (bo1_mem hR.1) rt_RcR_8394104114124134_0_99) (rg_c (x := (1 : Int32)) (n := 1) rfl) (by decide) (by decide)) (by decide) (by decide)) (rg_c (x := (1 : Int32)) (n := 1) rfl) (by decide) (by decide); have := ((rg_sub (hS_V.rdSa (k := l4.toNatClampNeg) (bo1_mem hR.1) rt_RcR_8394104114124134_0_99) (rg_add (hS_V.rdSa (k := (l4 - (1 : Int32)).toNatClampNeg) (bo1_mem hR.1) rt_RcR_8394104114124134_0_99) (rg_c (x := (1 : Int32)) (n := 1) rfl) (by decide) (by decide)) (by decide) (by decide))).1; have := ((rg_sub (hS_V.rdSa (k := l4.toNatClampNeg) (bo1_mem hR.1) rt_RcR_8394104114124134_0_99) (rg_add (hS_V.rdSa (k := (l4 - (1 : Int32)).toNatClampNeg) (bo1_mem hR.1) rt_RcR_8394104114124134_0_99) (rg_c (x := (1 : Int32)) (n := 1) rfl) (by decide) (by decide)) (by decide) (by decide))).2; have := rg_tis (hS_V.rdSa (k := l4.toNatClampNeg) (bo1_mem hR.1) rt_RcR_8394104114124134_0_99) (rg_add (hS_V.rdSa (k := (l4 - (1 : Int32)).toNatClampNeg) (bo1_mem hR.1) rt_RcR_8394104114124134_0_99) (rg_c (x := (1 : Int32)) (n := 1) rfl) (by decide) (by decide)) (by decide) (by decide); have := ((hS_V.rdSa (k := l4.toNatClampNeg) (bo1_mem hR.1) rt_RcR_8394104114124134_0_99)).1; have := ((hS_V.rdSa (k := l4.toNatClampNeg) (bo1_mem hR.1) rt_RcR_8394104114124134_0_99)).2; have := (r_27).1; have := (r_27).2; have := Int32.lt_iff_toInt_lt.mp (Int32.not_le.mp h_1); have := (f_20).1; have := (f_20).2; have := ne_ti h_10; have := p_28; have : (0 : Int32).toInt = 0 := rfl; have : (1 : Int32).toInt = 1 := rfl; omega), (by have := (r_l3).1; have := (r_l3).2; have := (f_19).1; have := (f_19).2; have := ((rg_add (hS_V.rdSa (k := (l4 - (1 : Int32)).toNatClampNeg) (bo1_mem hR.1) rt_RcR_8394104114124134_0_99) (rg_c (x := (1 : Int32)) (n := 1) rfl) (by decide) (by decide))).1; have := ((rg_add (hS_V.rdSa (k := (l4 - (1 : Int32)).toNatClampNeg) (bo1_mem hR.1) rt_RcR_8394104114124134_0_99) (rg_c (x := (1 : Int32)) (n := 1) rfl) (by decide) (by decide))).2; have := rg_tia (hS_V.rdSa (k := (l4 - (1 : Int32)).toNatClampNeg) (bo1_mem hR.1) rt_RcR_8394104114124134_0_99) (rg_c (x := (1 : Int32)) (n := 1) rfl) (by decide) (by decide); have := ((hS_V.rdSa (k := (l4 - (1 : Int32)).toNatClampNeg) (bo1_mem hR.1) rt_RcR_8394104114124134_0_99)).1; have := ((hS_V.rdSa (k := (l4 - (1 : Int32)).toNatClampNeg) (bo1_mem hR.1) rt_RcR_8394104114124134_0_99)).2; have := (f_25).1; have := (f_25).2; have := congrArg Int32.toInt q_24; have := ((rg_add (rg_sub (hS_V.rdSa (k := l4.toNatClampNeg) (bo1_mem hR.1) rt_RcR_8394104114124134_0_99) (rg_add (hS_V.rdSa (k := (l4 - (1 : Int32)).toNatClampNeg) (bo1_mem hR.1) rt_RcR_8394104114124134_0_99) (rg_c (x := (1 : Int32)) (n := 1) rfl) (by decide) (by decide)) (by decide) (by decide)) (rg_c (x := (1 : Int32)) (n := 1) rfl) (by decide) (by decide))).1; have := ((rg_add (rg_sub (hS_V.rdSa (k := l4.toNatClampNeg) (bo1_mem hR.1) rt_RcR_8394104114124134_0_99) (rg_add (hS_V.rdSa (k := (l4 - (1 : Int32)).toNatClampNeg) (bo1_mem hR.1) rt_RcR_8394104114124134_0_99) (rg_c (x := (1 : Int32)) (n := 1) rfl) (by decide) (by decide)) (by decide) (by decide)) (rg_c (x := (1 : Int32)) (n := 1) rfl) (by decide) (by decide))).2; have := rg_tia (rg_sub (hS_V.rdSa (k := l4.toNatClampNeg) (bo1_mem hR.1) rt_RcR_8394104114124134_0_99) (rg_add (hS_V.rdSa (k := (l4 - (1 : Int32)).toNatClampNeg) (bo1_mem hR.1) rt_RcR_8394104114124134_0_99) (rg_c (x := (1 : Int32)) (n := 1) rfl) (by decide) (by decide)) (by decide) (by decide)) (rg_c (x := (1 : Int32)) (n := 1) rfl) (by decide) (by decide); have := ((rg_sub (hS_V.rdSa (k := l4.toNatClampNeg) (bo1_mem hR.1) rt_RcR_8394104114124134_0_99) (rg_add (hS_V.rdSa (k := (l4 - (1 : Int32)).toNatClampNeg) (bo1_mem hR.1) rt_RcR_8394104114124134_0_99) (rg_c (x := (1 : Int32)) (n := 1) rfl) (by decide) (by decide)) (by decide) (by decide))).1; have := ((rg_sub (hS_V.rdSa (k := l4.toNatClampNeg) (bo1_mem hR.1) rt_RcR_8394104114124134_0_99) (rg_add (hS_V.rdSa (k := (l4 - (1 : Int32)).toNatClampNeg) (bo1_mem hR.1) rt_RcR_8394104114124134_0_99) (rg_c (x := (1 : Int32)) (n := 1) rfl) (by decide) (by decide)) (by decide) (by decide))).2; have := rg_tis (hS_V.rdSa (k := l4.toNatClampNeg) (bo1_mem hR.1) rt_RcR_8394104114124134_0_99) (rg_add (hS_V.rdSa (k := (l4 - (1 : Int32)).toNatClampNeg) (bo1_mem hR.1) rt_RcR_8394104114124134_0_99) (rg_c (x := (1 : Int32)) (n := 1) rfl) (by decide) (by decide)) (by decide) (by decide); have := ((hS_V.rdSa (k := l4.toNatClampNeg) (bo1_mem hR.1) rt_RcR_8394104114124134_0_99)).1; have := ((hS_V.rdSa (k := l4.toNatClampNeg) (bo1_mem hR.1) rt_RcR_8394104114124134_0_99)).2; have := (r_27).1; have := (r_27).2; have := Int32.lt_iff_toInt_lt.mp (Int32.not_le.mp h_1); have := (f_20).1; have := (f_20).2; have := ne_ti h_10; have := p_28; have : (0 : Int32).toInt = 0 := rfl; have : (1 : Int32).toInt = 1 := rfl; omega), (by have := (r_l3).1; have := (r_l3).2; have := (f_19).1; have := (f_19).2; have := ((rg_add (hS_V.rdSa (k := (l4 - (1 : Int32)).toNatClampNeg) (bo1_mem hR.1) rt_RcR_8394104114124134_0_99) (rg_c (x := (1 : Int32)) (n := 1) rfl) (by decide) (by decide))).1; have := ((rg_add (hS_V.rdSa (k := (l4 - (1 : Int32)).toNatClampNeg) (bo1_mem hR.1) rt_RcR_8394104114124134_0_99) (rg_c (x := (1 : Int32)) (n := 1) rfl) (by decide) (by decide))).2; have := rg_tia (hS_V.rdSa (k := (l4 - (1 : Int32)).toNatClampNeg) (bo1_mem hR.1) rt_RcR_8394104114124134_0_99) (rg_c (x := (1 : Int32)) (n := 1) rfl) (by decide) (by decide); have := ((hS_V.rdSa (k := (l4 - (1 : Int32)).toNatClampNeg) (bo1_mem hR.1) rt_RcR_8394104114124134_0_99)).1; have := ((hS_V.rdSa (k := (l4 - (1 : Int32)).toNatClampNeg) (bo1_mem hR.1) rt_RcR_8394104114124134_0_99)).2; have := (f_25).1; have := (f_25).2; have := congrArg Int32.toInt q_24; have := ((rg_add (rg_sub (hS_V.rdSa (k := l4.toNatClampNeg) (bo1_mem hR.1) rt_RcR_8394104114124134_0_99) (rg_add (hS_V.rdSa (k := (l4 - (1 : Int32)).toNatClampNeg) (bo1_mem hR.1) rt_RcR_8394104114124134_0_99) (rg_c (x := (1 : Int32)) (n := 1) rfl) (by decide) (by decide)) (by decide) (by decide)) (rg_c (x := (1 : Int32)) (n := 1) rfl) (by decide) (by decide))).1; have := ((rg_add (rg_sub (hS_V.rdSa (k := l4.toNatClampNeg) (bo1_mem hR.1) rt_RcR_8394104114124134_0_99) (rg_add (hS_V.rdSa (k := (l4 - (1 : Int32)).toNatClampNeg) (bo1_mem hR.1) rt_RcR_8394104114124134_0_99) (rg_c (x := (1 : Int32)) (n := 1) rfl) (by decide) (by decide)) (by decide) (by decide)) (rg_c (x := (1 : Int32)) (n := 1) rfl) (by decide) (by decide))).2; have := rg_tia (rg_sub (hS_V.rdSa (k := l4.toNatClampNeg) (bo1_mem hR.1) rt_RcR_8394104114124134_0_99) (rg_add (hS_V.rdSa (k := (l4 - (1 : Int32)).toNatClampNeg) (bo1_mem hR.1) rt_RcR_8394104114124134_0_99) (rg_c (x := (1 : Int32)) (n := 1) rfl) (by decide) (by decide)) (by decide) (by decide)) (rg_c (x := (1 : Int32)) (n := 1) rfl) (by decide) (by decide); have := ((rg_sub (hS_V.rdSa (k := l4.toNatClampNeg) (bo1_mem hR.1) rt_RcR_8394104114124134_0_99) (rg_add (hS_V.rdSa (k := (l4 - (1 : Int32)).toNatClampNeg) (bo1_mem hR.1) rt_RcR_8394104114124134_0_99) (rg_c (x := (1 : Int32)) (n := 1) rfl) (by decide) (by decide)) (by decide) (by decide))).1; have := ((rg_sub (hS_V.rdSa (k := l4.toNatClampNeg) (bo1_mem hR.1) rt_RcR_8394104114124134_0_99) (rg_add (hS_V.rdSa (k := (l4 - (1 : Int32)).toNatClampNeg) (bo1_mem hR.1) rt_RcR_8394104114124134_0_99) (rg_c (x := (1 : Int32)) (n := 1) rfl) (by decide) (by decide)) (by decide) (by decide))).2; have := rg_tis (hS_V.rdSa (k := l4.toNatClampNeg) (bo1_mem hR.1) rt_RcR_8394104114124134_0_99) (rg_add (hS_V.rdSa (k := (l4 - (1 : Int32)).toNatClampNeg) (bo1_mem hR.1) rt_RcR_8394104114124134_0_99) (rg_c (x := (1 : Int32)) (n := 1) rfl) (by decide) (by decide)) (by decide) (by decide); have := ((hS_V.rdSa (k := l4.toNatClampNeg) (bo1_mem hR.1) rt_RcR_8394104114124134_0_99)).1; have := ((hS_V.rdSa (k := l4.toNatClampNeg) (bo1_mem hR.1) rt_RcR_8394104114124134_0_99)).2; have := (r_27).1; have := (r_27).2; have := Int32.lt_iff_toInt_lt.mp (Int32.not_le.mp h_1); have := (f_20).1; have := (f_20).2; have := ne_ti h_10; have := p_28; have : (0 : Int32).toInt = 0 := rfl; have : (1 : Int32).toInt = 1 := rfl; omega), (by have := (r_l3).1; have := (r_l3).2; have := (f_19).1; have := (f_19).2; have := ((rg_add (hS_V.rdSa (k := (l4 - (1 : Int32)).toNatClampNeg) (bo1_mem hR.1) rt_RcR_8394104114124134_0_99) (rg_c (x := (1 : Int32)) (n := 1) rfl) (by decide) (by decide))).1; have := ((rg_add (hS_V.rdSa (k := (l4 - (1 : Int32)).toNatClampNeg) (bo1_mem hR.1) rt_RcR_8394104114124134_0_99) (rg_c (x := (1 : Int32)) (n := 1) rfl) (by decide) (by decide))).2; have := rg_tia (hS_V.rdSa (k := (l4 - (1 : Int32)).toNatClampNeg) (bo1_mem hR.1) rt_RcR_8394104114124134_0_99) (rg_c (x := (1 : Int32)) (n := 1) rfl) (by decide) (by decide); have := ((hS_V.rdSa (k := (l4 - (1 : Int32)).toNatClampNeg) (bo1_mem hR.1) rt_RcR_8394104114124134_0_99)).1; have := ((hS_V.rdSa (k := (l4 - (1 : Int32)).toNatClampNeg) (bo1_mem hR.1) rt_RcR_8394104114124134_0_99)).2; have := (f_25).1; have := (f_25).2; have := congrArg Int32.toInt q_24; have := ((rg_add (rg_sub (hS_V.rdSa (k := l4.toNatClampNeg) (bo1_mem hR.1) rt_RcR_8394104114124134_0_99) (rg_add (hS_V.rdSa (k := (l4 - (1 : Int32)).toNatClampNeg) (bo1_mem hR.1) rt_RcR_8394104114124134_0_99) (rg_c (x := (1 : Int32)) (n := 1) rfl) (by decide) (by decide)) (by decide) (by decide)) (rg_c (x := (1 : Int32)) (n := 1) rfl) (by decide) (by decide))).1; have := ((rg_add (rg_sub (hS_V.rdSa (k := l4.toNatClampNeg) (bo1_mem hR.1) rt_RcR_8394104114124134_0_99) (rg_add (hS_V.rdSa (k := (l4 - (1 : Int32)).toNatClampNeg) (bo1_mem hR.1) rt_RcR_8394104114124134_0_99) (rg_c (x := (1 : Int32)) (n := 1) rfl) (by decide) (by decide)) (by decide) (by decide)) (rg_c (x := (1 : Int32)) (n := 1) rfl) (by decide) (by decide))).2; have := rg_tia (rg_sub (hS_V.rdSa (k := l4.toNatClampNeg) (bo1_mem hR.1) rt_RcR_8394104114124134_0_99) (rg_add (hS_V.rdSa (k := (l4 - (1 : Int32)).toNatClampNeg) (bo1_mem hR.1) rt_RcR_8394104114124134_0_99) (rg_c (x := (1 : Int32)) (n := 1) rfl) (by decide) (by decide)) (by decide) (by decide)) (rg_c (x := (1 : Int32)) (n := 1) rfl) (by decide) (by decide); have := ((rg_sub (hS_V.rdSa (k := l4.toNatClampNeg) (bo1_mem hR.1) rt_RcR_8394104114124134_0_99) (rg_add (hS_V.rdSa (k := (l4 - (1 : Int32)).toNatClampNeg) (bo1_mem hR.1) rt_RcR_8394104114124134_0_99) (rg_c (x := (1 : Int32)) (n := 1) rfl) (by decide) (by decide)) (by decide) (by decide))).1; have := ((rg_sub (hS_V.rdSa (k := l4.toNatClampNeg) (bo1_mem hR.1) rt_RcR_8394104114124134_0_99) (rg_add (hS_V.rdSa (k := (l4 - (1 : Int32)).toNatClampNeg) (bo1_mem hR.1) rt_RcR_8394104114124134_0_99) (rg_c (x := (1 : Int32)) (n := 1) rfl) (by decide) (by decide)) (by decide) (by decide))).2; have := rg_tis (hS_V.rdSa (k := l4.toNatClampNeg) (bo1_mem hR.1) rt_RcR_8394104114124134_0_99) (rg_add (hS_V.rdSa (k := (l4 - (1 : Int32)).toNatClampNeg) (bo1_mem hR.1) rt_RcR_8394104114124134_0_99) (rg_c (x := (1 : Int32)) (n := 1) rfl) (by decide) (by decide)) (by decide) (by decide); have := ((hS_V.rdSa (k := l4.toNatClampNeg) (bo1_mem hR.1) rt_RcR_8394104114124134_0_99)).1; have := ((hS_V.rdSa (k := l4.toNatClampNeg) (bo1_mem hR.1) rt_RcR_8394104114124134_0_99)).2; have := (r_27).1; have := (r_27).2; have := Int32.lt_iff_toInt_lt.mp (Int32.not_le.mp h_1); have := (f_20).1; have := (f_20).2; have := ne_ti h_10; have := p_28; have : (0 : Int32).toInt = 0 := rfl; have : (1 : Int32).toInt = 1 := rfl; omega), hc_k3⟩)))
theorem s_F_X5_fillUntouched_R {G : sv_V} {N : Nat} (hN : 8589934592 ≤ N) {bo bm : Nat} (hR : RefsOf G bo bm) {l1 : Nat} {l2 : Nat} {l3 : Int32} {V : sv_V} (hS_V : SIx T_cR G V) (m_l1 : l1 ∈ [88, 89, 99, 100, 109, 110, 119, 120, 129, 130, 139, 140]) (m_l2 : l2 ∈ [86, 87, 97, 98, 107, 108, 117, 118, 127, 128, 137, 138]) (r_l3 : rg l3 (1) (2)) (oa_l1 : OA bo l1) (oa_l2 : OA bo l2) : Sg (SIx T_cR G) (F_X5_fillUntouched N l1 l2 l3 V) := by
  unfold F_X5_fillUntouched
  exact
    lp5_up (I := fun l1 l2 l3 l4 V => (SIx T_cR G V) ∧ (l1 ∈ [88, 89, 99, 100, 109, 110, 119, 120, 129, 130, 139, 140]) ∧ (l2 ∈ [86, 87, 97, 98, 107, 108, 117, 118, 127, 128, 137, 138]) ∧ (rg l3 (1) (2)) ∧ (rg l4 (0) (20)) ∧ (OA bo l1) ∧ (OA bo l2)) (fun _ _ _ l4 _ => l4.toInt) (0) (20) (fun l1 l2 l3 l4 V h => by
      obtain ⟨hS_V, m_l1, m_l2, r_l3, r_l4, oa_l1, oa_l2⟩ := h
      have := r_l4; unfold rg at this; omega) (fun k l1 l2 l3 l4 V h hk => by
      obtain ⟨hS_V, m_l1, m_l2, r_l3, r_l4, oa_l1, oa_l2⟩ := h
      exact s_B_X5_fillUntouched_3_R hN hR (fun l1 l2 l3 l4 V hS_V m_l1 m_l2 r_l3 r_l4 oa_l1 oa_l2 hc_k3  => hk l1 l2 l3 l4 V (by exact ⟨hS_V, m_l1, m_l2, r_l3, r_l4, oa_l1, oa_l2⟩) (hc_k3)) hS_V m_l1 m_l2 r_l3 r_l4 oa_l1 oa_l2 (Int.le_refl _)) N (by have := hN; omega) _ _ _ _ _ (by exact ⟨hS_V, m_l1, m_l2, r_l3, (rg_m (rg_c (x := (0 : Int32)) (n := 0) rfl) (by decide) (by decide)), oa_l1, oa_l2⟩)
theorem s_B_X5_manyPointCodes_57_R {G : sv_V} {N : Nat} (hN : 8589934592 ≤ N) {bo bm : Nat} (hR : RefsOf G bo bm) {V : sv_V} (hS_V : SIx T_cR G V) : Sg (SIx T_cR G) (B_X5_manyPointCodes_57 N V) := by
  unfold B_X5_manyPointCodes_57
  exact
    sf_eV (s_F_X5_turnPoints_R hN hR hS_V) fun V_1 e_2 hS_V_1 =>
    sf_sV hS_V_1
theorem s_F_X5_manyPointCodes_R {G : sv_V} {N : Nat} (hN : 8589934592 ≤ N) {bo bm : Nat} (hR : RefsOf G bo bm) {l1 : Int32} {V : sv_V} (hS_V : SIx T_cR G V) (r_l1 : rg l1 (0) (255)) : Sg (SIx T_cR G) (F_X5_manyPointCodes N l1 V) := by
  unfold F_X5_manyPointCodes
  exact
    sf_ite (fun h_1 =>
    sf_eV (s_F_X5_shiftByPixels_R hN hR hS_V) fun V_3 e_4 hS_V_3 =>
    sf_sV hS_V_3)
     (fun h_1 =>
    sf_ite (fun h_6 =>
    sf_eV (s_F_X5_interpolate_R hN hR hS_V) fun V_8 e_9 hS_V_8 =>
    sf_sV hS_V_8)
     (fun h_6 =>
    sf_ite (fun h_11 =>
    s_B_X5_manyPointCodes_57_R hN hR hS_V)
     (fun h_11 =>
    sf_ite (fun h_13 =>
    s_B_X5_manyPointCodes_57_R hN hR hS_V)
     (fun h_13 =>
    sf_ite (fun h_15 =>
    sf_eV (s_F_X5_alignToReference_R hN hR hS_V) fun V_17 e_18 hS_V_17 =>
    sf_sV hS_V_17)
     (fun h_15 =>
    s_B_X5_manyPointCodes_57_R hN hR hS_V)))))
theorem s_B_X5_shiftByReference_133_R {G : sv_V} {N : Nat} (hN : 8589934592 ≤ N) {bo bm : Nat} (hR : RefsOf G bo bm) {s1 : Int64} {s2 : Int32} {V : sv_V} (hS_V : SIx T_cR G V) (r_s1 : rl s1 (-2147483648) (2147483647)) (r_s2 : rg s2 (-1) (101)) : Sg (SIx T_cR G) (B_X5_shiftByReference_133 N s1 s2 V) := by
  unfold B_X5_shiftByReference_133
  exact
    sf_eV (s_F_X5_shiftContour_R hN hR hS_V r_s1 r_s2) fun V_1 e_2 hS_V_1 =>
    sf_sV hS_V_1
theorem s_B_X5_shiftByReference_43_R {G : sv_V} {N : Nat} (hN : 8589934592 ≤ N) {bo bm : Nat} (hR : RefsOf G bo bm) {l1 : Int32} {l3 : Nat} {s1 : Int32} {V : sv_V} (hS_V : SIx T_cR G V) (r_l1 : rg l1 (0) (255)) (m_l3 : l3 ∈ [34, 48, 82, 93, 103, 113, 123, 133]) (r_s1 : rg s1 (1) (2)) : Sg (SIx T_cR G) (B_X5_shiftByReference_43 N l1 l3 s1 V) := by
  unfold B_X5_shiftByReference_43
  exact
    sf_p (in_rg r_s1 (by decide) (by decide)) <|
    sf_let fun x_1 q_2 =>
    sf_assoc <|
    sf_iteb (fun h_12 =>
    have f_13 := (rg_hlt h_12 rg_t (rg_c (x := (0 : Int32)) (n := 0) rfl))
    sf_someb <|
    sf_pb (lay_S m_l3 (by decide +kernel)) <|
    sf_iteb (fun h_14 =>
    sf_wb (hS_V.wc oi_RcR_69_14 (rg_m (rg_c (x := (5 : Int32)) (n := 5) rfl) (by decide) (by decide))) fun V_15 q_16 hS_V_15 =>
    sf_assoc <|
    sf_iteb (fun h_25 =>
    sf_someb <|
    sf_pb (lay_S m_l3 (by decide +kernel)) <|
    sf_pb (bl_rg (rg_c (x := (0 : Int32)) (n := 0) rfl) (by decide) (by decide)) <|
    sf_someb <|
    sf_ite (fun h_26 =>
    sf_sV hS_V_15)
     (fun h_26 =>
    False.elim (rg_none h_26 (rg_c (x := (0 : Int32)) (n := 0) rfl) (rg_c (x := (0 : Int32)) (n := 0) rfl))))
     (fun h_25 =>
    False.elim (rg_nole (Int32.not_lt.mp h_25) (rg_c (x := (0 : Int32)) (n := 0) rfl) f_13 (by decide))))
     (fun h_14 =>
    False.elim (rg_none h_14 (rg_c (x := (0 : Int32)) (n := 0) rfl) (rg_c (x := (0 : Int32)) (n := 0) rfl))))
     (fun h_12 =>
    have f_27 := (rg_lle (Int32.not_lt.mp h_12) (rg_c (x := (0 : Int32)) (n := 0) rfl) rg_t)
    sf_pb (lay_S m_l3 (by decide +kernel)) <|
    sf_iteb (fun h_28 =>
    sf_someb <|
    sf_pb (lay_S m_l3 (by decide +kernel)) <|
    sf_iteb (fun h_29 =>
    sf_wb (hS_V.wc oi_RcR_69_14 (rg_m (rg_c (x := (5 : Int32)) (n := 5) rfl) (by decide) (by decide))) fun V_30 q_31 hS_V_30 =>
    sf_assoc <|
    sf_iteb (fun h_40 =>
    False.elim (rg_nolt h_40 f_27 (rg_c (x := (0 : Int32)) (n := 0) rfl) (by decide)))
     (fun h_40 =>
    sf_pb (lay_S m_l3 (by decide +kernel)) <|
    sf_iteb (fun h_41 =>
    sf_someb <|
    sf_pb (lay_S m_l3 (by decide +kernel)) <|
    sf_pb (bl_rg (rg_c (x := (0 : Int32)) (n := 0) rfl) (by decide) (by decide)) <|
    sf_someb <|
    sf_ite (fun h_42 =>
    sf_sV hS_V_30)
     (fun h_42 =>
    False.elim (rg_none h_42 (rg_c (x := (0 : Int32)) (n := 0) rfl) (rg_c (x := (0 : Int32)) (n := 0) rfl))))
     (fun h_41 =>
    have f_43 := (rg_hlt (Int32.not_le.mp h_41) f_27 (rg_add (hS_V_30.rdS m_l3 rs_RcR_34488293103113123133_9_0_100) (hS_V_30.rdS m_l3 rs_RcR_34488293103113123133_11_0_2) (by decide) (by decide)))
    sf_someb <|
    sf_pb (lay_S m_l3 (by decide +kernel)) <|
    sf_pb (bl_rg (rg_c (x := (1 : Int32)) (n := 1) rfl) (by decide) (by decide)) <|
    sf_someb <|
    sf_ite (fun h_47 =>
    False.elim (rg_noeq h_47 (rg_c (x := (1 : Int32)) (n := 1) rfl) (rg_c (x := (0 : Int32)) (n := 0) rfl) (by decide)))
     (fun h_47 =>
    have f_48 := (cap_of ck_RcR (mem_of m_l3 (by decide)) hS_V_30 (Int32.not_le.mp h_41))
    sf_p (lay_S m_l3 (by decide +kernel)) <|
    sf_crS (T := [38, 52, 86, 97, 107, 117, 127, 137]) m_l3 (by decide +kernel) fun b_49 m_51 q_50 =>
    sf_lenS (m := 0) m_51 (by decide +kernel) fun n_52 m_54 q_53 =>
    sf_p (in_cap f_48 f_43 (by decide) (cap_len (mem_of m_l3 (by decide)) q_50 q_53 (by decide))) <|
    sf_crS (T := [40, 54, 88, 99, 109, 119, 129, 139]) m_l3 (by decide +kernel) fun b_55 m_57 q_56 =>
    sf_lenS (m := 0) m_57 (by decide +kernel) fun n_58 m_60 q_59 =>
    sf_p (in_cap f_48 f_43 (by decide) (cap_len (mem_of m_l3 (by decide)) q_56 q_59 (by decide))) <|
    sf_crS (T := [39, 53, 87, 98, 108, 118, 128, 138]) m_l3 (by decide +kernel) fun b_61 m_63 q_62 =>
    sf_lenS (m := 0) m_63 (by decide +kernel) fun n_64 m_66 q_65 =>
    sf_p (in_cap f_48 f_43 (by decide) (cap_len (mem_of m_l3 (by decide)) q_62 q_65 (by decide))) <|
    sf_crS (T := [41, 55, 89, 100, 110, 120, 130, 140]) m_l3 (by decide +kernel) fun b_67 m_69 q_68 =>
    sf_lenS (m := 0) m_69 (by decide +kernel) fun n_70 m_72 q_71 =>
    sf_p (in_cap f_48 f_43 (by decide) (cap_len (mem_of m_l3 (by decide)) q_68 q_71 (by decide))) <|
    sf_qL (s_F_X5_longByP_R hN hR hS_V_30 (rl_m (rl_w rg_t) (by decide) (by decide)) (rl_m (rl_w rg_t) (by decide) (by decide))) fun x_73 r_74 =>
    sf_ite (fun h_75 =>
    sf_ite (fun h_78 =>
    have f_80 := (cap_of ck_RcR (mem_of m_l3 (by decide)) hS_V_30 (Int32.not_le.mp h_41))
    sf_eV (s_F_X5_shiftZone_R hN hR hS_V_30 r_74 m_l3 (rg_m f_43 (by decide) (by decide)) f_80) fun V_81 e_82 hS_V_81 =>
    sf_sV hS_V_81)
     (fun h_78 =>
    sf_o (c := bo) (ref7 hS_V_30 hR rfl) <|
    sf_p (lay_S hR.1 (by decide +kernel)) <|
    sf_ite (fun h_86 =>
    s_B_X5_shiftByReference_133_R hN hR hS_V_30 r_74 (rg_m f_43 (by decide) (by decide)))
     (fun h_86 =>
    s_B_X5_shiftByReference_133_R hN hR hS_V_30 r_74 (rg_m (rg_c (x := (-1 : Int32)) (n := -1) rfl) (by decide) (by decide)))))
     (fun h_75 =>
    sf_eV (s_F_X5_shiftPoints_R hN hR hS_V_30 r_74) fun V_89 e_90 hS_V_89 =>
    sf_sV hS_V_89)))))
     (fun h_29 =>
    False.elim (rg_none h_29 (rg_c (x := (0 : Int32)) (n := 0) rfl) (rg_c (x := (0 : Int32)) (n := 0) rfl))))
     (fun h_28 =>
    have f_92 := (rg_hlt (Int32.not_le.mp h_28) f_27 (rg_add (hS_V.rdS m_l3 rs_RcR_34488293103113123133_9_0_100) (hS_V.rdS m_l3 rs_RcR_34488293103113123133_11_0_2) (by decide) (by decide)))
    sf_someb <|
    sf_pb (lay_S m_l3 (by decide +kernel)) <|
    sf_iteb (fun h_95 =>
    False.elim (rg_noeq h_95 (rg_c (x := (1 : Int32)) (n := 1) rfl) (rg_c (x := (0 : Int32)) (n := 0) rfl) (by decide)))
     (fun h_95 =>
    sf_assoc <|
    sf_iteb (fun h_105 =>
    False.elim (rg_nolt h_105 f_92 (rg_c (x := (0 : Int32)) (n := 0) rfl) (by decide)))
     (fun h_105 =>
    sf_pb (lay_S m_l3 (by decide +kernel)) <|
    sf_iteb (fun h_107 =>
    sf_someb <|
    sf_pb (lay_S m_l3 (by decide +kernel)) <|
    sf_pb (bl_rg (rg_c (x := (0 : Int32)) (n := 0) rfl) (by decide) (by decide)) <|
    sf_someb <|
    sf_ite (fun h_113 =>
    sf_sV hS_V)
     (fun h_113 =>
    False.elim (rg_none h_113 (rg_c (x := (0 : Int32)) (n := 0) rfl) (rg_c (x := (0 : Int32)) (n := 0) rfl))))
     (fun h_107 =>
    sf_someb <|
    sf_pb (lay_S m_l3 (by decide +kernel)) <|
    sf_pb (bl_rg (rg_c (x := (1 : Int32)) (n := 1) rfl) (by decide) (by decide)) <|
    sf_someb <|
    sf_ite (fun h_119 =>
    False.elim (rg_noeq h_119 (rg_c (x := (1 : Int32)) (n := 1) rfl) (rg_c (x := (0 : Int32)) (n := 0) rfl) (by decide)))
     (fun h_119 =>
    have f_121 := (cap_of ck_RcR (mem_of m_l3 (by decide)) hS_V (Int32.not_le.mp h_107))
    sf_p (lay_S m_l3 (by decide +kernel)) <|
    sf_crS (T := [38, 52, 86, 97, 107, 117, 127, 137]) m_l3 (by decide +kernel) fun b_122 m_124 q_123 =>
    sf_lenS (m := 0) m_124 (by decide +kernel) fun n_125 m_127 q_126 =>
    sf_p (in_cap f_121 f_92 (by decide) (cap_len (mem_of m_l3 (by decide)) q_123 q_126 (by decide))) <|
    sf_crS (T := [40, 54, 88, 99, 109, 119, 129, 139]) m_l3 (by decide +kernel) fun b_128 m_130 q_129 =>
    sf_lenS (m := 0) m_130 (by decide +kernel) fun n_131 m_133 q_132 =>
    sf_p (in_cap f_121 f_92 (by decide) (cap_len (mem_of m_l3 (by decide)) q_129 q_132 (by decide))) <|
    sf_crS (T := [39, 53, 87, 98, 108, 118, 128, 138]) m_l3 (by decide +kernel) fun b_134 m_136 q_135 =>
    sf_lenS (m := 0) m_136 (by decide +kernel) fun n_137 m_139 q_138 =>
    sf_p (in_cap f_121 f_92 (by decide) (cap_len (mem_of m_l3 (by decide)) q_135 q_138 (by decide))) <|
    sf_crS (T := [41, 55, 89, 100, 110, 120, 130, 140]) m_l3 (by decide +kernel) fun b_140 m_142 q_141 =>
    sf_lenS (m := 0) m_142 (by decide +kernel) fun n_143 m_145 q_144 =>
    sf_p (in_cap f_121 f_92 (by decide) (cap_len (mem_of m_l3 (by decide)) q_141 q_144 (by decide))) <|
    sf_qL (s_F_X5_longByP_R hN hR hS_V (rl_m (rl_w rg_t) (by decide) (by decide)) (rl_m (rl_w rg_t) (by decide) (by decide))) fun x_146 r_147 =>
    sf_ite (fun h_148 =>
    sf_ite (fun h_152 =>
    have f_155 := (cap_of ck_RcR (mem_of m_l3 (by decide)) hS_V (Int32.not_le.mp h_107))
    sf_eV (s_F_X5_shiftZone_R hN hR hS_V r_147 m_l3 (rg_m f_92 (by decide) (by decide)) f_155) fun V_156 e_157 hS_V_156 =>
    sf_sV hS_V_156)
     (fun h_152 =>
    sf_o (c := bo) (ref7 hS_V hR rfl) <|
    sf_p (lay_S hR.1 (by decide +kernel)) <|
    sf_ite (fun h_162 =>
    s_B_X5_shiftByReference_133_R hN hR hS_V r_147 (rg_m f_92 (by decide) (by decide)))
     (fun h_162 =>
    s_B_X5_shiftByReference_133_R hN hR hS_V r_147 (rg_m (rg_c (x := (-1 : Int32)) (n := -1) rfl) (by decide) (by decide)))))
     (fun h_148 =>
    sf_eV (s_F_X5_shiftPoints_R hN hR hS_V r_147) fun V_166 e_167 hS_V_166 =>
    sf_sV hS_V_166)))))))
theorem s_B_X5_shiftByReference_23_R {G : sv_V} {N : Nat} (hN : 8589934592 ≤ N) {bo bm : Nat} (hR : RefsOf G bo bm) {l1 : Int32} {l2 : Int32} {s1 : Int32} {V : sv_V} (hS_V : SIx T_cR G V) (r_l1 : rg l1 (0) (255)) (r_l2 : rg l2 (0) (1)) (r_s1 : rg s1 (0) (1)) : Sg (SIx T_cR G) (B_X5_shiftByReference_23 N l1 l2 s1 V) := by
  unfold B_X5_shiftByReference_23
  exact
    sf_pb (in_rg r_s1 (by decide) (by decide)) <|
    sf_iteb (fun h_6 =>
    sf_ob (c := bm) (ref6 hS_V hR rfl) <|
    sf_pb (lay_S hR.2.1 (by decide +kernel)) <|
    sf_assoc <|
    sf_crS (T := [34, 48]) hR.2.1 (by decide +kernel) fun b_8 m_10 q_9 =>
    sf_someb <|
    sf_ite (fun h_11 =>
    s_B_X5_shiftByReference_43_R hN hR hS_V r_l1 (mem_of m_10 (by decide)) (rg_m (rg_c (x := (2 : Int32)) (n := 2) rfl) (by decide) (by decide)))
     (fun h_11 =>
    s_B_X5_shiftByReference_43_R hN hR hS_V r_l1 (mem_of m_10 (by decide)) (rg_m (rg_c (x := (1 : Int32)) (n := 1) rfl) (by decide) (by decide))))
     (fun h_6 =>
    sf_ob (c := bo) (ref7 hS_V hR rfl) <|
    sf_someb <|
    sf_ite (fun h_15 =>
    s_B_X5_shiftByReference_43_R hN hR hS_V r_l1 (mem_of hR.1 (by decide)) (rg_m (rg_c (x := (2 : Int32)) (n := 2) rfl) (by decide) (by decide)))
     (fun h_15 =>
    s_B_X5_shiftByReference_43_R hN hR hS_V r_l1 (mem_of hR.1 (by decide)) (rg_m (rg_c (x := (1 : Int32)) (n := 1) rfl) (by decide) (by decide))))
theorem s_B_X5_shiftByReference_12_R {G : sv_V} {N : Nat} (hN : 8589934592 ≤ N) {bo bm : Nat} (hR : RefsOf G bo bm) {l1 : Int32} {s0 : Int32} {V : sv_V} (hS_V : SIx T_cR G V) (r_l1 : rg l1 (0) (255)) (r_s0 : rg s0 (0) (1)) : Sg (SIx T_cR G) (B_X5_shiftByReference_12 N l1 s0 V) := by
  unfold B_X5_shiftByReference_12
  exact
    sf_ite (fun h_1 =>
    have f_2 := (rg_eq h_1 (rg_c (x := (0 : Int32)) (n := 0) rfl))
    s_B_X5_shiftByReference_23_R hN hR hS_V r_l1 (rg_m f_2 (by decide) (by decide)) (rg_m (rg_c (x := (1 : Int32)) (n := 1) rfl) (by decide) (by decide)))
     (fun h_1 =>
    have f_3 := (rg_nel h_1 r_s0 (rg_c (x := (0 : Int32)) (n := 0) rfl))
    s_B_X5_shiftByReference_23_R hN hR hS_V r_l1 (rg_m f_3 (by decide) (by decide)) (rg_m (rg_c (x := (0 : Int32)) (n := 0) rfl) (by decide) (by decide)))
theorem s_F_X5_shiftByReference_R {G : sv_V} {N : Nat} (hN : 8589934592 ≤ N) {bo bm : Nat} (hR : RefsOf G bo bm) {l1 : Int32} {V : sv_V} (hS_V : SIx T_cR G V) (r_l1 : rg l1 (0) (255)) : Sg (SIx T_cR G) (F_X5_shiftByReference N l1 V) := by
  unfold F_X5_shiftByReference
  exact
    sf_ite (fun h_1 =>
    s_B_X5_shiftByReference_12_R hN hR hS_V r_l1 (rg_m (rg_c (x := (1 : Int32)) (n := 1) rfl) (by decide) (by decide)))
     (fun h_1 =>
    s_B_X5_shiftByReference_12_R hN hR hS_V r_l1 (rg_m (rg_c (x := (0 : Int32)) (n := 0) rfl) (by decide) (by decide)))
theorem s_B_X5_moveToCvt_147_R {G : sv_V} {hN_ : Nat} (hN : 8589934592 ≤ hN_) {bo bm : Nat} (hR : RefsOf G bo bm) {l3 : Int32} {l4 : Nat} {l5 : Int64} {l7 : Int64} {V : sv_V} (hS_V : SIx T_cR G V) (r_l3 : rg l3 (0) (101)) (m_l4 : l4 ∈ [34, 48, 82, 93, 103, 113, 123, 133]) (r_l7 : rl l7 (-2147483648) (2147483647)) (cp_l3_l4 : l3.toInt < cap l4) : Sg (SIx T_cR G) (B_X5_moveToCvt_147 l3 l4 l5 l7 V) := by
  unfold B_X5_moveToCvt_147
  exact
    sf_eV (s_F_X5_move_R hN hR hS_V m_l4 r_l3 cp_l3_l4) fun V_1 e_2 hS_V_1 =>
    sf_w (hS_V_1.wn on_RcR_71_0) fun V_4 q_5 hS_V_4 =>
    sf_w (hS_V_4.wn on_RcR_71_1) fun V_6 q_7 hS_V_6 =>
    sf_sV hS_V_6
theorem s_B_X5_moveToCvt_142_R {G : sv_V} {hN_ : Nat} (hN : 8589934592 ≤ hN_) {bo bm : Nat} (hR : RefsOf G bo bm) {l3 : Int32} {l4 : Nat} {l7 : Int64} {s1 : Int64} {V : sv_V} (hS_V : SIx T_cR G V) (r_l3 : rg l3 (0) (101)) (m_l4 : l4 ∈ [34, 48, 82, 93, 103, 113, 123, 133]) (r_l7 : rl l7 (-2147483648) (2147483647)) (r_s1 : rl s1 (-2147483648) (2147483647)) (cp_l3_l4 : l3.toInt < cap l4) : Sg (SIx T_cR G) (B_X5_moveToCvt_142 l3 l4 l7 s1 V) := by
  unfold B_X5_moveToCvt_142
  exact
    sf_qL (s_F_X9_rounded_R hN hR hS_V) fun x_1 r_2 =>
    s_B_X5_moveToCvt_147_R hN hR hS_V r_l3 m_l4 r_l7 cp_l3_l4
theorem s_B_X5_moveToCvt_81_R {G : sv_V} {hN_ : Nat} (hN : 8589934592 ≤ hN_) {bo bm : Nat} (hR : RefsOf G bo bm) {l1 : Int32} {l3 : Int32} {l4 : Nat} {l5 : Int64} {V : sv_V} (hS_V : SIx T_cR G V) (r_l1 : rg l1 (60) (63)) (r_l3 : rg l3 (0) (101)) (m_l4 : l4 ∈ [34, 48, 82, 93, 103, 113, 123, 133]) (r_l5 : rl l5 (-2147483648) (2147483647)) (cp_l3_l4 : l3.toInt < cap l4) : Sg (SIx T_cR G) (B_X5_moveToCvt_81 l1 l3 l4 l5 V) := by
  unfold B_X5_moveToCvt_81
  exact
    sf_p (lay_S m_l4 (by decide +kernel)) <|
    sf_crS (T := [38, 52, 86, 97, 107, 117, 127, 137]) m_l4 (by decide +kernel) fun b_1 m_3 q_2 =>
    sf_lenS (m := 0) m_3 (by decide +kernel) fun n_4 m_6 q_5 =>
    sf_p (in_cap cp_l3_l4 r_l3 (by decide) (cap_len (mem_of m_l4 (by decide)) q_2 q_5 (by decide))) <|
    sf_crS (T := [39, 53, 87, 98, 108, 118, 128, 138]) m_l4 (by decide +kernel) fun b_7 m_9 q_8 =>
    sf_lenS (m := 0) m_9 (by decide +kernel) fun n_10 m_12 q_11 =>
    sf_p (in_cap cp_l3_l4 r_l3 (by decide) (cap_len (mem_of m_l4 (by decide)) q_8 q_11 (by decide))) <|
    sf_qL (s_F_X5_longByP_R hN hR hS_V (rl_m (rl_w rg_t) (by decide) (by decide)) (rl_m (rl_w rg_t) (by decide) (by decide))) fun x_13 r_14 =>
    sf_ite (fun h_15 =>
    sf_qL (s_F_J9_abs_067f4_R hN hR hS_V) fun x_17 r_18 =>
    sf_o (c := bm) (ref6 hS_V hR rfl) <|
    sf_p (lay_S hR.2.1 (by decide +kernel)) <|
    sf_crS (T := [44, 58]) hR.2.1 (by decide +kernel) fun b_19 m_21 q_20 =>
    sf_lenE (n := 9) m_21 (by decide +kernel) <|
    sf_p (in_rg (rg_c (x := (0 : Int32)) (n := 0) rfl) (by decide) (by decide)) <|
    sf_ite (fun h_23 =>
    s_B_X5_moveToCvt_142_R hN hR hS_V r_l3 m_l4 r_14 r_l5 cp_l3_l4)
     (fun h_23 =>
    s_B_X5_moveToCvt_142_R hN hR hS_V r_l3 m_l4 r_14 r_14 cp_l3_l4))
     (fun h_15 =>
    s_B_X5_moveToCvt_147_R hN hR hS_V r_l3 m_l4 r_14 cp_l3_l4)
theorem s_F_X5_moveToCvt_R {G : sv_V} {hN_ : Nat} (hN : 8589934592 ≤ hN_) {bo bm : Nat} (hR : RefsOf G bo bm) {l1 : Int32} {V : sv_V} (hS_V : SIx T_cR G V) (r_l1 : rg l1 (60) (63)) : Sg (SIx T_cR G) (F_X5_moveToCvt l1 V) := by
  unfold F_X5_moveToCvt
  exact
    sf_eI (s_F_X5_pop_R hN hR hS_V) fun x_1 V_2 e_4 hS_V_2 r_3 =>
    sf_eI (s_F_X5_pop_R hN hR hS_V_2) fun x_6 V_7 e_9 hS_V_7 r_8 =>
    sf_pb (in_rg (rg_c (x := (0 : Int32)) (n := 0) rfl) (by decide) (by decide)) <|
    sf_iteb (fun h_16 =>
    have f_17 := (rg_eq h_16 (rg_c (x := (0 : Int32)) (n := 0) rfl))
    sf_ob (c := bm) (ref6 hS_V_7 hR rfl) <|
    sf_pb (lay_S hR.2.1 (by decide +kernel)) <|
    sf_assoc <|
    sf_crS (T := [34, 48]) hR.2.1 (by decide +kernel) fun b_18 m_20 q_19 =>
    sf_someb <|
    sf_assoc <|
    sf_iteb (fun h_30 =>
    have f_31 := (rg_hlt h_30 r_8 (rg_c (x := (0 : Int32)) (n := 0) rfl))
    sf_someb <|
    sf_pb (lay_S m_20 (by decide +kernel)) <|
    sf_iteb (fun h_32 =>
    sf_wb (hS_V_7.wc oi_RcR_69_14 (rg_m (rg_c (x := (5 : Int32)) (n := 5) rfl) (by decide) (by decide))) fun V_33 q_34 hS_V_33 =>
    sf_assoc <|
    sf_iteb (fun h_43 =>
    sf_someb <|
    sf_pb (lay_S m_20 (by decide +kernel)) <|
    sf_pb (bl_rg (rg_c (x := (0 : Int32)) (n := 0) rfl) (by decide) (by decide)) <|
    sf_someb <|
    sf_ite (fun h_44 =>
    sf_sV hS_V_33)
     (fun h_44 =>
    False.elim (rg_none h_44 (rg_c (x := (0 : Int32)) (n := 0) rfl) (rg_c (x := (0 : Int32)) (n := 0) rfl))))
     (fun h_43 =>
    False.elim (rg_nole (Int32.not_lt.mp h_43) (rg_c (x := (0 : Int32)) (n := 0) rfl) f_31 (by decide))))
     (fun h_32 =>
    False.elim (rg_none h_32 (rg_c (x := (0 : Int32)) (n := 0) rfl) (rg_c (x := (0 : Int32)) (n := 0) rfl))))
     (fun h_30 =>
    have f_45 := (rg_lle (Int32.not_lt.mp h_30) (rg_c (x := (0 : Int32)) (n := 0) rfl) r_8)
    sf_pb (lay_S m_20 (by decide +kernel)) <|
    sf_iteb (fun h_46 =>
    sf_someb <|
    sf_pb (lay_S m_20 (by decide +kernel)) <|
    sf_iteb (fun h_47 =>
    sf_wb (hS_V_7.wc oi_RcR_69_14 (rg_m (rg_c (x := (5 : Int32)) (n := 5) rfl) (by decide) (by decide))) fun V_48 q_49 hS_V_48 =>
    sf_assoc <|
    sf_iteb (fun h_58 =>
    False.elim (rg_nolt h_58 f_45 (rg_c (x := (0 : Int32)) (n := 0) rfl) (by decide)))
     (fun h_58 =>
    sf_pb (lay_S m_20 (by decide +kernel)) <|
    sf_iteb (fun h_59 =>
    sf_someb <|
    sf_pb (lay_S m_20 (by decide +kernel)) <|
    sf_pb (bl_rg (rg_c (x := (0 : Int32)) (n := 0) rfl) (by decide) (by decide)) <|
    sf_someb <|
    sf_ite (fun h_60 =>
    sf_sV hS_V_48)
     (fun h_60 =>
    False.elim (rg_none h_60 (rg_c (x := (0 : Int32)) (n := 0) rfl) (rg_c (x := (0 : Int32)) (n := 0) rfl))))
     (fun h_59 =>
    have f_61 := (rg_hlt (Int32.not_le.mp h_59) f_45 (rg_add (hS_V_48.rdS m_20 rs_RcR_3448_9_0_64) (hS_V_48.rdS m_20 rs_RcR_3448_11_0_0) (by decide) (by decide)))
    have f_62 := (rg_llt (Int32.not_le.mp h_59) f_45 (rg_add (hS_V_48.rdS m_20 rs_RcR_3448_9_0_64) (hS_V_48.rdS m_20 rs_RcR_3448_11_0_0) (by decide) (by decide)))
    have f_63 := (rg_addL f_62 (hS_V_48.rdS m_20 rs_RcR_3448_9_0_64) (hS_V_48.rdS m_20 rs_RcR_3448_11_0_0) (by decide) (by decide))
    have f_65 := (rg_hle h_46 (rg_add (hS_V_7.rdS m_20 rs_RcR_3448_9_0_64) (hS_V_7.rdS m_20 rs_RcR_3448_11_0_0) (by decide) (by decide)) f_61)
    have f_66 := (rg_addL f_65 (hS_V_7.rdS m_20 rs_RcR_3448_9_0_64) (hS_V_7.rdS m_20 rs_RcR_3448_11_0_0) (by decide) (by decide))
    sf_someb <|
    sf_pb (lay_S m_20 (by decide +kernel)) <|
    sf_pb (bl_rg (rg_c (x := (1 : Int32)) (n := 1) rfl) (by decide) (by decide)) <|
    sf_someb <|
    sf_ite (fun h_67 =>
    False.elim (rg_noeq h_67 (rg_c (x := (1 : Int32)) (n := 1) rfl) (rg_c (x := (0 : Int32)) (n := 0) rfl) (by decide)))
     (fun h_67 =>
    have f_68 := (rg_hlt (Int32.not_le.mp h_59) f_61 (rg_add (rg_i f_63 (wr_k q_49 (by decide) f_66)) (hS_V_48.rdS m_20 rs_RcR_3448_11_0_0) (by decide) (by decide)))
    sf_o (c := bm) (ref6 hS_V_48 hR rfl) <|
    sf_iteb (fun h_73 =>
    sf_someb <|
    sf_p (lay_S hR.2.1 (by decide +kernel)) <|
    sf_ite (fun h_79 =>
    sf_w (hS_V_48.wc oi_RcR_69_14 (rg_m (rg_c (x := (6 : Int32)) (n := 6) rfl) (by decide) (by decide))) fun V_84 q_85 hS_V_84 =>
    sf_sV hS_V_84)
     (fun h_79 =>
    False.elim (rg_none h_79 (rg_c (x := (0 : Int32)) (n := 0) rfl) (rg_c (x := (0 : Int32)) (n := 0) rfl))))
     (fun h_73 =>
    have f_86 := (rg_lle (Int32.not_lt.mp h_73) (rg_c (x := (0 : Int32)) (n := 0) rfl) r_3)
    have f_87 := (rg_hle h_46 (rg_add f_66 (hS_V_7.rdS m_20 rs_RcR_3448_11_0_0) (by decide) (by decide)) f_68)
    have f_88 := (rg_addL f_87 f_66 (hS_V_7.rdS m_20 rs_RcR_3448_11_0_0) (by decide) (by decide))
    have f_89 := (rg_hlt (Int32.not_le.mp h_59) f_68 (rg_add (rg_i (rg_i f_63 (wr_k q_49 (by decide) f_66)) (wr_k q_49 (by decide) f_88)) (hS_V_48.rdS m_20 rs_RcR_3448_11_0_0) (by decide) (by decide)))
    sf_pb (lay_S hR.2.1 (by decide +kernel)) <|
    sf_iteb (fun h_91 =>
    sf_someb <|
    sf_p (lay_S hR.2.1 (by decide +kernel)) <|
    sf_ite (fun h_96 =>
    sf_w (hS_V_48.wc oi_RcR_69_14 (rg_m (rg_c (x := (6 : Int32)) (n := 6) rfl) (by decide) (by decide))) fun V_98 q_99 hS_V_98 =>
    sf_sV hS_V_98)
     (fun h_96 =>
    False.elim (rg_none h_96 (rg_c (x := (0 : Int32)) (n := 0) rfl) (rg_c (x := (0 : Int32)) (n := 0) rfl))))
     (fun h_91 =>
    have f_100 := (rg_hlt (Int32.not_le.mp h_91) f_86 (hS_V_48.rdS hR.2.1 rs_RcR_3145_1_0_256))
    have f_102 := (rg_hle h_46 (rg_add f_88 (hS_V_7.rdS m_20 rs_RcR_3448_11_0_0) (by decide) (by decide)) f_89)
    have f_103 := (rg_addL f_102 f_88 (hS_V_7.rdS m_20 rs_RcR_3448_11_0_0) (by decide) (by decide))
    have f_104 := (rg_hlt (Int32.not_le.mp h_59) f_89 (rg_add (rg_i (rg_i (rg_i f_63 (wr_k q_49 (by decide) f_66)) (wr_k q_49 (by decide) f_88)) (wr_k q_49 (by decide) f_103)) (hS_V_48.rdS m_20 rs_RcR_3448_11_0_0) (by decide) (by decide)))
    sf_someb <|
    sf_p (lay_S hR.2.1 (by decide +kernel)) <|
    sf_ite (fun h_106 =>
    False.elim (rg_noeq h_106 (rg_c (x := (1 : Int32)) (n := 1) rfl) (rg_c (x := (0 : Int32)) (n := 0) rfl) (by decide)))
     (fun h_106 =>
    sf_o (c := bm) (ref6 hS_V_48 hR rfl) <|
    sf_p (lay_S hR.2.1 (by decide +kernel)) <|
    sf_crS (T := [32, 46]) hR.2.1 (by decide +kernel) fun b_108 m_110 q_109 =>
    sf_lenE (n := 256) m_110 (by decide +kernel) <|
    sf_p (in_rg f_100 (by decide) (by decide)) <|
    sf_let fun x_112 q_113 =>
    have f_114 := rl_eq q_113 (rl_w rg_t)
    sf_ite (fun h_115 =>
    have f_116 := (cap_of ck_RcR (mem_of m_20 (by decide)) hS_V_48 (Int32.not_le.mp h_59))
    sf_eV (s_F_X5_plant_R hN hR hS_V_48 m_20 (rg_m f_104 (by decide) (by decide)) f_116) fun V_117 e_118 hS_V_117 =>
    s_B_X5_moveToCvt_81_R hN hR hS_V_117 r_l1 (rg_m f_104 (by decide) (by decide)) (mem_of m_20 (by decide)) (rl_m f_114 (by decide) (by decide)) f_116)
     (fun h_115 =>
    False.elim (rg_none h_115 (wr_k q_49 (by decide) f_17) (rg_c (x := (0 : Int32)) (n := 0) rfl))))))))))
     (fun h_47 =>
    False.elim (rg_none h_47 (rg_c (x := (0 : Int32)) (n := 0) rfl) (rg_c (x := (0 : Int32)) (n := 0) rfl))))
     (fun h_46 =>
    have f_120 := (rg_hlt (Int32.not_le.mp h_46) f_45 (rg_add (hS_V_7.rdS m_20 rs_RcR_3448_9_0_64) (hS_V_7.rdS m_20 rs_RcR_3448_11_0_0) (by decide) (by decide)))
    sf_someb <|
    sf_pb (lay_S m_20 (by decide +kernel)) <|
    sf_iteb (fun h_124 =>
    False.elim (rg_noeq h_124 (rg_c (x := (1 : Int32)) (n := 1) rfl) (rg_c (x := (0 : Int32)) (n := 0) rfl) (by decide)))
     (fun h_124 =>
    sf_assoc <|
    sf_iteb (fun h_134 =>
    False.elim (rg_nolt h_134 f_120 (rg_c (x := (0 : Int32)) (n := 0) rfl) (by decide)))
     (fun h_134 =>
    sf_pb (lay_S m_20 (by decide +kernel)) <|
    sf_iteb (fun h_136 =>
    sf_someb <|
    sf_pb (lay_S m_20 (by decide +kernel)) <|
    sf_pb (bl_rg (rg_c (x := (0 : Int32)) (n := 0) rfl) (by decide) (by decide)) <|
    sf_someb <|
    sf_ite (fun h_144 =>
    sf_sV hS_V_7)
     (fun h_144 =>
    False.elim (rg_none h_144 (rg_c (x := (0 : Int32)) (n := 0) rfl) (rg_c (x := (0 : Int32)) (n := 0) rfl))))
     (fun h_136 =>
    sf_someb <|
    sf_pb (lay_S m_20 (by decide +kernel)) <|
    sf_pb (bl_rg (rg_c (x := (1 : Int32)) (n := 1) rfl) (by decide) (by decide)) <|
    sf_someb <|
    sf_ite (fun h_151 =>
    False.elim (rg_noeq h_151 (rg_c (x := (1 : Int32)) (n := 1) rfl) (rg_c (x := (0 : Int32)) (n := 0) rfl) (by decide)))
     (fun h_151 =>
    sf_o (c := bm) (ref6 hS_V_7 hR rfl) <|
    sf_iteb (fun h_157 =>
    sf_someb <|
    sf_p (lay_S hR.2.1 (by decide +kernel)) <|
    sf_ite (fun h_161 =>
    sf_w (hS_V_7.wc oi_RcR_69_14 (rg_m (rg_c (x := (6 : Int32)) (n := 6) rfl) (by decide) (by decide))) fun V_164 q_165 hS_V_164 =>
    sf_sV hS_V_164)
     (fun h_161 =>
    False.elim (rg_none h_161 (rg_c (x := (0 : Int32)) (n := 0) rfl) (rg_c (x := (0 : Int32)) (n := 0) rfl))))
     (fun h_157 =>
    have f_166 := (rg_lle (Int32.not_lt.mp h_157) (rg_c (x := (0 : Int32)) (n := 0) rfl) r_3)
    sf_pb (lay_S hR.2.1 (by decide +kernel)) <|
    sf_iteb (fun h_169 =>
    sf_someb <|
    sf_p (lay_S hR.2.1 (by decide +kernel)) <|
    sf_ite (fun h_172 =>
    sf_w (hS_V_7.wc oi_RcR_69_14 (rg_m (rg_c (x := (6 : Int32)) (n := 6) rfl) (by decide) (by decide))) fun V_174 q_175 hS_V_174 =>
    sf_sV hS_V_174)
     (fun h_172 =>
    False.elim (rg_none h_172 (rg_c (x := (0 : Int32)) (n := 0) rfl) (rg_c (x := (0 : Int32)) (n := 0) rfl))))
     (fun h_169 =>
    have f_176 := (rg_hlt (Int32.not_le.mp h_169) f_166 (hS_V_7.rdS hR.2.1 rs_RcR_3145_1_0_256))
    sf_someb <|
    sf_p (lay_S hR.2.1 (by decide +kernel)) <|
    sf_ite (fun h_180 =>
    False.elim (rg_noeq h_180 (rg_c (x := (1 : Int32)) (n := 1) rfl) (rg_c (x := (0 : Int32)) (n := 0) rfl) (by decide)))
     (fun h_180 =>
    sf_o (c := bm) (ref6 hS_V_7 hR rfl) <|
    sf_p (lay_S hR.2.1 (by decide +kernel)) <|
    sf_crS (T := [32, 46]) hR.2.1 (by decide +kernel) fun b_182 m_184 q_183 =>
    sf_lenE (n := 256) m_184 (by decide +kernel) <|
    sf_p (in_rg f_176 (by decide) (by decide)) <|
    sf_let fun x_186 q_187 =>
    have f_188 := rl_eq q_187 (rl_w rg_t)
    sf_ite (fun h_189 =>
    have f_190 := (cap_of ck_RcR (mem_of m_20 (by decide)) hS_V_7 (Int32.not_le.mp h_136))
    sf_eV (s_F_X5_plant_R hN hR hS_V_7 m_20 (rg_m f_120 (by decide) (by decide)) f_190) fun V_191 e_192 hS_V_191 =>
    s_B_X5_moveToCvt_81_R hN hR hS_V_191 r_l1 (rg_m f_120 (by decide) (by decide)) (mem_of m_20 (by decide)) (rl_m f_188 (by decide) (by decide)) f_190)
     (fun h_189 =>
    False.elim (rg_none h_189 f_17 (rg_c (x := (0 : Int32)) (n := 0) rfl)))))))))))))
     (fun h_16 =>
    have f_194 := (rg_nel h_16 (hS_V_7.rd r_RcR_72_0) (rg_c (x := (0 : Int32)) (n := 0) rfl))
    sf_ob (c := bo) (ref7 hS_V_7 hR rfl) <|
    sf_someb <|
    sf_assoc <|
    sf_iteb (fun h_204 =>
    have f_205 := (rg_hlt h_204 r_8 (rg_c (x := (0 : Int32)) (n := 0) rfl))
    sf_someb <|
    sf_pb (lay_S hR.1 (by decide +kernel)) <|
    sf_iteb (fun h_206 =>
    sf_wb (hS_V_7.wc oi_RcR_69_14 (rg_m (rg_c (x := (5 : Int32)) (n := 5) rfl) (by decide) (by decide))) fun V_207 q_208 hS_V_207 =>
    sf_assoc <|
    sf_iteb (fun h_217 =>
    sf_someb <|
    sf_pb (lay_S hR.1 (by decide +kernel)) <|
    sf_pb (bl_rg (rg_c (x := (0 : Int32)) (n := 0) rfl) (by decide) (by decide)) <|
    sf_someb <|
    sf_ite (fun h_218 =>
    sf_sV hS_V_207)
     (fun h_218 =>
    False.elim (rg_none h_218 (rg_c (x := (0 : Int32)) (n := 0) rfl) (rg_c (x := (0 : Int32)) (n := 0) rfl))))
     (fun h_217 =>
    False.elim (rg_nole (Int32.not_lt.mp h_217) (rg_c (x := (0 : Int32)) (n := 0) rfl) f_205 (by decide))))
     (fun h_206 =>
    False.elim (rg_none h_206 (rg_c (x := (0 : Int32)) (n := 0) rfl) (rg_c (x := (0 : Int32)) (n := 0) rfl))))
     (fun h_204 =>
    have f_219 := (rg_lle (Int32.not_lt.mp h_204) (rg_c (x := (0 : Int32)) (n := 0) rfl) r_8)
    sf_pb (lay_S hR.1 (by decide +kernel)) <|
    sf_iteb (fun h_220 =>
    sf_someb <|
    sf_pb (lay_S hR.1 (by decide +kernel)) <|
    sf_iteb (fun h_221 =>
    sf_wb (hS_V_7.wc oi_RcR_69_14 (rg_m (rg_c (x := (5 : Int32)) (n := 5) rfl) (by decide) (by decide))) fun V_222 q_223 hS_V_222 =>
    sf_assoc <|
    sf_iteb (fun h_232 =>
    False.elim (rg_nolt h_232 f_219 (rg_c (x := (0 : Int32)) (n := 0) rfl) (by decide)))
     (fun h_232 =>
    sf_pb (lay_S hR.1 (by decide +kernel)) <|
    sf_iteb (fun h_233 =>
    sf_someb <|
    sf_pb (lay_S hR.1 (by decide +kernel)) <|
    sf_pb (bl_rg (rg_c (x := (0 : Int32)) (n := 0) rfl) (by decide) (by decide)) <|
    sf_someb <|
    sf_ite (fun h_234 =>
    sf_sV hS_V_222)
     (fun h_234 =>
    False.elim (rg_none h_234 (rg_c (x := (0 : Int32)) (n := 0) rfl) (rg_c (x := (0 : Int32)) (n := 0) rfl))))
     (fun h_233 =>
    have f_235 := (rg_hlt (Int32.not_le.mp h_233) f_219 (rg_add (hS_V_222.rdS hR.1 rs_RcR_8293103113123133_9_0_100) (hS_V_222.rdS hR.1 rs_RcR_8293103113123133_11_0_2) (by decide) (by decide)))
    sf_someb <|
    sf_pb (lay_S hR.1 (by decide +kernel)) <|
    sf_pb (bl_rg (rg_c (x := (1 : Int32)) (n := 1) rfl) (by decide) (by decide)) <|
    sf_someb <|
    sf_ite (fun h_239 =>
    False.elim (rg_noeq h_239 (rg_c (x := (1 : Int32)) (n := 1) rfl) (rg_c (x := (0 : Int32)) (n := 0) rfl) (by decide)))
     (fun h_239 =>
    sf_o (c := bm) (ref6 hS_V_222 hR rfl) <|
    sf_iteb (fun h_244 =>
    sf_someb <|
    sf_p (lay_S hR.2.1 (by decide +kernel)) <|
    sf_ite (fun h_247 =>
    sf_w (hS_V_222.wc oi_RcR_69_14 (rg_m (rg_c (x := (6 : Int32)) (n := 6) rfl) (by decide) (by decide))) fun V_249 q_250 hS_V_249 =>
    sf_sV hS_V_249)
     (fun h_247 =>
    False.elim (rg_none h_247 (rg_c (x := (0 : Int32)) (n := 0) rfl) (rg_c (x := (0 : Int32)) (n := 0) rfl))))
     (fun h_244 =>
    have f_251 := (rg_lle (Int32.not_lt.mp h_244) (rg_c (x := (0 : Int32)) (n := 0) rfl) r_3)
    sf_pb (lay_S hR.2.1 (by decide +kernel)) <|
    sf_iteb (fun h_253 =>
    sf_someb <|
    sf_p (lay_S hR.2.1 (by decide +kernel)) <|
    sf_ite (fun h_255 =>
    sf_w (hS_V_222.wc oi_RcR_69_14 (rg_m (rg_c (x := (6 : Int32)) (n := 6) rfl) (by decide) (by decide))) fun V_257 q_258 hS_V_257 =>
    sf_sV hS_V_257)
     (fun h_255 =>
    False.elim (rg_none h_255 (rg_c (x := (0 : Int32)) (n := 0) rfl) (rg_c (x := (0 : Int32)) (n := 0) rfl))))
     (fun h_253 =>
    have f_259 := (rg_hlt (Int32.not_le.mp h_253) f_251 (hS_V_222.rdS hR.2.1 rs_RcR_3145_1_0_256))
    sf_someb <|
    sf_p (lay_S hR.2.1 (by decide +kernel)) <|
    sf_ite (fun h_262 =>
    False.elim (rg_noeq h_262 (rg_c (x := (1 : Int32)) (n := 1) rfl) (rg_c (x := (0 : Int32)) (n := 0) rfl) (by decide)))
     (fun h_262 =>
    sf_o (c := bm) (ref6 hS_V_222 hR rfl) <|
    sf_p (lay_S hR.2.1 (by decide +kernel)) <|
    sf_crS (T := [32, 46]) hR.2.1 (by decide +kernel) fun b_264 m_266 q_265 =>
    sf_lenE (n := 256) m_266 (by decide +kernel) <|
    sf_p (in_rg f_259 (by decide) (by decide)) <|
    sf_let fun x_268 q_269 =>
    have f_270 := rl_eq q_269 (rl_w rg_t)
    sf_ite (fun h_271 =>
    False.elim (rg_noeq h_271 (wr_k q_223 (by decide) f_194) (rg_c (x := (0 : Int32)) (n := 0) rfl) (by decide)))
     (fun h_271 =>
    have f_272 := (cap_of ck_RcR (mem_of hR.1 (by decide)) hS_V_222 (Int32.not_le.mp h_233))
    s_B_X5_moveToCvt_81_R hN hR hS_V_222 r_l1 (rg_m f_235 (by decide) (by decide)) (mem_of hR.1 (by decide)) (rl_m f_270 (by decide) (by decide)) f_272))))))))
     (fun h_221 =>
    False.elim (rg_none h_221 (rg_c (x := (0 : Int32)) (n := 0) rfl) (rg_c (x := (0 : Int32)) (n := 0) rfl))))
     (fun h_220 =>
    have f_273 := (rg_hlt (Int32.not_le.mp h_220) f_219 (rg_add (hS_V_7.rdS hR.1 rs_RcR_8293103113123133_9_0_100) (hS_V_7.rdS hR.1 rs_RcR_8293103113123133_11_0_2) (by decide) (by decide)))
    sf_someb <|
    sf_pb (lay_S hR.1 (by decide +kernel)) <|
    sf_iteb (fun h_276 =>
    False.elim (rg_noeq h_276 (rg_c (x := (1 : Int32)) (n := 1) rfl) (rg_c (x := (0 : Int32)) (n := 0) rfl) (by decide)))
     (fun h_276 =>
    sf_assoc <|
    sf_iteb (fun h_286 =>
    False.elim (rg_nolt h_286 f_273 (rg_c (x := (0 : Int32)) (n := 0) rfl) (by decide)))
     (fun h_286 =>
    sf_pb (lay_S hR.1 (by decide +kernel)) <|
    sf_iteb (fun h_288 =>
    sf_someb <|
    sf_pb (lay_S hR.1 (by decide +kernel)) <|
    sf_pb (bl_rg (rg_c (x := (0 : Int32)) (n := 0) rfl) (by decide) (by decide)) <|
    sf_someb <|
    sf_ite (fun h_294 =>
    sf_sV hS_V_7)
     (fun h_294 =>
    False.elim (rg_none h_294 (rg_c (x := (0 : Int32)) (n := 0) rfl) (rg_c (x := (0 : Int32)) (n := 0) rfl))))
     (fun h_288 =>
    sf_someb <|
    sf_pb (lay_S hR.1 (by decide +kernel)) <|
    sf_pb (bl_rg (rg_c (x := (1 : Int32)) (n := 1) rfl) (by decide) (by decide)) <|
    sf_someb <|
    sf_ite (fun h_300 =>
    False.elim (rg_noeq h_300 (rg_c (x := (1 : Int32)) (n := 1) rfl) (rg_c (x := (0 : Int32)) (n := 0) rfl) (by decide)))
     (fun h_300 =>
    sf_o (c := bm) (ref6 hS_V_7 hR rfl) <|
    sf_iteb (fun h_306 =>
    sf_someb <|
    sf_p (lay_S hR.2.1 (by decide +kernel)) <|
    sf_ite (fun h_310 =>
    sf_w (hS_V_7.wc oi_RcR_69_14 (rg_m (rg_c (x := (6 : Int32)) (n := 6) rfl) (by decide) (by decide))) fun V_313 q_314 hS_V_313 =>
    sf_sV hS_V_313)
     (fun h_310 =>
    False.elim (rg_none h_310 (rg_c (x := (0 : Int32)) (n := 0) rfl) (rg_c (x := (0 : Int32)) (n := 0) rfl))))
     (fun h_306 =>
    have f_315 := (rg_lle (Int32.not_lt.mp h_306) (rg_c (x := (0 : Int32)) (n := 0) rfl) r_3)
    sf_pb (lay_S hR.2.1 (by decide +kernel)) <|
    sf_iteb (fun h_318 =>
    sf_someb <|
    sf_p (lay_S hR.2.1 (by decide +kernel)) <|
    sf_ite (fun h_321 =>
    sf_w (hS_V_7.wc oi_RcR_69_14 (rg_m (rg_c (x := (6 : Int32)) (n := 6) rfl) (by decide) (by decide))) fun V_323 q_324 hS_V_323 =>
    sf_sV hS_V_323)
     (fun h_321 =>
    False.elim (rg_none h_321 (rg_c (x := (0 : Int32)) (n := 0) rfl) (rg_c (x := (0 : Int32)) (n := 0) rfl))))
     (fun h_318 =>
    have f_325 := (rg_hlt (Int32.not_le.mp h_318) f_315 (hS_V_7.rdS hR.2.1 rs_RcR_3145_1_0_256))
    sf_someb <|
    sf_p (lay_S hR.2.1 (by decide +kernel)) <|
    sf_ite (fun h_329 =>
    False.elim (rg_noeq h_329 (rg_c (x := (1 : Int32)) (n := 1) rfl) (rg_c (x := (0 : Int32)) (n := 0) rfl) (by decide)))
     (fun h_329 =>
    sf_o (c := bm) (ref6 hS_V_7 hR rfl) <|
    sf_p (lay_S hR.2.1 (by decide +kernel)) <|
    sf_crS (T := [32, 46]) hR.2.1 (by decide +kernel) fun b_331 m_333 q_332 =>
    sf_lenE (n := 256) m_333 (by decide +kernel) <|
    sf_p (in_rg f_325 (by decide) (by decide)) <|
    sf_let fun x_335 q_336 =>
    have f_337 := rl_eq q_336 (rl_w rg_t)
    sf_ite (fun h_338 =>
    False.elim (rg_noeq h_338 f_194 (rg_c (x := (0 : Int32)) (n := 0) rfl) (by decide)))
     (fun h_338 =>
    have f_339 := (cap_of ck_RcR (mem_of hR.1 (by decide)) hS_V_7 (Int32.not_le.mp h_288))
    s_B_X5_moveToCvt_81_R hN hR hS_V_7 r_l1 (rg_m f_273 (by decide) (by decide)) (mem_of hR.1 (by decide)) (rl_m f_337 (by decide) (by decide)) f_339)))))))))))
theorem s_B_X5_moveAsOriginal_138_R {G : sv_V} {hN_ : Nat} (hN : 8589934592 ≤ hN_) {bo bm : Nat} (hR : RefsOf G bo bm) {s1 : Int32} {s2 : Int32} {V : sv_V} (hS_V : SIx T_cR G V) (r_s1 : rg s1 (0) (101)) (r_s2 : rg s2 (0) (1)) : Sg (SIx T_cR G) (B_X5_moveAsOriginal_138 s1 s2 V) := by
  unfold B_X5_moveAsOriginal_138
  exact
    sf_eV (s_F_X5_noteReferences_R hN hR hS_V r_s1 r_s2) fun V_1 e_2 hS_V_1 =>
    sf_sV hS_V_1
theorem s_B_X5_moveAsOriginal_105_R {G : sv_V} {hN_ : Nat} (hN : 8589934592 ≤ hN_) {bo bm : Nat} (hR : RefsOf G bo bm) {l1 : Int32} {l2 : Int32} {l3 : Nat} {l4 : Nat} {l5 : Int32} {l8 : Int64} {V : sv_V} (hS_V : SIx T_cR G V) (r_l1 : rg l1 (64) (223)) (r_l2 : rg l2 (0) (101)) (m_l3 : l3 ∈ [34, 48, 82, 93, 103, 113, 123, 133]) (m_l4 : l4 ∈ [34, 48, 82, 93, 103, 113, 123, 133]) (r_l5 : rg l5 (0) (101)) (cp_l2_l3 : l2.toInt < cap l3) (cp_l5_l4 : l5.toInt < cap l4) : Sg (SIx T_cR G) (B_X5_moveAsOriginal_105 l1 l2 l3 l4 l5 l8 V) := by
  unfold B_X5_moveAsOriginal_105
  exact
    sf_qL (s_F_X5_longBetween_R hN hR hS_V m_l3 r_l2 m_l4 r_l5 cp_l2_l3 cp_l5_l4) fun x_1 r_2 =>
    sf_eV (s_F_X5_move_R hN hR hS_V m_l3 r_l2 cp_l2_l3) fun V_3 e_4 hS_V_3 =>
    sf_ite (fun h_6 =>
    s_B_X5_moveAsOriginal_138_R hN hR hS_V_3 r_l2 (rg_m (rg_c (x := (0 : Int32)) (n := 0) rfl) (by decide) (by decide)))
     (fun h_6 =>
    s_B_X5_moveAsOriginal_138_R hN hR hS_V_3 r_l2 (rg_m (rg_c (x := (1 : Int32)) (n := 1) rfl) (by decide) (by decide)))
theorem s_B_X5_moveAsOriginal_86_R {G : sv_V} {hN_ : Nat} (hN : 8589934592 ≤ hN_) {bo bm : Nat} (hR : RefsOf G bo bm) {l1 : Int32} {l2 : Int32} {l3 : Nat} {l4 : Nat} {l5 : Int32} {l6 : Int64} {s0 : Int64} {V : sv_V} (hS_V : SIx T_cR G V) (r_l1 : rg l1 (64) (223)) (r_l2 : rg l2 (0) (101)) (m_l3 : l3 ∈ [34, 48, 82, 93, 103, 113, 123, 133]) (m_l4 : l4 ∈ [34, 48, 82, 93, 103, 113, 123, 133]) (r_l5 : rg l5 (0) (101)) (cp_l2_l3 : l2.toInt < cap l3) (cp_l5_l4 : l5.toInt < cap l4) : Sg (SIx T_cR G) (B_X5_moveAsOriginal_86 l1 l2 l3 l4 l5 l6 s0 V) := by
  unfold B_X5_moveAsOriginal_86
  exact
    sf_ite (fun h_1 =>
    s_B_X5_moveAsOriginal_105_R hN hR hS_V r_l1 r_l2 m_l3 m_l4 r_l5 cp_l2_l3 cp_l5_l4)
     (fun h_1 =>
    sf_qL (s_F_X5_atLeast_R hN hR hS_V) fun x_4 r_5 =>
    s_B_X5_moveAsOriginal_105_R hN hR hS_V r_l1 r_l2 m_l3 m_l4 r_l5 cp_l2_l3 cp_l5_l4)
