/-! BY HAND: the directory's tables, maxp, load (the class) -/
abbrev QLR (V : sv_V) : Int32 × sv_V → Prop := QZ V 0 1 (fun x => x.toInt = 0 ∨ LR V)
theorem rg_0 : rg (0 : Int32) 0 1 := ⟨by decide, by decide⟩
theorem rg_1 : rg (1 : Int32) 0 1 := ⟨by decide, by decide⟩
theorem tl_74 {G : sv_V} {N : Nat} (hN : 8589934592 ≤ N) {k2 : Int32 → sv_V → Option (Int32 × sv_V)} {V : sv_V} {l1 : Int32} (hk : ∀ l, rg l 0 16 → LRn l.toInt V → l1.toInt < l.toInt → Sg (QLR V) (k2 l V)) (hS : SIx T_cA G V) (r1 : rg l1 0 15) (hL : LRn (l1.toInt + 1) V) : Sg (QLR V) (sx_lp3 (B_X4_tablesLieRight_74 N k2) N l1 0 V) := by
  refine lp3_up (I := fun a l4 W => a = l1 ∧ rg l4 0 15 ∧ W = V) (fun _ l4 _ => l4.toInt) 0 15 (fun a l4 W h => ⟨h.2.1.1, h.2.1.2⟩) (fun k a l4 W h hk2 => ?_) N (by omega) l1 0 V ⟨rfl, ⟨by decide, by decide⟩, rfl⟩
  obtain ⟨rfl, r4, rfl⟩ := h
  unfold B_X4_tablesLieRight_74
  refine sf_ite (fun h => sf_let fun x2 q2 => ?_) (fun h => ?_)
  · have e := ti_1 q2 r1 (by decide)
    have := r1.1
    have := r1.2
    exact hk x2 ⟨by omega, by omega⟩ (by rw [e]; exact hL) (by omega)
  · have h' := Int32.lt_iff_toInt_lt.mp (Int32.not_le.mp h)
    have := r4.1
    have := r1.2
    refine sf_qI (s_F_X4_shareBytes_A hN hS r4 ⟨by omega, r1.2⟩) fun x5 r5 => ?_
    refine sf_ite (fun _ => sf_let fun x7 q7 => ?_) (fun _ => sf_zI rg_0 (Or.inl rfl))
    have e := ti_1 q7 r4 (by decide)
    exact hk2 _ x7 _ ⟨rfl, ⟨by omega, by omega⟩, rfl⟩ (by omega)
theorem tl_2 {G : sv_V} {N : Nat} (hN : 8589934592 ≤ N) {k2 : Int32 → sv_V → Option (Int32 × sv_V)} {V : sv_V} {l1 : Int32} (hk : ∀ l, rg l 0 16 → LRn l.toInt V → l1.toInt < l.toInt → Sg (QLR V) (k2 l V)) (hS : SIx T_cA G V) (r1 : rg l1 0 16) (hL : LRn l1.toInt V) : Sg (QLR V) (B_X4_tablesLieRight_2 N k2 l1 V) := by
  unfold B_X4_tablesLieRight_2
  have r25 : rg (V.1 2 5) 0 16 := hS.rd (by decide +kernel)
  have r21 : rg (V.1 2 1) 0 12000 := hS.rd (by decide +kernel)
  refine sf_ite (fun h => sf_zI rg_1 (Or.inr fun i h0 hi => ?_)) (fun h => ?_)
  · have h' := Int32.le_iff_toInt_le.mp h
    exact hL i h0 (by omega)
  have h' := Int32.lt_iff_toInt_lt.mp (Int32.not_le.mp h)
  have := r25.2
  have r1' : rg l1 0 15 := ⟨r1.1, by omega⟩
  obtain ⟨⟨a, W⟩, ea, eW, ra⟩ := s_F_X4_entry_A (l1 := l1) (l2 := 2) hN hS r1' ⟨by decide, by decide⟩
  have eW : V = W := eW.symm
  subst eW
  have ra : rl a 0 4294967295 := ra
  refine sf_o ea <| sf_ite (fun _ => ?_) (fun _ => sf_zI rg_0 (Or.inl rfl))
  refine sf_ite (fun _ => sf_zI rg_0 (Or.inl rfl)) (fun _ => ?_)
  obtain ⟨⟨b, W⟩, eb, eW, rb⟩ := s_F_X4_entry_A (l1 := l1) (l2 := 3) hN hS r1' ⟨by decide, by decide⟩
  have eW : V = W := eW.symm
  subst eW
  have rb : rl b 0 4294967295 := rb
  refine sf_o eb <| sf_ite (fun hc => ?_) (fun _ => sf_zI rg_0 (Or.inl rfl))
  have hc := Int64.le_iff_toInt_le.mp (lgc_le.mp hc)
  have e1 := rl_tia ra rb (by decide) (by decide)
  have e2 := rl_tw r21
  have := r21.2
  have := ra.1
  have := rb.1
  refine tl_74 hN hk hS r1' (fun i h0 hi a2 b2 ea2 eb2 => ?_)
  by_cases ei : i.toInt < l1.toInt
  · exact hL i h0 ei a2 b2 ea2 eb2
  · have : i = l1 := Int32.toInt_inj.mp (by omega)
    subst this
    rw [ea] at ea2
    rw [eb] at eb2
    cases ea2
    cases eb2
    omega
theorem s_tablesLieRight {G : sv_V} {N : Nat} (hN : 8589934592 ≤ N) {V : sv_V} (hS : SIx T_cA G V) : Sg (QLR V) (F_X4_tablesLieRight N V) := by
  unfold F_X4_tablesLieRight
  refine lp2_up (I := fun l W => rg l 0 16 ∧ LRn l.toInt V ∧ W = V) (fun l _ => l.toInt) 0 16 (fun l W h => ⟨h.1.1, h.1.2⟩) (fun k l W h hk => ?_) N (by omega) 0 V ⟨⟨by decide, by decide⟩, fun i h0 hi => absurd hi (by rw [show (0 : Int32).toInt = 0 from rfl]; omega), rfl⟩
  obtain ⟨r, hL, rfl⟩ := h
  exact tl_2 hN (fun l2 r2 hL2 hc => hk l2 _ ⟨r2, hL2, rfl⟩ hc) hS r hL
theorem ok4 : ∀ k, okI T_cA 4 k 0 12000 := fun _ => ⟨⟨rfl, rfl⟩, rfl⟩
theorem ok5 (k : Nat) (h : k < 11) : okI T_cA 5 k 0 12000 := by
  have key : ∀ k, k < 11 → (T_cA.2.1 5 k = false ∧ T_cA.2.2.2 5 k = false) ∧ outR (T_cA.1 5 k) 0 12000 = true := by decide +kernel
  exact key k h
theorem ft_32 {G : sv_V} {N : Nat} (hN : 8589934592 ≤ N) {k2 : Int32 → sv_V → Option (Int32 × sv_V)} {l1 : Int32} (r1 : rg l1 0 10) (hk : ∀ l V, SIx T_cA G V → LR V → rg l 0 11 → l1.toInt < l.toInt → Sg (QI T_cA G 0 1) (k2 l V)) {V : sv_V} (hS : SIx T_cA G V) (hL : LR V) : Sg (QI T_cA G 0 1) (sx_lp3 (B_X4_findTables_32 N k2) N l1 0 V) := by
  refine lp3_up (I := fun a l W => a = l1 ∧ rg l 0 16 ∧ SIx T_cA G W ∧ LR W) (fun _ l _ => l.toInt) 0 16 (fun a l W h => ⟨h.2.1.1, h.2.1.2⟩) (fun k a l W h hk2 => ?_) N (by omega) l1 0 V ⟨rfl, ⟨by decide, by decide⟩, hS, hL⟩
  obtain ⟨rfl, r2, hS, hL⟩ := h
  have step : ∀ W2, SIx T_cA G W2 → LR W2 → l.toInt < 16 → Sg (QI T_cA G 0 1) (B_X4_findTables_90 N k2 k a l W2) := by
    intro W2 S2 L2 hl
    unfold B_X4_findTables_90
    refine sf_let fun x1 q1 => ?_
    have e := ti_1 q1 r2 (by decide)
    have := r2.1
    exact hk2 _ _ _ ⟨rfl, ⟨by omega, by omega⟩, S2, L2⟩ (by omega)
  unfold B_X4_findTables_32
  have r25 : rg (W.1 2 5) 0 16 := hS.rd (by decide +kernel)
  have g11 : sx_in a 11 = true := in_rg r1 (by decide) (by decide)
  have ha : a.toNatClampNeg < 11 := by
    have := r1.1
    have := r1.2
    show a.toInt.toNat < 11
    omega
  refine sf_ite (fun h => sf_let fun x3 q3 => ?_) (fun h => ?_)
  · have e := ti_1 q3 r1 (by decide)
    have := r1.1
    have := r1.2
    exact hk x3 W hS hL ⟨by omega, by omega⟩ (by omega)
  have h' := Int32.lt_iff_toInt_lt.mp (Int32.not_le.mp h)
  have := r25.2
  have r2' : rg l 0 15 := ⟨r2.1, by omega⟩
  refine sf_qL (s_F_X4_entry_A (l1 := l) (l2 := 0) hN hS r2' ⟨by decide, by decide⟩) fun x6 r6 => sf_p g11 <| sf_ite (fun _ => ?_) (fun _ => step W hS hL (by omega))
  obtain ⟨⟨x, W'⟩, ea, eW, ra⟩ := s_F_X4_entry_A (l1 := l) (l2 := 2) hN hS r2' ⟨by decide, by decide⟩
  have eW : W = W' := eW.symm
  subst eW
  have ra : rl x 0 4294967295 := ra
  obtain ⟨⟨y, W'⟩, eb, eW, rb⟩ := s_F_X4_entry_A (l1 := l) (l2 := 3) hN hS r2' ⟨by decide, by decide⟩
  have eW : W = W' := eW.symm
  subst eW
  have rb : rl y 0 4294967295 := rb
  obtain ⟨hx, hy⟩ := hL l r2.1 h' x y ea eb
  have rx : rg x.toInt32 0 12000 := rg_n (x := x) ⟨ra.1, hx⟩ (by decide) (by decide)
  have ry : rg y.toInt32 0 12000 := rg_n (x := y) ⟨rb.1, hy⟩ (by decide) (by decide)
  refine sf_o ea <| sf_p g11 <| sf_w (hS.wca ok4 rx) fun V1 q1 hS1 => ?_
  have e1 := (entry_cg (W := V1) (rd_c q1 (by decide)) (fun k => rd_c q1 (by decide)) eb).2
  have L1 : LR V1 := LR_fr (rd_c q1 (by decide)) (rd_c q1 (by decide)) (fun k => rd_c q1 (by decide)) hL
  refine sf_o e1 <| sf_p g11 <| sf_w (hS1.wc (ok5 _ ha) ry) fun V2 q2 hS2 => ?_
  exact step V2 hS2 (LR_fr (rd_c q2 (by decide)) (rd_c q2 (by decide)) (fun k => rd_c q2 (by decide)) L1) (by omega)
theorem ft_104 {G : sv_V} {N : Nat} (hN : 8589934592 ≤ N) {V : sv_V} (hS : SIx T_cA G V) : Sg (QI T_cA G 0 1) (sx_lp2 (B_X4_findTables_104 N) N 0 V) := by
  refine lp2_up (I := fun l W => rg l 0 7 ∧ SIx T_cA G W) (fun l _ => l.toInt) 0 7 (fun l W h => ⟨h.1.1, h.1.2⟩) (fun k l W h hk => ?_) N (by omega) 0 V ⟨⟨by decide, by decide⟩, hS⟩
  obtain ⟨r, hS⟩ := h
  unfold B_X4_findTables_104 F_X2_hasTable
  refine sf_ite (fun _ => sf_sI hS rg_1) (fun h => ?_)
  have h' := Int32.lt_iff_toInt_lt.mp (Int32.not_le.mp h)
  have h7 : (7 : Int32).toInt = 7 := rfl
  have := r.1
  have step : ∀ x : Int32, Sg (QI T_cA G 0 1) (if x = 0 then some (0, W) else sx_let (l + 1) fun x24 => k x24 W) := fun x => sf_ite (fun _ => sf_sI hS rg_0) (fun _ => sf_let fun y q => by
    have e := ti_1 q r (by decide)
    exact hk y W ⟨⟨by omega, by omega⟩, hS⟩ (by omega))
  refine sf_pb (in_om (by omega) (by omega)) <| sf_iteb (fun _ => sf_someb ?_) (fun _ => sf_someb ?_)
  · exact step 0
  · exact step 1
theorem s_findTables {G : sv_V} {N : Nat} (hN : 8589934592 ≤ N) {V : sv_V} (hS : SIx T_cA G V) (hL : LR V) : Sg (QI T_cA G 0 1) (F_X4_findTables N V) := by
  unfold F_X4_findTables
  refine lp2_up (I := fun l W => rg l 0 11 ∧ SIx T_cA G W ∧ LR W) (fun l _ => l.toInt) 0 11 (fun l W h => ⟨h.1.1, h.1.2⟩) (fun k l W h hk => ?_) N (by omega) 0 V ⟨⟨by decide, by decide⟩, hS, hL⟩
  obtain ⟨r, hS, hL⟩ := h
  unfold B_X4_findTables_2
  refine sf_ite (fun _ => ft_104 hN hS) (fun h => ?_)
  have h' := Int32.lt_iff_toInt_lt.mp (Int32.not_le.mp h)
  have h11 : (Int32.ofNat 11).toInt = 11 := rfl
  have r1 : rg l 0 10 := ⟨r.1, by omega⟩
  have g11 : sx_in l 11 = true := in_rg r1 (by decide) (by decide)
  have ha : l.toNatClampNeg < 11 := by
    have := r1.1
    have := r1.2
    show l.toInt.toNat < 11
    omega
  refine sf_p g11 <| sf_w (hS.wca ok4 ⟨by decide, by decide⟩) fun V1 q1 hS1 => sf_p g11 <| sf_w (hS1.wc (ok5 _ ha) ⟨by decide, by decide⟩) fun V2 q2 hS2 => ?_
  refine ft_32 hN r1 (fun l2 V3 S3 L3 r3 hc => hk l2 V3 ⟨r3, S3, L3⟩ hc) hS2 ?_
  exact LR_fr (rd_c q2 (by decide)) (rd_c q2 (by decide)) (fun k => rd_c q2 (by decide)) (LR_fr (rd_c q1 (by decide)) (rd_c q1 (by decide)) (fun k => rd_c q1 (by decide)) hL)
/-! maxp -/
theorem ok6 (k : Nat) (h : k < 7) : okI T_cA 6 k 0 ([2, 64, 64, 64, 16, 256, 4].getD k 0) := by
  have key : ∀ k, k < 7 → (T_cA.2.1 6 k = false ∧ T_cA.2.2.2 6 k = false) ∧ outR (T_cA.1 6 k) 0 ([2, 64, 64, 64, 16, 256, 4].getD k 0) = true := by decide +kernel
  exact key k h
theorem t1004 (k : Nat) (h : k < 7) : T_cA.1 1004 k = some ([1, 0, 0, 0, 0, 0, 0].getD k 0, [1, 0, 0, 0, 0, 0, 0].getD k 0) := by
  have key : ∀ k, k < 7 → T_cA.1 1004 k = some ([1, 0, 0, 0, 0, 0, 0].getD k 0, [1, 0, 0, 0, 0, 0, 0].getD k 0) := by decide +kernel
  exact key k h
theorem t1005 (k : Nat) (h : k < 7) : T_cA.1 1005 k = some ([2, 64, 64, 64, 16, 256, 4].getD k 0, [2, 64, 64, 64, 16, 256, 4].getD k 0) := by
  have key : ∀ k, k < 7 → T_cA.1 1005 k = some ([2, 64, 64, 64, 16, 256, 4].getD k 0, [2, 64, 64, 64, 16, 256, 4].getD k 0) := by decide +kernel
  exact key k h
def MX (V : sv_V) : Prop := rg (V.1 2 7) 1 200 ∧ rg (V.1 6 0) 1 2
theorem to_M {G V : sv_V} (hS : SIx T_cA G V) (h : MX V) : SIx T_cM G V := ⟨sub_rg (ex := [(2, 7), (6, 0)]) (by decide +kernel : subT A_cA F_cA A_cM F_cM [(2, 7), (6, 0)] = true) hS.1 (fun q hq l hh e => by
  simp only [List.mem_cons, List.not_mem_nil, or_false] at hq
  rcases hq with rfl | rfl
  · have e2 : R_of A_cM F_cM 2 7 = some (1, 200) := by decide +kernel
    rw [e2] at e
    cases e
    exact h.1
  · have e2 : R_of A_cM F_cM 6 0 = some (1, 2) := by decide +kernel
    rw [e2] at e
    cases e
    exact h.2), hS.2⟩
theorem M_A {G V : sv_V} (hS : SIx T_cM G V) : SIx T_cA G V := ⟨sub_rg (ex := []) (by decide +kernel : subT A_cM F_cM A_cA F_cA [] = true) hS.1 (fun q hq => by cases hq), hS.2⟩
theorem P_A {G V : sv_V} (hS : SIx T_cP G V) : SIx T_cA G V := ⟨sub_rg (ex := []) (by decide +kernel : subT A_cP F_cP A_cA F_cA [] = true) hS.1 (fun q hq => by cases hq), hS.2⟩
theorem U_A {G V : sv_V} (hS : SIx T_cU G V) : SIx T_cA G V := ⟨sub_rg (ex := []) (by decide +kernel : subT A_cU F_cU A_cA F_cA [] = true) hS.1 (fun q hq => by cases hq), hS.2⟩
theorem to_U {G V : sv_V} (hS : SIx T_cA G V) (h : V.1 2 2 = 0) : SIx T_cU G V := ⟨sub_rg (ex := [(2, 2)]) (by decide +kernel : subT A_cA F_cA A_cU F_cU [(2, 2)] = true) hS.1 (fun q hq l hh e => by
  simp only [List.mem_cons, List.not_mem_nil, or_false] at hq
  subst hq
  have e2 : R_of A_cU F_cU 2 2 = some (0, 0) := by decide +kernel
  rw [e2] at e
  cases e
  rw [h]
  exact ⟨by decide, by decide⟩), hS.2⟩
theorem to_P {G V : sv_V} (hS : SIx T_cM G V) (h : rg (V.1 5 8) 0 512) : SIx T_cP G V := ⟨sub_rg (ex := [(5, 8)]) (by decide +kernel : subT A_cM F_cM A_cP F_cP [(5, 8)] = true) hS.1 (fun q hq l hh e => by
  simp only [List.mem_cons, List.not_mem_nil, or_false] at hq
  subst hq
  have e2 : R_of A_cP F_cP 5 8 = some (0, 512) := by decide +kernel
  rw [e2] at e
  cases e
  exact h), hS.2⟩
/-- an answer, and the maxp's ranges if it isn't 0 -/
def QM (G : sv_V) (p : Int32 × sv_V) : Prop := SIx T_cA G p.2 ∧ rg p.1 0 1 ∧ (p.1.toInt = 0 ∨ MX p.2)
theorem mp_86 {G : sv_V} {N : Nat} (hN : 8589934592 ≤ N) {l1 : Int32} (r1 : rg l1 0 12000) {V : sv_V} (hS : SIx T_cA G V) (h7 : rg (V.1 2 7) 1 200) : Sg (QM G) (sx_lp3 (B_X4_maxpHolds_86 N) N l1 0 V) := by
  refine lp3_up (I := fun a l W => a = l1 ∧ rg l 0 7 ∧ SIx T_cA G W ∧ rg (W.1 2 7) 1 200 ∧ (0 < l.toInt → rg (W.1 6 0) 1 2)) (fun _ l _ => l.toInt) 0 7 (fun a l W h => ⟨h.2.1.1, h.2.1.2⟩) (fun k a l W h hk => ?_) N (by omega) l1 0 V ⟨rfl, ⟨by decide, by decide⟩, hS, h7, fun q => absurd q (by decide)⟩
  obtain ⟨rfl, r, hS, h7, h0⟩ := h
  have no : Sg (QM G) (some ((0 : Int32), W)) := ⟨_, rfl, hS, rg_0, Or.inl rfl⟩
  unfold B_X4_maxpHolds_86
  refine sf_ite (fun h => ?_) (fun h => ?_)
  · have h' := Int32.le_iff_toInt_le.mp h
    have e7 : (Int32.ofNat 7).toInt = 7 := rfl
    have yes : Sg (QM G) (B_X4_maxpHolds_170 N W) := ⟨_, rfl, hS, rg_1, Or.inr ⟨h7, h0 (by omega)⟩⟩
    exact sf_ite (fun _ => yes) (fun _ => sf_ite (fun _ => yes) (fun _ => no))
  have h' := Int32.lt_iff_toInt_lt.mp (Int32.not_le.mp h)
  have e7 : (Int32.ofNat 7).toInt = 7 := rfl
  have r6 : rg l 0 6 := ⟨r.1, by omega⟩
  have g7 : sx_in l 7 = true := in_rg r6 (by decide) (by decide)
  have ha : l.toNatClampNeg < 7 := by
    have := r6.1
    have := r6.2
    show l.toInt.toNat < 7
    omega
  have rp : rg (W.1 1002 l.toNatClampNeg) 0 30 := hS.rdA (fun _ => rfl)
  refine sf_p g7 <| sf_qI (s_F_X2_u2_A hN hS (rg_m (rg_add r1 rp (by decide) (by decide)) (by decide) (by decide))) fun x7 rx => sf_p g7 <| sf_ite (fun _ => no) (fun hlo => sf_p g7 <| sf_ite (fun hhi => sf_p g7 <| ?_) (fun _ => no))
  have hlo := Int32.le_iff_toInt_le.mp (Int32.not_lt.mp hlo)
  have hhi := Int32.le_iff_toInt_le.mp hhi
  have q4 := (hS.rd (t1004 _ ha)).1
  have q5 := (hS.rd (t1005 _ ha)).2
  have rx2 : rg x7 0 ([2, 64, 64, 64, 16, 256, 4].getD l.toNatClampNeg 0) := ⟨rx.1, by omega⟩
  refine sf_w (hS.wc (ok6 _ ha) rx2) fun V1 q1 hS1 => sf_let fun y q => ?_
  have e := ti_1 q r (by decide)
  have := r.1
  refine hk _ y V1 ⟨rfl, ⟨by omega, by omega⟩, hS1, by rw [rd_c q1 (by decide)]; exact h7, fun _ => ?_⟩ (by omega)
  by_cases hl : l.toNatClampNeg = 0
  · rw [hl] at q1 hlo hhi q4 q5
    rw [rd_s q1]
    have a4 : ([1, 0, 0, 0, 0, 0, 0].getD 0 0 : Int) = 1 := rfl
    have a5 : ([2, 64, 64, 64, 16, 256, 4].getD 0 0 : Int) = 2 := rfl
    exact ⟨by omega, by omega⟩
  · rw [rd_k q1 (fun z => hl z.symm)]
    refine h0 ?_
    have : l.toInt.toNat ≠ 0 := hl
    omega
theorem s_maxpHolds {G : sv_V} {N : Nat} (hN : 8589934592 ≤ N) {V : sv_V} (hS : SIx T_cA G V) : Sg (QM G) (F_X4_maxpHolds N V) := by
  unfold F_X4_maxpHolds
  refine sf_let fun x15 q15 => ?_
  have r15 : rg x15 0 12000 := by
    rw [q15]
    exact hS.rdA (fun _ => rfl)
  refine sf_qI (s_F_X2_u2_A hN hS (rg_m (rg_add r15 (rg_c (x := (4 : Int32)) (n := 4) rfl) (by decide) (by decide)) (by decide) (by decide))) fun x18 r18 => ?_
  refine sf_w (hS.wc (a := 2) (k := 7) (l := 0) (h := 65535) ⟨⟨rfl, rfl⟩, by decide +kernel⟩ r18) fun V1 q1 hS1 => ?_
  have no : Sg (QM G) (some ((0 : Int32), V1)) := ⟨_, rfl, hS1, rg_0, Or.inl rfl⟩
  refine sf_ite (fun _ => ?_) (fun _ => no)
  refine sf_qL (s_F_X2_u4_A hN hS1 (rg_m r15 (by decide) (by decide))) fun x23 r23 => ?_
  refine sf_ite (fun _ => ?_) (fun _ => no)
  refine sf_ite (fun _ => no) (fun h1 => sf_ite (fun h2 => ?_) (fun _ => no))
  have h1 := Int32.le_iff_toInt_le.mp (Int32.not_lt.mp h1)
  have h2 := Int32.le_iff_toInt_le.mp h2
  exact mp_86 hN r15 hS1 ⟨h1, h2⟩
theorem s_programsHold {G : sv_V} {V : sv_V} (hS : SIx T_cM G V) : Sg (fun p : Int32 × sv_V => p.2 = V ∧ (p.1 = 0 ∨ rg (V.1 5 8) 0 512)) (F_X4_programsHold V) := by
  unfold F_X4_programsHold
  have no : Sg (fun p : Int32 × sv_V => p.2 = V ∧ (p.1 = 0 ∨ rg (V.1 5 8) 0 512)) (some ((0 : Int32), V)) := ⟨_, rfl, rfl, Or.inl rfl⟩
  have r8 : rg (V.1 5 8) 0 12000 := hS.rd (by decide +kernel)
  refine sf_ite (fun _ => sf_ite (fun _ => no) (fun h => sf_ite (fun _ => no) (fun _ => sf_ite (fun _ => no) (fun _ => ⟨_, rfl, rfl, Or.inr ⟨r8.1, ?_⟩⟩)))) (fun _ => no)
  exact Int32.le_iff_toInt_le.mp (Int32.not_lt.mp h)
/-- what load's check leaves: a font that holds, or any -/
def QF (G : sv_V) (p : Int32 × sv_V) : Prop := SIx T_cA G p.2 ∧ (p.1 = 0 → SIx T_cP G p.2)
theorem s_findFault {G : sv_V} {N : Nat} (hN : 8589934592 ≤ N) {V : sv_V} (hS : SIx T_cA G V) : Sg (QF G) (F_X4_findFault N V) := by
  unfold F_X4_findFault
  have no : ∀ (x : Int32) (W : sv_V), x ≠ 0 → SIx T_cA G W → Sg (QF G) (some (x, W)) := fun x W hx S => ⟨_, rfl, S, fun e => absurd e hx⟩
  refine sf_bI (s_F_X4_directoryHolds_A hN hS) fun x V1 hS r => sf_ite (fun _ => no _ _ (by decide) hS) fun _ => ?_
  refine sf_qI (s_F_X4_tagsRise_A hN hS) fun x r => sf_ite (fun _ => no _ _ (by decide) hS) fun _ => ?_
  refine sf_yI (s_tablesLieRight hN hS) fun x r hL => sf_ite (fun _ => no _ _ (by decide) hS) fun hx => ?_
  have hL : LR V1 := hL.resolve_left (fun e => hx (Int32.toInt_inj.mp e))
  refine sf_qI (s_F_X4_sumsHold_A hN hS) fun x r => sf_ite (fun _ => no _ _ (by decide) hS) fun _ => ?_
  refine sf_bI (s_findTables hN hS hL) fun x V2 hS r => sf_ite (fun _ => no _ _ (by decide) hS) fun _ => ?_
  refine sf_bI (s_F_X4_headHolds_A hN hS) fun x V3 hS r => sf_ite (fun _ => no _ _ (by decide) hS) fun _ => ?_
  obtain ⟨⟨x, V4⟩, e4, hS4, r4, h4⟩ := s_maxpHolds hN hS
  refine sf_o e4 <| sf_ite (fun _ => no _ _ (by decide) hS4) fun hx => ?_
  have hS := to_M hS4 (h4.resolve_left (fun e => hx (Int32.toInt_inj.mp e)))
  refine sf_bI (s_F_X4_hheaHolds_M hN hS) fun x V5 hS r => sf_ite (fun _ => no _ _ (by decide) (M_A hS)) fun _ => ?_
  refine sf_qI (s_F_X4_hmtxHolds_M hN hS) fun x r => sf_ite (fun _ => no _ _ (by decide) (M_A hS)) fun _ => ?_
  refine sf_bI (s_F_X4_locaHolds_M hN hS) fun x V7 hS r => sf_ite (fun _ => no _ _ (by decide) (M_A hS)) fun _ => ?_
  refine sf_bI (s_F_X3_glyphsHold_M hN hS) fun x V8 hS r => sf_ite (fun _ => no _ _ (by decide) (M_A hS)) fun _ => ?_
  refine sf_bI (s_F_X4_cmapHolds_M hN hS) fun x V9 hS r => sf_ite (fun _ => no _ _ (by decide) (M_A hS)) fun _ => ?_
  refine sf_bI (s_F_X4_kernHolds_M hN hS) fun x V10 hS r => sf_ite (fun _ => no _ _ (by decide) (M_A hS)) fun _ => ?_
  obtain ⟨⟨x, W⟩, e, hW, h⟩ := s_programsHold hS
  have hW : W = _ := hW
  subst hW
  refine sf_o e <| sf_ite (fun _ => no _ _ (by decide) (M_A hS)) fun hx => ?_
  exact ⟨_, rfl, M_A hS, fun _ => to_P hS (h.resolve_left hx)⟩
/-- between two calls: no font, or one that holds -/
def CI (G V : sv_V) : Prop := SIx T_cU G V ∨ SIx T_cP G V
theorem s_load_c {G : sv_V} {N : Nat} (hN : 8589934592 ≤ N) {V : sv_V} (hS : CI G V) : Sg (fun p : Int32 × sv_V => CI G p.2) (F_X11_load N V) := by
  unfold F_X11_load
  have hS : SIx T_cA G V := hS.elim U_A P_A
  refine sf_bV (s_F_X6_forgetAll_A hN hS) fun V1 hS => ?_
  refine sf_bV (s_F_X2_take_A hN hS (hS.rd (by decide +kernel))) fun V2 hS => ?_
  obtain ⟨⟨x, V3⟩, e, hS, hP⟩ := s_findFault hN hS
  refine sf_o e <| sf_ite (fun hx => ?_) (fun hx => ?_)
  · unfold B_X11_load_43
    refine sf_p (by decide) <| sf_w ((hP hx).wc (a := 2) (k := 2) (l := 0) (h := 1) ⟨⟨rfl, rfl⟩, by decide +kernel⟩ rg_1) fun V4 q4 hS4 => ?_
    exact sf_ite (fun _ => ⟨_, rfl, Or.inr hS4⟩) (fun _ => ⟨_, rfl, Or.inr hS4⟩)
  · unfold B_X11_load_43
    refine sf_p (by decide) <| sf_w (hS.wc (a := 2) (k := 2) (l := 0) (h := 1) ⟨⟨rfl, rfl⟩, by decide +kernel⟩ rg_0) fun V4 q4 hS4 => ?_
    have := to_U hS4 (rd_s q4)
    exact sf_ite (fun _ => ⟨_, rfl, Or.inl this⟩) (fun _ => ⟨_, rfl, Or.inl this⟩)
