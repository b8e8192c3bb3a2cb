/-! safety, r, 6 -/
theorem s_F_X12_followAll_Q {G : sv_V} {N : Nat} (hN : 8589934592 ≤ N) {l1 : Nat} {l2 : Nat} {l3 : Int32} {V : sv_V} (hS_V : SIx T_rQ G V) (m_l1 : l1 ∈ [166, 167]) (m_l2 : l2 ∈ [168, 169]) (r_l3 : rg l3 (1) (2)) : Sg (SIx T_rQ G) (F_X12_followAll N l1 l2 l3 V) := by
  have r3 := r_l3
  have LL : ∀ (first last c : Int32) (V : sv_V), SIx T_rQ G V → 0 ≤ first.toInt → first.toInt ≤ 102 → rg last 0 101 → rg c 0 19 → ∀ k6 : Nat → Nat → Int32 → Int32 → Int32 → sv_V → Option sv_V, (∀ W x, SIx T_rQ G W → x = c + 1 → Sg (SIx T_rQ G) (k6 l1 l2 l3 (last + 1) x W)) → Sg (SIx T_rQ G) (sx_lp9 (B_X12_followAll_31 N k6) N l1 l2 l3 first c last 0 first V) := by
    intro first last c V hS f0 f1 rl_ rc k6 hk6
    have l0 := rl_.1
    have l1' := rl_.2
    have b200 : ∀ W, SIx T_rQ G W → Sg (SIx T_rQ G) (B_X12_followAll_200 N k6 l1 l2 l3 c last W) := fun W S => by
      unfold B_X12_followAll_200
      exact sf_let fun x q => sf_let fun y q2 => by rw [q]; exact hk6 W y S q2
    have L73 : ∀ (m : Int32) (W : sv_V), SIx T_rQ G W → (m.toInt ≤ 0 ∨ TE W l3 first last) → Sg (SIx T_rQ G) (sx_lp9 (B_X12_followAll_73 N k6) N l1 l2 l3 first c last m first W) := by
      intro m W hS hm
      refine lp9_up (I := fun a b d e f g h p W => a = l1 ∧ b = l2 ∧ d = l3 ∧ e = first ∧ f = c ∧ g = last ∧ h = m ∧ first.toInt ≤ p.toInt ∧ p.toInt ≤ 102 ∧ SIx T_rQ G W ∧ (m.toInt ≤ 0 ∨ TE W l3 first last)) (fun _ _ _ _ _ _ _ p _ => p.toInt) 0 102 (fun a b d e f g h p W q => ⟨by have := q.2.2.2.2.2.2.2.1; omega, q.2.2.2.2.2.2.2.2.1⟩) (fun k a b d e f g h p W q hk => ?_) N (by have := hN; omega) _ _ _ _ _ _ _ _ _ ⟨rfl, rfl, rfl, rfl, rfl, rfl, rfl, Int.le_refl _, f1, hS, hm⟩
      obtain ⟨rfl, rfl, rfl, rfl, rfl, rfl, rfl, p0, p1, hS, hm⟩ := q
      have b194 : ∀ W, SIx T_rQ G W → (h.toInt ≤ 0 ∨ TE W d e g) → p.toInt ≤ g.toInt → Sg (SIx T_rQ G) (B_X12_followAll_194 N k6 k a b d e f g h p W) := fun W S hm hp => by
        unfold B_X12_followAll_194
        refine sf_let fun x q => ?_
        have ex := ti_1 q (show rg p 0 101 from ⟨by omega, by omega⟩) (by decide)
        exact hk _ _ _ _ _ _ _ x W ⟨rfl, rfl, rfl, rfl, rfl, rfl, rfl, by omega, by omega, S, hm⟩ (by omega)
      unfold B_X12_followAll_73
      refine sf_ite (fun _ => b200 W hS) (fun hnl => sf_ite (fun _ => b200 W hS) (fun hnm => ?_))
      have h1' := Int32.le_iff_toInt_le.mp (Int32.not_lt.mp hnl)
      have h2' := Int32.lt_iff_toInt_lt.mp (Int32.not_le.mp hnm)
      have e0 : (0 : Int32).toInt = 0 := rfl
      have hT : TE W d e g := hm.resolve_left (by omega)
      obtain ⟨t, t1, t2, t3⟩ := hT
      have ip := i102 (p := p) (by omega) (by omega)
      refine sf_p ip.1 <| sf_ite (fun _ => ?_) (fun _ => b194 W hS hm h1')
      -- the loop of what stands before
      refine lp11_up (I := fun a' b' d' e' f' g' h' p' bf bh W' => a' = a ∧ b' = b ∧ d' = d ∧ e' = e ∧ f' = f ∧ g' = g ∧ h' = h ∧ p' = p ∧ bh = p ∧ W' = W ∧ e.toInt ≤ bf.toInt ∧ bf.toInt ≤ g.toInt) (fun _ _ _ _ _ _ _ _ bf _ _ => if (t : Int) < bf.toInt then (t : Int) - bf.toInt else (t : Int) - bf.toInt - (g.toInt - e.toInt + 1)) (-300) 300 (fun a' b' d' e' f' g' h' p' bf bh W' q => by
        have := q.2.2.2.2.2.2.2.2.2.2.1
        have := q.2.2.2.2.2.2.2.2.2.2.2
        split <;> omega) (fun k1 a' b' d' e' f' g' h' p' bf bh W' q hk1 => ?_) N (by have := hN; omega) _ _ _ _ _ _ _ _ _ _ _ ⟨rfl, rfl, rfl, rfl, rfl, rfl, rfl, rfl, rfl, rfl, p0, h1'⟩
      obtain ⟨rfl, rfl, rfl, rfl, rfl, rfl, rfl, rfl, rfl, rfl, bf0, bf1⟩ := q
      have b124 : ∀ s0 : Int32, e'.toInt ≤ s0.toInt → s0.toInt ≤ g'.toInt → ((t : Int) ≠ s0.toInt → (if (t : Int) < bf.toInt then (t : Int) - bf.toInt else (t : Int) - bf.toInt - (g'.toInt - e'.toInt + 1)) < (if (t : Int) < s0.toInt then (t : Int) - s0.toInt else (t : Int) - s0.toInt - (g'.toInt - e'.toInt + 1))) → Sg (SIx T_rQ G) (B_X12_followAll_124 N k6 k k1 a' b' d' e' f' g' h' bh bh s0 W') := fun s0 z0 z1 hs => by
        have is := i102 (p := s0) (by omega) (by omega)
        have hs0 := tncn s0 (by omega)
        unfold B_X12_followAll_124
        refine sf_p is.1 <| sf_ite (fun hu => ?_) (fun _ => ?_)
        · rw [is.2.2] at hu
          have hne : (t : Int) ≠ s0.toInt := fun ee => t3 (by rw [show t = s0.toNatClampNeg by omega]; exact hu)
          exact hk1 _ _ _ _ _ _ _ _ s0 _ _ ⟨rfl, rfl, rfl, rfl, rfl, rfl, rfl, rfl, rfl, rfl, z0, z1⟩ (hs hne)
        -- the loop of what stands behind
        refine lp11_up (I := fun a2 b2 d2 e2 f2 g2 h2 p2 bf2 bh2 W2 => a2 = a' ∧ b2 = b' ∧ d2 = d' ∧ e2 = e' ∧ f2 = f' ∧ g2 = g' ∧ h2 = h' ∧ p2 = bh ∧ bf2 = s0 ∧ W2 = W' ∧ e'.toInt ≤ bh2.toInt ∧ bh2.toInt ≤ g'.toInt) (fun _ _ _ _ _ _ _ _ _ b2 _ => if b2.toInt < (t : Int) then b2.toInt - (t : Int) else b2.toInt - (t : Int) - (g'.toInt - e'.toInt + 1)) (-300) 300 (fun a2 b2 d2 e2 f2 g2 h2 p2 bf2 bh2 W2 q => by
          have := q.2.2.2.2.2.2.2.2.2.2.1
          have := q.2.2.2.2.2.2.2.2.2.2.2
          split <;> omega) (fun k2 a2 b2 d2 e2 f2 g2 h2 p2 bf2 bh2 W2 q hk2 => ?_) N (by have := hN; omega) _ _ _ _ _ _ _ _ _ _ _ ⟨rfl, rfl, rfl, rfl, rfl, rfl, rfl, rfl, rfl, rfl, p0, h1'⟩
        obtain ⟨rfl, rfl, rfl, rfl, rfl, rfl, rfl, rfl, rfl, rfl, c0, c1⟩ := q
        have b157 : ∀ s1 : Int32, e2.toInt ≤ s1.toInt → s1.toInt ≤ g2.toInt → ((t : Int) ≠ s1.toInt → (if bh2.toInt < (t : Int) then bh2.toInt - (t : Int) else bh2.toInt - (t : Int) - (g2.toInt - e2.toInt + 1)) < (if s1.toInt < (t : Int) then s1.toInt - (t : Int) else s1.toInt - (t : Int) - (g2.toInt - e2.toInt + 1))) → Sg (SIx T_rQ G) (B_X12_followAll_157 N k6 k k2 a2 b2 d2 e2 f2 g2 h2 p2 bf2 s1 W2) := fun s1 y0 y1 hs1 => by
          have i1 := i102 (p := s1) (by omega) (by omega)
          have hs1' := tncn s1 (by omega)
          unfold B_X12_followAll_157
          refine sf_p i1.1 <| sf_ite (fun hu => ?_) (fun _ => ?_)
          · rw [i1.2.2] at hu
            have hne : (t : Int) ≠ s1.toInt := fun ee => t3 (by rw [show t = s1.toNatClampNeg by omega]; exact hu)
            exact hk2 _ _ _ _ _ _ _ _ _ s1 _ ⟨rfl, rfl, rfl, rfl, rfl, rfl, rfl, rfl, rfl, rfl, y0, y1⟩ (hs1 hne)
          have ib := i102 (p := bf2) (by omega) (by omega)
          have ip := i102 (p := p2) (by omega) (by omega)
          refine sf_eV (s_F_X12_follow_Q hN hS m_l1 m_l2 ⟨by have := ip.2.1; omega, by have := ip.2.1; omega⟩ (by have := ib.2.1; omega) (by have := ib.2.1; omega) (by have := i1.2.1; omega) (by have := i1.2.1; omega)) fun V6 e6 S6 => b194 V6 S6 (Or.inr ⟨t, t1, t2, ?_⟩) h1'
          have fr := m_X12_follow (Lm := [(168, none), (169, none)]) (sv_sub_rf.sub (by decide +kernel)) (fun k => hit_S (L := [168, 169]) m_l2 k rfl) e6
          rw [rd_fr fr rfl]
          exact t3
        unfold B_X12_followAll_141
        refine sf_ite (fun he => b157 e2 (Int.le_refl _) (by omega) (fun hne => ?_)) (fun he => b157 (bh2 + 1) ?_ ?_ (fun hne => ?_))
        · have : bh2.toInt = g2.toInt := by rw [he]
          split <;> split <;> omega
        all_goals
          have he' : ¬ bh2.toInt = g2.toInt := fun ee => he (Int32.toInt_inj.mp ee)
          have ee := ti_1 (rfl : bh2 + 1 = bh2 + 1) (show rg bh2 0 101 from ⟨by omega, by omega⟩) (by decide)
        · omega
        · omega
        · split <;> split <;> omega
      unfold B_X12_followAll_108
      refine sf_ite (fun he => b124 g' (by omega) (Int.le_refl _) (fun hne => ?_)) (fun he => b124 (bf - 1) ?_ ?_ (fun hne => ?_))
      · have : bf.toInt = e'.toInt := by rw [he]
        split <;> split <;> omega
      all_goals
        have he' : ¬ bf.toInt = e'.toInt := fun ee => he (Int32.toInt_inj.mp ee)
        have ee : (bf - 1).toInt = bf.toInt - 1 := by
          rw [Int32.toInt_sub, show (1 : Int32).toInt = 1 from rfl, bm32 (by omega) (by omega)]
      · omega
      · omega
      · split <;> split <;> omega
    refine lp9_up (I := fun a b d e f g h p W => a = l1 ∧ b = l2 ∧ d = l3 ∧ e = first ∧ f = c ∧ g = last ∧ first.toInt ≤ p.toInt ∧ p.toInt ≤ 102 ∧ 0 ≤ h.toInt ∧ h.toInt ≤ p.toInt ∧ SIx T_rQ G W ∧ (h.toInt ≤ 0 ∨ TE W l3 first last)) (fun _ _ _ _ _ _ _ p _ => p.toInt) 0 102 (fun a b d e f g h p W q => ⟨by have := q.2.2.2.2.2.2.1; omega, q.2.2.2.2.2.2.2.1⟩) (fun k a b d e f g h p W q hk => ?_) N (by have := hN; omega) _ _ _ _ _ _ _ _ _ ⟨rfl, rfl, rfl, rfl, rfl, rfl, Int.le_refl _, f1, by decide, by have e0 : (0 : Int32).toInt = 0 := rfl; omega, hS, Or.inl (by decide)⟩
    obtain ⟨rfl, rfl, rfl, rfl, rfl, rfl, p0, p1, h0, h1, hS, hm⟩ := q
    unfold B_X12_followAll_31
    refine sf_ite (fun _ => L73 h W hS hm) (fun hp => ?_)
    have hp' := Int32.le_iff_toInt_le.mp (Int32.not_lt.mp hp)
    have ip := i102 (p := p) (by omega) (by omega)
    have hpn := tncn p (by omega)
    have b60 : ∀ z : Int32, rg z 0 1 → (z.toInt ≤ 0 ∨ TE W d e g) → Sg (SIx T_rQ G) (B_X12_followAll_60 N k6 k a b d e f g p h z W) := fun z rz hz => by
      have z1 := rz.1
      have z2 := rz.2
      unfold B_X12_followAll_60
      refine sf_let fun x q => sf_let fun y q2 => ?_
      have ex : x.toInt = h.toInt + z.toInt := by
        rw [q, Int32.toInt_add, bm32 (by omega) (by omega)]
      have ey := ti_1 q2 (show rg p 0 101 from ⟨by omega, by omega⟩) (by decide)
      refine hk _ _ _ _ _ _ x y W ⟨rfl, rfl, rfl, rfl, rfl, rfl, by omega, by omega, by omega, by omega, hS, ?_⟩ (by omega)
      rcases hm with q | q
      · rcases hz with q2 | q2
        · exact Or.inl (by omega)
        · exact Or.inr q2
      · exact Or.inr q
    refine sf_p ip.1 <| sf_ite (fun _ => b60 0 ⟨by decide, by decide⟩ (Or.inl (by decide))) (fun ht => b60 1 ⟨by decide, by decide⟩ (Or.inr ⟨p.toNatClampNeg, by omega, by omega, ?_⟩))
    rw [ip.2.2] at ht
    exact ht
  unfold F_X12_followAll
  refine lp6_up (I := fun a b d f c W => a = l1 ∧ b = l2 ∧ d = l3 ∧ 0 ≤ f.toInt ∧ f.toInt ≤ 102 ∧ rg c 0 20 ∧ SIx T_rQ G W) (fun _ _ _ _ c _ => c.toInt) 0 20 (fun a b d f c W q => ⟨q.2.2.2.2.2.1.1, q.2.2.2.2.2.1.2⟩) (fun k a b d f c W q hk => ?_) N (by have := hN; omega) _ _ _ _ _ _ ⟨rfl, rfl, rfl, by decide, by decide, ⟨by decide, by decide⟩, hS_V⟩
  obtain ⟨rfl, rfl, rfl, f0, f1, rc, hS⟩ := q
  unfold B_X12_followAll_6
  refine sf_ite (fun _ => sf_sV hS) (fun h => ?_)
  have rco : rg (W.1 146 53) 0 20 := hS.rd (by decide +kernel)
  have h' := Int32.lt_iff_toInt_lt.mp (Int32.not_le.mp h)
  have c1 := rco.2
  have c0 := rc.1
  have rc' : rg c 0 19 := ⟨c0, by omega⟩
  refine sf_p (in_om c0 (by omega)) <| sf_let fun x q => ?_
  have rx : rg x 0 101 := by
    rw [q]
    exact hS.rdA (fun _ => rfl)
  refine LL f x c W hS f0 f1 rx rc' k (fun W2 y S2 q2 => ?_)
  have ey := ti_1 q2 rc' (by decide)
  have ex := ti_1 (rfl : x + 1 = x + 1) rx (by decide)
  have x0 := rx.1
  have x1 := rx.2
  exact hk _ _ _ _ y W2 ⟨rfl, rfl, rfl, by omega, by omega, ⟨by omega, by omega⟩, S2⟩ (by omega)
theorem s_B_X12_likeReference_180_Q {G : sv_V} {N : Nat} (hN : 8589934592 ≤ N) {k137 : Int32 → Int32 → Int32 → sv_V → Option sv_V} {c_k137 : Int} (hk_k137 : ∀ (l2 : Int32) (l6 : Int32) (l7 : Int32) (V : sv_V), SIx T_rQ G V → rg l2 (-2147483648) (256) → rg l7 (0) (256) → l2.toInt - l7.toInt ≤ (V.1 146 56).toInt → c_k137 < l7.toInt → Sg (SIx T_rQ G) (k137 l2 l6 l7 V)) {l2 : Int32} {l6 : Int32} {l7 : Int32} {V : sv_V} (hS_V : SIx T_rQ G V) (r_l2 : rg l2 (1) (256)) (r_l7 : rg l7 (0) (255)) (an_0 : l2.toInt - l7.toInt - 1 ≤ (V.1 146 56).toInt) (hc_k137 : c_k137 ≤ l7.toInt) : Sg (SIx T_rQ G) (B_X12_likeReference_180 N k137 l2 l6 l7 V) := by
  unfold B_X12_likeReference_180
  exact
    sf_let fun x_1 q_2 =>
    have f_3 := rg_eq q_2 (rg_add r_l7 (rg_c (x := (1 : Int32)) (n := 1) rfl) (by decide) (by decide))
    hk_k137 _ _ _ _ hS_V (rg_m r_l2 (by decide) (by decide)) (rg_m f_3 (by decide) (by decide)) (by have := (r_l2).1; have := (r_l2).2; have := (f_3).1; have := (f_3).2; have := congrArg Int32.toInt q_2; have := ((rg_add r_l7 (rg_c (x := (1 : Int32)) (n := 1) rfl) (by decide) (by decide))).1; have := ((rg_add r_l7 (rg_c (x := (1 : Int32)) (n := 1) rfl) (by decide) (by decide))).2; have := rg_tia r_l7 (rg_c (x := (1 : Int32)) (n := 1) rfl) (by decide) (by decide); have := (r_l7).1; have := (r_l7).2; have := ((hS_V.rd r_RrQ_146_56)).1; have := ((hS_V.rd r_RrQ_146_56)).2; have := an_0; have : (1 : Int32).toInt = 1 := rfl; omega) (cnt_u0 q_2 r_l7 (by decide) hc_k137)
theorem s_B_X12_likeReference_137_Q {G : sv_V} {N : Nat} (hN : 8589934592 ≤ N) {k137 : Int32 → Int32 → Int32 → sv_V → Option sv_V} {c_k137 : Int} (hk_k137 : ∀ (l2 : Int32) (l6 : Int32) (l7 : Int32) (V : sv_V), SIx T_rQ G V → rg l2 (-2147483648) (256) → rg l7 (0) (256) → l2.toInt - l7.toInt ≤ (V.1 146 56).toInt → c_k137 < l7.toInt → Sg (SIx T_rQ G) (k137 l2 l6 l7 V)) {l2 : Int32} {l6 : Int32} {l7 : Int32} {V : sv_V} (hS_V : SIx T_rQ G V) (r_l2 : rg l2 (-2147483648) (256)) (r_l7 : rg l7 (0) (256)) (an_0 : l2.toInt - l7.toInt ≤ (V.1 146 56).toInt) (hc_k137 : c_k137 ≤ l7.toInt) : Sg (SIx T_rQ G) (B_X12_likeReference_137 N k137 l2 l6 l7 V) := by
  unfold B_X12_likeReference_137
  exact
    sf_ite (fun h_1 =>
    sf_w (q_loop hS_V (by have := ((hS_V.rd r_RrQ_146_59)).1; have := ((hS_V.rd r_RrQ_146_59)).2; have := Int32.le_iff_toInt_le.mp h_1; have := (r_l2).1; have := (r_l2).2; have := (r_l7).1; have := (r_l7).2; have := ((hS_V.rd r_RrQ_146_56)).1; have := ((hS_V.rd r_RrQ_146_56)).2; have := an_0; have : (1 : Int32).toInt = 1 := rfl; omega)) fun V_2 q_3 hS_V_2 =>
    sf_sV hS_V_2)
     (fun h_1 =>
    have f_4 := (rg_hlt (Int32.not_le.mp h_1) r_l7 r_l2)
    have f_5 := (rg_llt (Int32.not_le.mp h_1) r_l7 r_l2)
    sf_ite (fun h_6 =>
    have f_7 := (rg_eq h_6 (rg_c (x := (0 : Int32)) (n := 0) rfl))
    sf_wb (hS_V.wc oi_RrQ_146_56 (rg_m (show rg _ (0) (255) from ⟨(by have := ((rg_sub (hS_V.rd r_RrQ_146_56) (rg_c (x := (1 : Int32)) (n := 1) rfl) (by decide) (by decide))).1; have := ((rg_sub (hS_V.rd r_RrQ_146_56) (rg_c (x := (1 : Int32)) (n := 1) rfl) (by decide) (by decide))).2; have := rg_tis (hS_V.rd r_RrQ_146_56) (rg_c (x := (1 : Int32)) (n := 1) rfl) (by decide) (by decide); have := ((hS_V.rd r_RrQ_146_56)).1; have := ((hS_V.rd r_RrQ_146_56)).2; have := Int32.lt_iff_toInt_lt.mp (Int32.not_le.mp h_1); have := (f_4).1; have := (f_4).2; have := (f_5).1; have := (f_5).2; have := congrArg Int32.toInt h_6; have := (f_7).1; have := (f_7).2; have := an_0; have : (0 : Int32).toInt = 0 := rfl; have : (1 : Int32).toInt = 1 := rfl; omega), (by have := ((rg_sub (hS_V.rd r_RrQ_146_56) (rg_c (x := (1 : Int32)) (n := 1) rfl) (by decide) (by decide))).1; have := ((rg_sub (hS_V.rd r_RrQ_146_56) (rg_c (x := (1 : Int32)) (n := 1) rfl) (by decide) (by decide))).2; have := rg_tis (hS_V.rd r_RrQ_146_56) (rg_c (x := (1 : Int32)) (n := 1) rfl) (by decide) (by decide); have := ((hS_V.rd r_RrQ_146_56)).1; have := ((hS_V.rd r_RrQ_146_56)).2; have := Int32.lt_iff_toInt_lt.mp (Int32.not_le.mp h_1); have := (f_4).1; have := (f_4).2; have := (f_5).1; have := (f_5).2; have := congrArg Int32.toInt h_6; have := (f_7).1; have := (f_7).2; have := an_0; have : (0 : Int32).toInt = 0 := rfl; have : (1 : Int32).toInt = 1 := rfl; omega)⟩) (by decide) (by decide))) fun V_10 q_11 hS_V_10 =>
    sf_pb (in_rg (wr_s q_11 (show rg _ (0) (255) from ⟨(by have := ((rg_sub (hS_V.rd r_RrQ_146_56) (rg_c (x := (1 : Int32)) (n := 1) rfl) (by decide) (by decide))).1; have := ((rg_sub (hS_V.rd r_RrQ_146_56) (rg_c (x := (1 : Int32)) (n := 1) rfl) (by decide) (by decide))).2; have := rg_tis (hS_V.rd r_RrQ_146_56) (rg_c (x := (1 : Int32)) (n := 1) rfl) (by decide) (by decide); have := ((hS_V.rd r_RrQ_146_56)).1; have := ((hS_V.rd r_RrQ_146_56)).2; have := Int32.lt_iff_toInt_lt.mp (Int32.not_le.mp h_1); have := (f_4).1; have := (f_4).2; have := (f_5).1; have := (f_5).2; have := congrArg Int32.toInt h_6; have := (f_7).1; have := (f_7).2; have := an_0; have : (0 : Int32).toInt = 0 := rfl; have : (1 : Int32).toInt = 1 := rfl; omega), (by have := ((rg_sub (hS_V.rd r_RrQ_146_56) (rg_c (x := (1 : Int32)) (n := 1) rfl) (by decide) (by decide))).1; have := ((rg_sub (hS_V.rd r_RrQ_146_56) (rg_c (x := (1 : Int32)) (n := 1) rfl) (by decide) (by decide))).2; have := rg_tis (hS_V.rd r_RrQ_146_56) (rg_c (x := (1 : Int32)) (n := 1) rfl) (by decide) (by decide); have := ((hS_V.rd r_RrQ_146_56)).1; have := ((hS_V.rd r_RrQ_146_56)).2; have := Int32.lt_iff_toInt_lt.mp (Int32.not_le.mp h_1); have := (f_4).1; have := (f_4).2; have := (f_5).1; have := (f_5).2; have := congrArg Int32.toInt h_6; have := (f_7).1; have := (f_7).2; have := an_0; have : (0 : Int32).toInt = 0 := rfl; have : (1 : Int32).toInt = 1 := rfl; omega)⟩)) (by decide) (by decide)) <|
    sf_someb <|
    sf_iteb (fun h_15 =>
    have f_16 := (rg_eq h_15 (rg_c (x := (0 : Int32)) (n := 0) rfl))
    sf_iteb (fun h_21 =>
    have f_22 := (rg_hlt h_21 rg_t (rg_c (x := (0 : Int32)) (n := 0) rfl))
    sf_assoc <|
    sf_iteb (fun h_29 =>
    sf_wb (q_fail hS_V_10 (by decide +kernel) (rg_c (x := (5 : Int32)) (n := 5) rfl) (by decide)) fun V_30 q_31 hS_V_30 =>
    sf_wb (hS_V_30.wc oi_RrQ_146_60 (rg_m (hS_V_30.rd r_RrQ_146_61) (by decide) (by decide))) fun V_32 q_33 hS_V_32 =>
    sf_someb <|
    sf_someb <|
    sf_ite (fun h_34 =>
    False.elim (rg_noeq h_34 (wr_k q_33 (by decide) (wr_s q_31 (rg_c (x := (5 : Int32)) (n := 5) rfl))) (rg_c (x := (0 : Int32)) (n := 0) rfl) (by decide)))
     (fun h_34 =>
    s_B_X12_likeReference_180_Q hN hk_k137 hS_V_32 (rg_m f_5 (by decide) (by decide)) (rg_m f_4 (by decide) (by decide)) (by have := (f_5).1; have := (f_5).2; have := (f_4).1; have := (f_4).2; have := ((wr_k q_33 (by decide) (wr_k q_31 (by decide) (wr_s q_11 (show rg _ (0) (255) from ⟨(by have := ((rg_sub (hS_V.rd r_RrQ_146_56) (rg_c (x := (1 : Int32)) (n := 1) rfl) (by decide) (by decide))).1; have := ((rg_sub (hS_V.rd r_RrQ_146_56) (rg_c (x := (1 : Int32)) (n := 1) rfl) (by decide) (by decide))).2; have := rg_tis (hS_V.rd r_RrQ_146_56) (rg_c (x := (1 : Int32)) (n := 1) rfl) (by decide) (by decide); have := ((hS_V.rd r_RrQ_146_56)).1; have := ((hS_V.rd r_RrQ_146_56)).2; have := Int32.lt_iff_toInt_lt.mp (Int32.not_le.mp h_1); have := (f_4).1; have := (f_4).2; have := (f_5).1; have := (f_5).2; have := congrArg Int32.toInt h_6; have := (f_7).1; have := (f_7).2; have := an_0; have : (0 : Int32).toInt = 0 := rfl; have : (1 : Int32).toInt = 1 := rfl; omega), (by have := ((rg_sub (hS_V.rd r_RrQ_146_56) (rg_c (x := (1 : Int32)) (n := 1) rfl) (by decide) (by decide))).1; have := ((rg_sub (hS_V.rd r_RrQ_146_56) (rg_c (x := (1 : Int32)) (n := 1) rfl) (by decide) (by decide))).2; have := rg_tis (hS_V.rd r_RrQ_146_56) (rg_c (x := (1 : Int32)) (n := 1) rfl) (by decide) (by decide); have := ((hS_V.rd r_RrQ_146_56)).1; have := ((hS_V.rd r_RrQ_146_56)).2; have := Int32.lt_iff_toInt_lt.mp (Int32.not_le.mp h_1); have := (f_4).1; have := (f_4).2; have := (f_5).1; have := (f_5).2; have := congrArg Int32.toInt h_6; have := (f_7).1; have := (f_7).2; have := an_0; have : (0 : Int32).toInt = 0 := rfl; have : (1 : Int32).toInt = 1 := rfl; omega)⟩))))).1; have := ((wr_k q_33 (by decide) (wr_k q_31 (by decide) (wr_s q_11 (show rg _ (0) (255) from ⟨(by have := ((rg_sub (hS_V.rd r_RrQ_146_56) (rg_c (x := (1 : Int32)) (n := 1) rfl) (by decide) (by decide))).1; have := ((rg_sub (hS_V.rd r_RrQ_146_56) (rg_c (x := (1 : Int32)) (n := 1) rfl) (by decide) (by decide))).2; have := rg_tis (hS_V.rd r_RrQ_146_56) (rg_c (x := (1 : Int32)) (n := 1) rfl) (by decide) (by decide); have := ((hS_V.rd r_RrQ_146_56)).1; have := ((hS_V.rd r_RrQ_146_56)).2; have := Int32.lt_iff_toInt_lt.mp (Int32.not_le.mp h_1); have := (f_4).1; have := (f_4).2; have := (f_5).1; have := (f_5).2; have := congrArg Int32.toInt h_6; have := (f_7).1; have := (f_7).2; have := an_0; have : (0 : Int32).toInt = 0 := rfl; have : (1 : Int32).toInt = 1 := rfl; omega), (by have := ((rg_sub (hS_V.rd r_RrQ_146_56) (rg_c (x := (1 : Int32)) (n := 1) rfl) (by decide) (by decide))).1; have := ((rg_sub (hS_V.rd r_RrQ_146_56) (rg_c (x := (1 : Int32)) (n := 1) rfl) (by decide) (by decide))).2; have := rg_tis (hS_V.rd r_RrQ_146_56) (rg_c (x := (1 : Int32)) (n := 1) rfl) (by decide) (by decide); have := ((hS_V.rd r_RrQ_146_56)).1; have := ((hS_V.rd r_RrQ_146_56)).2; have := Int32.lt_iff_toInt_lt.mp (Int32.not_le.mp h_1); have := (f_4).1; have := (f_4).2; have := (f_5).1; have := (f_5).2; have := congrArg Int32.toInt h_6; have := (f_7).1; have := (f_7).2; have := an_0; have : (0 : Int32).toInt = 0 := rfl; have : (1 : Int32).toInt = 1 := rfl; omega)⟩))))).2; have := congrArg Int32.toInt (rd_k (b := 146) (j := 56) q_33 (by decide)); have := ((wr_k q_31 (by decide) (wr_s q_11 (show rg _ (0) (255) from ⟨(by have := ((rg_sub (hS_V.rd r_RrQ_146_56) (rg_c (x := (1 : Int32)) (n := 1) rfl) (by decide) (by decide))).1; have := ((rg_sub (hS_V.rd r_RrQ_146_56) (rg_c (x := (1 : Int32)) (n := 1) rfl) (by decide) (by decide))).2; have := rg_tis (hS_V.rd r_RrQ_146_56) (rg_c (x := (1 : Int32)) (n := 1) rfl) (by decide) (by decide); have := ((hS_V.rd r_RrQ_146_56)).1; have := ((hS_V.rd r_RrQ_146_56)).2; have := Int32.lt_iff_toInt_lt.mp (Int32.not_le.mp h_1); have := (f_4).1; have := (f_4).2; have := (f_5).1; have := (f_5).2; have := congrArg Int32.toInt h_6; have := (f_7).1; have := (f_7).2; have := an_0; have : (0 : Int32).toInt = 0 := rfl; have : (1 : Int32).toInt = 1 := rfl; omega), (by have := ((rg_sub (hS_V.rd r_RrQ_146_56) (rg_c (x := (1 : Int32)) (n := 1) rfl) (by decide) (by decide))).1; have := ((rg_sub (hS_V.rd r_RrQ_146_56) (rg_c (x := (1 : Int32)) (n := 1) rfl) (by decide) (by decide))).2; have := rg_tis (hS_V.rd r_RrQ_146_56) (rg_c (x := (1 : Int32)) (n := 1) rfl) (by decide) (by decide); have := ((hS_V.rd r_RrQ_146_56)).1; have := ((hS_V.rd r_RrQ_146_56)).2; have := Int32.lt_iff_toInt_lt.mp (Int32.not_le.mp h_1); have := (f_4).1; have := (f_4).2; have := (f_5).1; have := (f_5).2; have := congrArg Int32.toInt h_6; have := (f_7).1; have := (f_7).2; have := an_0; have : (0 : Int32).toInt = 0 := rfl; have : (1 : Int32).toInt = 1 := rfl; omega)⟩)))).1; have := ((wr_k q_31 (by decide) (wr_s q_11 (show rg _ (0) (255) from ⟨(by have := ((rg_sub (hS_V.rd r_RrQ_146_56) (rg_c (x := (1 : Int32)) (n := 1) rfl) (by decide) (by decide))).1; have := ((rg_sub (hS_V.rd r_RrQ_146_56) (rg_c (x := (1 : Int32)) (n := 1) rfl) (by decide) (by decide))).2; have := rg_tis (hS_V.rd r_RrQ_146_56) (rg_c (x := (1 : Int32)) (n := 1) rfl) (by decide) (by decide); have := ((hS_V.rd r_RrQ_146_56)).1; have := ((hS_V.rd r_RrQ_146_56)).2; have := Int32.lt_iff_toInt_lt.mp (Int32.not_le.mp h_1); have := (f_4).1; have := (f_4).2; have := (f_5).1; have := (f_5).2; have := congrArg Int32.toInt h_6; have := (f_7).1; have := (f_7).2; have := an_0; have : (0 : Int32).toInt = 0 := rfl; have : (1 : Int32).toInt = 1 := rfl; omega), (by have := ((rg_sub (hS_V.rd r_RrQ_146_56) (rg_c (x := (1 : Int32)) (n := 1) rfl) (by decide) (by decide))).1; have := ((rg_sub (hS_V.rd r_RrQ_146_56) (rg_c (x := (1 : Int32)) (n := 1) rfl) (by decide) (by decide))).2; have := rg_tis (hS_V.rd r_RrQ_146_56) (rg_c (x := (1 : Int32)) (n := 1) rfl) (by decide) (by decide); have := ((hS_V.rd r_RrQ_146_56)).1; have := ((hS_V.rd r_RrQ_146_56)).2; have := Int32.lt_iff_toInt_lt.mp (Int32.not_le.mp h_1); have := (f_4).1; have := (f_4).2; have := (f_5).1; have := (f_5).2; have := congrArg Int32.toInt h_6; have := (f_7).1; have := (f_7).2; have := an_0; have : (0 : Int32).toInt = 0 := rfl; have : (1 : Int32).toInt = 1 := rfl; omega)⟩)))).2; have := congrArg Int32.toInt (rd_k (b := 146) (j := 56) q_31 (by decide)); have := ((wr_s q_11 (show rg _ (0) (255) from ⟨(by have := ((rg_sub (hS_V.rd r_RrQ_146_56) (rg_c (x := (1 : Int32)) (n := 1) rfl) (by decide) (by decide))).1; have := ((rg_sub (hS_V.rd r_RrQ_146_56) (rg_c (x := (1 : Int32)) (n := 1) rfl) (by decide) (by decide))).2; have := rg_tis (hS_V.rd r_RrQ_146_56) (rg_c (x := (1 : Int32)) (n := 1) rfl) (by decide) (by decide); have := ((hS_V.rd r_RrQ_146_56)).1; have := ((hS_V.rd r_RrQ_146_56)).2; have := Int32.lt_iff_toInt_lt.mp (Int32.not_le.mp h_1); have := (f_4).1; have := (f_4).2; have := (f_5).1; have := (f_5).2; have := congrArg Int32.toInt h_6; have := (f_7).1; have := (f_7).2; have := an_0; have : (0 : Int32).toInt = 0 := rfl; have : (1 : Int32).toInt = 1 := rfl; omega), (by have := ((rg_sub (hS_V.rd r_RrQ_146_56) (rg_c (x := (1 : Int32)) (n := 1) rfl) (by decide) (by decide))).1; have := ((rg_sub (hS_V.rd r_RrQ_146_56) (rg_c (x := (1 : Int32)) (n := 1) rfl) (by decide) (by decide))).2; have := rg_tis (hS_V.rd r_RrQ_146_56) (rg_c (x := (1 : Int32)) (n := 1) rfl) (by decide) (by decide); have := ((hS_V.rd r_RrQ_146_56)).1; have := ((hS_V.rd r_RrQ_146_56)).2; have := Int32.lt_iff_toInt_lt.mp (Int32.not_le.mp h_1); have := (f_4).1; have := (f_4).2; have := (f_5).1; have := (f_5).2; have := congrArg Int32.toInt h_6; have := (f_7).1; have := (f_7).2; have := an_0; have : (0 : Int32).toInt = 0 := rfl; have : (1 : Int32).toInt = 1 := rfl; omega)⟩))).1; have := ((wr_s q_11 (show rg _ (0) (255) from ⟨(by have := ((rg_sub (hS_V.rd r_RrQ_146_56) (rg_c (x := (1 : Int32)) (n := 1) rfl) (by decide) (by decide))).1; have := ((rg_sub (hS_V.rd r_RrQ_146_56) (rg_c (x := (1 : Int32)) (n := 1) rfl) (by decide) (by decide))).2; have := rg_tis (hS_V.rd r_RrQ_146_56) (rg_c (x := (1 : Int32)) (n := 1) rfl) (by decide) (by decide); have := ((hS_V.rd r_RrQ_146_56)).1; have := ((hS_V.rd r_RrQ_146_56)).2; have := Int32.lt_iff_toInt_lt.mp (Int32.not_le.mp h_1); have := (f_4).1; have := (f_4).2; have := (f_5).1; have := (f_5).2; have := congrArg Int32.toInt h_6; have := (f_7).1; have := (f_7).2; have := an_0; have : (0 : Int32).toInt = 0 := rfl; have : (1 : Int32).toInt = 1 := rfl; omega), (by have := ((rg_sub (hS_V.rd r_RrQ_146_56) (rg_c (x := (1 : Int32)) (n := 1) rfl) (by decide) (by decide))).1; have := ((rg_sub (hS_V.rd r_RrQ_146_56) (rg_c (x := (1 : Int32)) (n := 1) rfl) (by decide) (by decide))).2; have := rg_tis (hS_V.rd r_RrQ_146_56) (rg_c (x := (1 : Int32)) (n := 1) rfl) (by decide) (by decide); have := ((hS_V.rd r_RrQ_146_56)).1; have := ((hS_V.rd r_RrQ_146_56)).2; have := Int32.lt_iff_toInt_lt.mp (Int32.not_le.mp h_1); have := (f_4).1; have := (f_4).2; have := (f_5).1; have := (f_5).2; have := congrArg Int32.toInt h_6; have := (f_7).1; have := (f_7).2; have := an_0; have : (0 : Int32).toInt = 0 := rfl; have : (1 : Int32).toInt = 1 := rfl; omega)⟩))).2; have := congrArg Int32.toInt (rd_s q_11); have := ((rg_sub (hS_V.rd r_RrQ_146_56) (rg_c (x := (1 : Int32)) (n := 1) rfl) (by decide) (by decide))).1; have := ((rg_sub (hS_V.rd r_RrQ_146_56) (rg_c (x := (1 : Int32)) (n := 1) rfl) (by decide) (by decide))).2; have := rg_tis (hS_V.rd r_RrQ_146_56) (rg_c (x := (1 : Int32)) (n := 1) rfl) (by decide) (by decide); have := ((hS_V.rd r_RrQ_146_56)).1; have := ((hS_V.rd r_RrQ_146_56)).2; have := Int32.lt_iff_toInt_lt.mp (Int32.not_le.mp h_1); have := congrArg Int32.toInt h_6; have := (f_7).1; have := (f_7).2; have := congrArg Int32.toInt h_15; have := (f_16).1; have := (f_16).2; have := Int32.lt_iff_toInt_lt.mp h_21; have := (f_22).1; have := (f_22).2; have := congrArg Int32.toInt (rd_c (b := 173) (j := (V_10.1 146 56).toNatClampNeg) q_11 (by decide)); have := congrArg Int32.toInt h_29; have := ((wr_k q_11 (by decide) f_7)).1; have := ((wr_k q_11 (by decide) f_7)).2; have := congrArg Int32.toInt (rd_k (b := 146) (j := 59) q_11 (by decide)); have := ne_ti h_34; have := ((wr_k q_33 (by decide) (wr_s q_31 (rg_c (x := (5 : Int32)) (n := 5) rfl)))).1; have := ((wr_k q_33 (by decide) (wr_s q_31 (rg_c (x := (5 : Int32)) (n := 5) rfl)))).2; have := congrArg Int32.toInt (rd_k (b := 146) (j := 59) q_33 (by decide)); have := ((wr_s q_31 (rg_c (x := (5 : Int32)) (n := 5) rfl))).1; have := ((wr_s q_31 (rg_c (x := (5 : Int32)) (n := 5) rfl))).2; have := congrArg Int32.toInt (rd_s q_31); have := an_0; have : (0 : Int32).toInt = 0 := rfl; have : (1 : Int32).toInt = 1 := rfl; have : (5 : Int32).toInt = 5 := rfl; omega) hc_k137))
     (fun h_29 =>
    False.elim (rg_none h_29 (wr_k q_11 (by decide) f_7) (rg_c (x := (0 : Int32)) (n := 0) rfl))))
     (fun h_21 =>
    have f_35 := (rg_lle (Int32.not_lt.mp h_21) (rg_c (x := (0 : Int32)) (n := 0) rfl) rg_t)
    sf_iteb (fun h_36 =>
    have f_37 := (rg_hlt h_36 f_35 (hS_V_10.rd r_RrQ_146_14))
    have f_38 := (rg_llt h_36 f_35 (hS_V_10.rd r_RrQ_146_14))
    sf_someb <|
    sf_ite (fun h_39 =>
    sf_eV (s_F_X12_move_Q hN hS_V_10 (rg_m (rg_add (rg_mul (l := (0)) (h := (0)) (rg_c (x := (102 : Int32)) (n := 102) rfl) f_16 (by decide)) f_37 (by decide) (by decide)) (by decide) (by decide))) fun V_40 e_41 hS_V_40 =>
    have f_42 := m_X12_move sv_sub_rf e_41
    s_B_X12_likeReference_180_Q hN hk_k137 hS_V_40 (rg_m f_5 (by decide) (by decide)) (rg_m f_4 (by decide) (by decide)) (by have := (f_5).1; have := (f_5).2; have := (f_4).1; have := (f_4).2; have := ((wr_fr f_42 rfl (wr_s q_11 (show rg _ (0) (255) from ⟨(by have := ((rg_sub (hS_V.rd r_RrQ_146_56) (rg_c (x := (1 : Int32)) (n := 1) rfl) (by decide) (by decide))).1; have := ((rg_sub (hS_V.rd r_RrQ_146_56) (rg_c (x := (1 : Int32)) (n := 1) rfl) (by decide) (by decide))).2; have := rg_tis (hS_V.rd r_RrQ_146_56) (rg_c (x := (1 : Int32)) (n := 1) rfl) (by decide) (by decide); have := ((hS_V.rd r_RrQ_146_56)).1; have := ((hS_V.rd r_RrQ_146_56)).2; have := Int32.lt_iff_toInt_lt.mp (Int32.not_le.mp h_1); have := (f_4).1; have := (f_4).2; have := (f_5).1; have := (f_5).2; have := congrArg Int32.toInt h_6; have := (f_7).1; have := (f_7).2; have := an_0; have : (0 : Int32).toInt = 0 := rfl; have : (1 : Int32).toInt = 1 := rfl; omega), (by have := ((rg_sub (hS_V.rd r_RrQ_146_56) (rg_c (x := (1 : Int32)) (n := 1) rfl) (by decide) (by decide))).1; have := ((rg_sub (hS_V.rd r_RrQ_146_56) (rg_c (x := (1 : Int32)) (n := 1) rfl) (by decide) (by decide))).2; have := rg_tis (hS_V.rd r_RrQ_146_56) (rg_c (x := (1 : Int32)) (n := 1) rfl) (by decide) (by decide); have := ((hS_V.rd r_RrQ_146_56)).1; have := ((hS_V.rd r_RrQ_146_56)).2; have := Int32.lt_iff_toInt_lt.mp (Int32.not_le.mp h_1); have := (f_4).1; have := (f_4).2; have := (f_5).1; have := (f_5).2; have := congrArg Int32.toInt h_6; have := (f_7).1; have := (f_7).2; have := an_0; have : (0 : Int32).toInt = 0 := rfl; have : (1 : Int32).toInt = 1 := rfl; omega)⟩)))).1; have := ((wr_fr f_42 rfl (wr_s q_11 (show rg _ (0) (255) from ⟨(by have := ((rg_sub (hS_V.rd r_RrQ_146_56) (rg_c (x := (1 : Int32)) (n := 1) rfl) (by decide) (by decide))).1; have := ((rg_sub (hS_V.rd r_RrQ_146_56) (rg_c (x := (1 : Int32)) (n := 1) rfl) (by decide) (by decide))).2; have := rg_tis (hS_V.rd r_RrQ_146_56) (rg_c (x := (1 : Int32)) (n := 1) rfl) (by decide) (by decide); have := ((hS_V.rd r_RrQ_146_56)).1; have := ((hS_V.rd r_RrQ_146_56)).2; have := Int32.lt_iff_toInt_lt.mp (Int32.not_le.mp h_1); have := (f_4).1; have := (f_4).2; have := (f_5).1; have := (f_5).2; have := congrArg Int32.toInt h_6; have := (f_7).1; have := (f_7).2; have := an_0; have : (0 : Int32).toInt = 0 := rfl; have : (1 : Int32).toInt = 1 := rfl; omega), (by have := ((rg_sub (hS_V.rd r_RrQ_146_56) (rg_c (x := (1 : Int32)) (n := 1) rfl) (by decide) (by decide))).1; have := ((rg_sub (hS_V.rd r_RrQ_146_56) (rg_c (x := (1 : Int32)) (n := 1) rfl) (by decide) (by decide))).2; have := rg_tis (hS_V.rd r_RrQ_146_56) (rg_c (x := (1 : Int32)) (n := 1) rfl) (by decide) (by decide); have := ((hS_V.rd r_RrQ_146_56)).1; have := ((hS_V.rd r_RrQ_146_56)).2; have := Int32.lt_iff_toInt_lt.mp (Int32.not_le.mp h_1); have := (f_4).1; have := (f_4).2; have := (f_5).1; have := (f_5).2; have := congrArg Int32.toInt h_6; have := (f_7).1; have := (f_7).2; have := an_0; have : (0 : Int32).toInt = 0 := rfl; have : (1 : Int32).toInt = 1 := rfl; omega)⟩)))).2; have := congrArg Int32.toInt (rd_fr (a := 146) (k := 56) f_42 rfl); have := ((wr_s q_11 (show rg _ (0) (255) from ⟨(by have := ((rg_sub (hS_V.rd r_RrQ_146_56) (rg_c (x := (1 : Int32)) (n := 1) rfl) (by decide) (by decide))).1; have := ((rg_sub (hS_V.rd r_RrQ_146_56) (rg_c (x := (1 : Int32)) (n := 1) rfl) (by decide) (by decide))).2; have := rg_tis (hS_V.rd r_RrQ_146_56) (rg_c (x := (1 : Int32)) (n := 1) rfl) (by decide) (by decide); have := ((hS_V.rd r_RrQ_146_56)).1; have := ((hS_V.rd r_RrQ_146_56)).2; have := Int32.lt_iff_toInt_lt.mp (Int32.not_le.mp h_1); have := (f_4).1; have := (f_4).2; have := (f_5).1; have := (f_5).2; have := congrArg Int32.toInt h_6; have := (f_7).1; have := (f_7).2; have := an_0; have : (0 : Int32).toInt = 0 := rfl; have : (1 : Int32).toInt = 1 := rfl; omega), (by have := ((rg_sub (hS_V.rd r_RrQ_146_56) (rg_c (x := (1 : Int32)) (n := 1) rfl) (by decide) (by decide))).1; have := ((rg_sub (hS_V.rd r_RrQ_146_56) (rg_c (x := (1 : Int32)) (n := 1) rfl) (by decide) (by decide))).2; have := rg_tis (hS_V.rd r_RrQ_146_56) (rg_c (x := (1 : Int32)) (n := 1) rfl) (by decide) (by decide); have := ((hS_V.rd r_RrQ_146_56)).1; have := ((hS_V.rd r_RrQ_146_56)).2; have := Int32.lt_iff_toInt_lt.mp (Int32.not_le.mp h_1); have := (f_4).1; have := (f_4).2; have := (f_5).1; have := (f_5).2; have := congrArg Int32.toInt h_6; have := (f_7).1; have := (f_7).2; have := an_0; have : (0 : Int32).toInt = 0 := rfl; have : (1 : Int32).toInt = 1 := rfl; omega)⟩))).1; have := ((wr_s q_11 (show rg _ (0) (255) from ⟨(by have := ((rg_sub (hS_V.rd r_RrQ_146_56) (rg_c (x := (1 : Int32)) (n := 1) rfl) (by decide) (by decide))).1; have := ((rg_sub (hS_V.rd r_RrQ_146_56) (rg_c (x := (1 : Int32)) (n := 1) rfl) (by decide) (by decide))).2; have := rg_tis (hS_V.rd r_RrQ_146_56) (rg_c (x := (1 : Int32)) (n := 1) rfl) (by decide) (by decide); have := ((hS_V.rd r_RrQ_146_56)).1; have := ((hS_V.rd r_RrQ_146_56)).2; have := Int32.lt_iff_toInt_lt.mp (Int32.not_le.mp h_1); have := (f_4).1; have := (f_4).2; have := (f_5).1; have := (f_5).2; have := congrArg Int32.toInt h_6; have := (f_7).1; have := (f_7).2; have := an_0; have : (0 : Int32).toInt = 0 := rfl; have : (1 : Int32).toInt = 1 := rfl; omega), (by have := ((rg_sub (hS_V.rd r_RrQ_146_56) (rg_c (x := (1 : Int32)) (n := 1) rfl) (by decide) (by decide))).1; have := ((rg_sub (hS_V.rd r_RrQ_146_56) (rg_c (x := (1 : Int32)) (n := 1) rfl) (by decide) (by decide))).2; have := rg_tis (hS_V.rd r_RrQ_146_56) (rg_c (x := (1 : Int32)) (n := 1) rfl) (by decide) (by decide); have := ((hS_V.rd r_RrQ_146_56)).1; have := ((hS_V.rd r_RrQ_146_56)).2; have := Int32.lt_iff_toInt_lt.mp (Int32.not_le.mp h_1); have := (f_4).1; have := (f_4).2; have := (f_5).1; have := (f_5).2; have := congrArg Int32.toInt h_6; have := (f_7).1; have := (f_7).2; have := an_0; have : (0 : Int32).toInt = 0 := rfl; have : (1 : Int32).toInt = 1 := rfl; omega)⟩))).2; have := congrArg Int32.toInt (rd_s q_11); have := ((rg_sub (hS_V.rd r_RrQ_146_56) (rg_c (x := (1 : Int32)) (n := 1) rfl) (by decide) (by decide))).1; have := ((rg_sub (hS_V.rd r_RrQ_146_56) (rg_c (x := (1 : Int32)) (n := 1) rfl) (by decide) (by decide))).2; have := rg_tis (hS_V.rd r_RrQ_146_56) (rg_c (x := (1 : Int32)) (n := 1) rfl) (by decide) (by decide); have := ((hS_V.rd r_RrQ_146_56)).1; have := ((hS_V.rd r_RrQ_146_56)).2; have := Int32.lt_iff_toInt_lt.mp (Int32.not_le.mp h_1); have := congrArg Int32.toInt h_6; have := (f_7).1; have := (f_7).2; have := congrArg Int32.toInt h_15; have := (f_16).1; have := (f_16).2; have := Int32.le_iff_toInt_le.mp (Int32.not_lt.mp h_21); have := (f_37).1; have := (f_37).2; have := congrArg Int32.toInt (rd_c (b := 173) (j := (V_10.1 146 56).toNatClampNeg) q_11 (by decide)); have := Int32.lt_iff_toInt_lt.mp h_36; have := (f_38).1; have := (f_38).2; have := congrArg Int32.toInt (rd_k (b := 146) (j := 14) q_11 (by decide)); have := ((hS_V.rd r_RrQ_146_14)).1; have := ((hS_V.rd r_RrQ_146_14)).2; have := congrArg Int32.toInt h_39; have := ((wr_k q_11 (by decide) f_7)).1; have := ((wr_k q_11 (by decide) f_7)).2; have := congrArg Int32.toInt (rd_k (b := 146) (j := 59) q_11 (by decide)); have := an_0; have : (0 : Int32).toInt = 0 := rfl; have : (1 : Int32).toInt = 1 := rfl; omega) hc_k137)
     (fun h_39 =>
    False.elim (rg_none h_39 (wr_k q_11 (by decide) f_7) (rg_c (x := (0 : Int32)) (n := 0) rfl))))
     (fun h_36 =>
    sf_assoc <|
    sf_iteb (fun h_49 =>
    sf_wb (q_fail hS_V_10 (by decide +kernel) (rg_c (x := (5 : Int32)) (n := 5) rfl) (by decide)) fun V_50 q_51 hS_V_50 =>
    sf_wb (hS_V_50.wc oi_RrQ_146_60 (rg_m (hS_V_50.rd r_RrQ_146_61) (by decide) (by decide))) fun V_52 q_53 hS_V_52 =>
    sf_someb <|
    sf_someb <|
    sf_ite (fun h_54 =>
    False.elim (rg_noeq h_54 (wr_k q_53 (by decide) (wr_s q_51 (rg_c (x := (5 : Int32)) (n := 5) rfl))) (rg_c (x := (0 : Int32)) (n := 0) rfl) (by decide)))
     (fun h_54 =>
    s_B_X12_likeReference_180_Q hN hk_k137 hS_V_52 (rg_m f_5 (by decide) (by decide)) (rg_m f_4 (by decide) (by decide)) (by have := (f_5).1; have := (f_5).2; have := (f_4).1; have := (f_4).2; have := ((wr_k q_53 (by decide) (wr_k q_51 (by decide) (wr_s q_11 (show rg _ (0) (255) from ⟨(by have := ((rg_sub (hS_V.rd r_RrQ_146_56) (rg_c (x := (1 : Int32)) (n := 1) rfl) (by decide) (by decide))).1; have := ((rg_sub (hS_V.rd r_RrQ_146_56) (rg_c (x := (1 : Int32)) (n := 1) rfl) (by decide) (by decide))).2; have := rg_tis (hS_V.rd r_RrQ_146_56) (rg_c (x := (1 : Int32)) (n := 1) rfl) (by decide) (by decide); have := ((hS_V.rd r_RrQ_146_56)).1; have := ((hS_V.rd r_RrQ_146_56)).2; have := Int32.lt_iff_toInt_lt.mp (Int32.not_le.mp h_1); have := (f_4).1; have := (f_4).2; have := (f_5).1; have := (f_5).2; have := congrArg Int32.toInt h_6; have := (f_7).1; have := (f_7).2; have := an_0; have : (0 : Int32).toInt = 0 := rfl; have : (1 : Int32).toInt = 1 := rfl; omega), (by have := ((rg_sub (hS_V.rd r_RrQ_146_56) (rg_c (x := (1 : Int32)) (n := 1) rfl) (by decide) (by decide))).1; have := ((rg_sub (hS_V.rd r_RrQ_146_56) (rg_c (x := (1 : Int32)) (n := 1) rfl) (by decide) (by decide))).2; have := rg_tis (hS_V.rd r_RrQ_146_56) (rg_c (x := (1 : Int32)) (n := 1) rfl) (by decide) (by decide); have := ((hS_V.rd r_RrQ_146_56)).1; have := ((hS_V.rd r_RrQ_146_56)).2; have := Int32.lt_iff_toInt_lt.mp (Int32.not_le.mp h_1); have := (f_4).1; have := (f_4).2; have := (f_5).1; have := (f_5).2; have := congrArg Int32.toInt h_6; have := (f_7).1; have := (f_7).2; have := an_0; have : (0 : Int32).toInt = 0 := rfl; have : (1 : Int32).toInt = 1 := rfl; omega)⟩))))).1; have := ((wr_k q_53 (by decide) (wr_k q_51 (by decide) (wr_s q_11 (show rg _ (0) (255) from ⟨(by have := ((rg_sub (hS_V.rd r_RrQ_146_56) (rg_c (x := (1 : Int32)) (n := 1) rfl) (by decide) (by decide))).1; have := ((rg_sub (hS_V.rd r_RrQ_146_56) (rg_c (x := (1 : Int32)) (n := 1) rfl) (by decide) (by decide))).2; have := rg_tis (hS_V.rd r_RrQ_146_56) (rg_c (x := (1 : Int32)) (n := 1) rfl) (by decide) (by decide); have := ((hS_V.rd r_RrQ_146_56)).1; have := ((hS_V.rd r_RrQ_146_56)).2; have := Int32.lt_iff_toInt_lt.mp (Int32.not_le.mp h_1); have := (f_4).1; have := (f_4).2; have := (f_5).1; have := (f_5).2; have := congrArg Int32.toInt h_6; have := (f_7).1; have := (f_7).2; have := an_0; have : (0 : Int32).toInt = 0 := rfl; have : (1 : Int32).toInt = 1 := rfl; omega), (by have := ((rg_sub (hS_V.rd r_RrQ_146_56) (rg_c (x := (1 : Int32)) (n := 1) rfl) (by decide) (by decide))).1; have := ((rg_sub (hS_V.rd r_RrQ_146_56) (rg_c (x := (1 : Int32)) (n := 1) rfl) (by decide) (by decide))).2; have := rg_tis (hS_V.rd r_RrQ_146_56) (rg_c (x := (1 : Int32)) (n := 1) rfl) (by decide) (by decide); have := ((hS_V.rd r_RrQ_146_56)).1; have := ((hS_V.rd r_RrQ_146_56)).2; have := Int32.lt_iff_toInt_lt.mp (Int32.not_le.mp h_1); have := (f_4).1; have := (f_4).2; have := (f_5).1; have := (f_5).2; have := congrArg Int32.toInt h_6; have := (f_7).1; have := (f_7).2; have := an_0; have : (0 : Int32).toInt = 0 := rfl; have : (1 : Int32).toInt = 1 := rfl; omega)⟩))))).2; have := congrArg Int32.toInt (rd_k (b := 146) (j := 56) q_53 (by decide)); have := ((wr_k q_51 (by decide) (wr_s q_11 (show rg _ (0) (255) from ⟨(by have := ((rg_sub (hS_V.rd r_RrQ_146_56) (rg_c (x := (1 : Int32)) (n := 1) rfl) (by decide) (by decide))).1; have := ((rg_sub (hS_V.rd r_RrQ_146_56) (rg_c (x := (1 : Int32)) (n := 1) rfl) (by decide) (by decide))).2; have := rg_tis (hS_V.rd r_RrQ_146_56) (rg_c (x := (1 : Int32)) (n := 1) rfl) (by decide) (by decide); have := ((hS_V.rd r_RrQ_146_56)).1; have := ((hS_V.rd r_RrQ_146_56)).2; have := Int32.lt_iff_toInt_lt.mp (Int32.not_le.mp h_1); have := (f_4).1; have := (f_4).2; have := (f_5).1; have := (f_5).2; have := congrArg Int32.toInt h_6; have := (f_7).1; have := (f_7).2; have := an_0; have : (0 : Int32).toInt = 0 := rfl; have : (1 : Int32).toInt = 1 := rfl; omega), (by have := ((rg_sub (hS_V.rd r_RrQ_146_56) (rg_c (x := (1 : Int32)) (n := 1) rfl) (by decide) (by decide))).1; have := ((rg_sub (hS_V.rd r_RrQ_146_56) (rg_c (x := (1 : Int32)) (n := 1) rfl) (by decide) (by decide))).2; have := rg_tis (hS_V.rd r_RrQ_146_56) (rg_c (x := (1 : Int32)) (n := 1) rfl) (by decide) (by decide); have := ((hS_V.rd r_RrQ_146_56)).1; have := ((hS_V.rd r_RrQ_146_56)).2; have := Int32.lt_iff_toInt_lt.mp (Int32.not_le.mp h_1); have := (f_4).1; have := (f_4).2; have := (f_5).1; have := (f_5).2; have := congrArg Int32.toInt h_6; have := (f_7).1; have := (f_7).2; have := an_0; have : (0 : Int32).toInt = 0 := rfl; have : (1 : Int32).toInt = 1 := rfl; omega)⟩)))).1; have := ((wr_k q_51 (by decide) (wr_s q_11 (show rg _ (0) (255) from ⟨(by have := ((rg_sub (hS_V.rd r_RrQ_146_56) (rg_c (x := (1 : Int32)) (n := 1) rfl) (by decide) (by decide))).1; have := ((rg_sub (hS_V.rd r_RrQ_146_56) (rg_c (x := (1 : Int32)) (n := 1) rfl) (by decide) (by decide))).2; have := rg_tis (hS_V.rd r_RrQ_146_56) (rg_c (x := (1 : Int32)) (n := 1) rfl) (by decide) (by decide); have := ((hS_V.rd r_RrQ_146_56)).1; have := ((hS_V.rd r_RrQ_146_56)).2; have := Int32.lt_iff_toInt_lt.mp (Int32.not_le.mp h_1); have := (f_4).1; have := (f_4).2; have := (f_5).1; have := (f_5).2; have := congrArg Int32.toInt h_6; have := (f_7).1; have := (f_7).2; have := an_0; have : (0 : Int32).toInt = 0 := rfl; have : (1 : Int32).toInt = 1 := rfl; omega), (by have := ((rg_sub (hS_V.rd r_RrQ_146_56) (rg_c (x := (1 : Int32)) (n := 1) rfl) (by decide) (by decide))).1; have := ((rg_sub (hS_V.rd r_RrQ_146_56) (rg_c (x := (1 : Int32)) (n := 1) rfl) (by decide) (by decide))).2; have := rg_tis (hS_V.rd r_RrQ_146_56) (rg_c (x := (1 : Int32)) (n := 1) rfl) (by decide) (by decide); have := ((hS_V.rd r_RrQ_146_56)).1; have := ((hS_V.rd r_RrQ_146_56)).2; have := Int32.lt_iff_toInt_lt.mp (Int32.not_le.mp h_1); have := (f_4).1; have := (f_4).2; have := (f_5).1; have := (f_5).2; have := congrArg Int32.toInt h_6; have := (f_7).1; have := (f_7).2; have := an_0; have : (0 : Int32).toInt = 0 := rfl; have : (1 : Int32).toInt = 1 := rfl; omega)⟩)))).2; have := congrArg Int32.toInt (rd_k (b := 146) (j := 56) q_51 (by decide)); have := ((wr_s q_11 (show rg _ (0) (255) from ⟨(by have := ((rg_sub (hS_V.rd r_RrQ_146_56) (rg_c (x := (1 : Int32)) (n := 1) rfl) (by decide) (by decide))).1; have := ((rg_sub (hS_V.rd r_RrQ_146_56) (rg_c (x := (1 : Int32)) (n := 1) rfl) (by decide) (by decide))).2; have := rg_tis (hS_V.rd r_RrQ_146_56) (rg_c (x := (1 : Int32)) (n := 1) rfl) (by decide) (by decide); have := ((hS_V.rd r_RrQ_146_56)).1; have := ((hS_V.rd r_RrQ_146_56)).2; have := Int32.lt_iff_toInt_lt.mp (Int32.not_le.mp h_1); have := (f_4).1; have := (f_4).2; have := (f_5).1; have := (f_5).2; have := congrArg Int32.toInt h_6; have := (f_7).1; have := (f_7).2; have := an_0; have : (0 : Int32).toInt = 0 := rfl; have : (1 : Int32).toInt = 1 := rfl; omega), (by have := ((rg_sub (hS_V.rd r_RrQ_146_56) (rg_c (x := (1 : Int32)) (n := 1) rfl) (by decide) (by decide))).1; have := ((rg_sub (hS_V.rd r_RrQ_146_56) (rg_c (x := (1 : Int32)) (n := 1) rfl) (by decide) (by decide))).2; have := rg_tis (hS_V.rd r_RrQ_146_56) (rg_c (x := (1 : Int32)) (n := 1) rfl) (by decide) (by decide); have := ((hS_V.rd r_RrQ_146_56)).1; have := ((hS_V.rd r_RrQ_146_56)).2; have := Int32.lt_iff_toInt_lt.mp (Int32.not_le.mp h_1); have := (f_4).1; have := (f_4).2; have := (f_5).1; have := (f_5).2; have := congrArg Int32.toInt h_6; have := (f_7).1; have := (f_7).2; have := an_0; have : (0 : Int32).toInt = 0 := rfl; have : (1 : Int32).toInt = 1 := rfl; omega)⟩))).1; have := ((wr_s q_11 (show rg _ (0) (255) from ⟨(by have := ((rg_sub (hS_V.rd r_RrQ_146_56) (rg_c (x := (1 : Int32)) (n := 1) rfl) (by decide) (by decide))).1; have := ((rg_sub (hS_V.rd r_RrQ_146_56) (rg_c (x := (1 : Int32)) (n := 1) rfl) (by decide) (by decide))).2; have := rg_tis (hS_V.rd r_RrQ_146_56) (rg_c (x := (1 : Int32)) (n := 1) rfl) (by decide) (by decide); have := ((hS_V.rd r_RrQ_146_56)).1; have := ((hS_V.rd r_RrQ_146_56)).2; have := Int32.lt_iff_toInt_lt.mp (Int32.not_le.mp h_1); have := (f_4).1; have := (f_4).2; have := (f_5).1; have := (f_5).2; have := congrArg Int32.toInt h_6; have := (f_7).1; have := (f_7).2; have := an_0; have : (0 : Int32).toInt = 0 := rfl; have : (1 : Int32).toInt = 1 := rfl; omega), (by have := ((rg_sub (hS_V.rd r_RrQ_146_56) (rg_c (x := (1 : Int32)) (n := 1) rfl) (by decide) (by decide))).1; have := ((rg_sub (hS_V.rd r_RrQ_146_56) (rg_c (x := (1 : Int32)) (n := 1) rfl) (by decide) (by decide))).2; have := rg_tis (hS_V.rd r_RrQ_146_56) (rg_c (x := (1 : Int32)) (n := 1) rfl) (by decide) (by decide); have := ((hS_V.rd r_RrQ_146_56)).1; have := ((hS_V.rd r_RrQ_146_56)).2; have := Int32.lt_iff_toInt_lt.mp (Int32.not_le.mp h_1); have := (f_4).1; have := (f_4).2; have := (f_5).1; have := (f_5).2; have := congrArg Int32.toInt h_6; have := (f_7).1; have := (f_7).2; have := an_0; have : (0 : Int32).toInt = 0 := rfl; have : (1 : Int32).toInt = 1 := rfl; omega)⟩))).2; have := congrArg Int32.toInt (rd_s q_11); have := ((rg_sub (hS_V.rd r_RrQ_146_56) (rg_c (x := (1 : Int32)) (n := 1) rfl) (by decide) (by decide))).1; have := ((rg_sub (hS_V.rd r_RrQ_146_56) (rg_c (x := (1 : Int32)) (n := 1) rfl) (by decide) (by decide))).2; have := rg_tis (hS_V.rd r_RrQ_146_56) (rg_c (x := (1 : Int32)) (n := 1) rfl) (by decide) (by decide); have := ((hS_V.rd r_RrQ_146_56)).1; have := ((hS_V.rd r_RrQ_146_56)).2; have := Int32.lt_iff_toInt_lt.mp (Int32.not_le.mp h_1); have := congrArg Int32.toInt h_6; have := (f_7).1; have := (f_7).2; have := congrArg Int32.toInt h_15; have := (f_16).1; have := (f_16).2; have := Int32.le_iff_toInt_le.mp (Int32.not_lt.mp h_21); have := (f_35).1; have := (f_35).2; have := congrArg Int32.toInt (rd_c (b := 173) (j := (V_10.1 146 56).toNatClampNeg) q_11 (by decide)); have := Int32.le_iff_toInt_le.mp (Int32.not_lt.mp h_36); have := ((hS_V_10.rd r_RrQ_146_14)).1; have := ((hS_V_10.rd r_RrQ_146_14)).2; have := congrArg Int32.toInt (rd_k (b := 146) (j := 14) q_11 (by decide)); have := ((hS_V.rd r_RrQ_146_14)).1; have := ((hS_V.rd r_RrQ_146_14)).2; have := congrArg Int32.toInt h_49; have := ((wr_k q_11 (by decide) f_7)).1; have := ((wr_k q_11 (by decide) f_7)).2; have := congrArg Int32.toInt (rd_k (b := 146) (j := 59) q_11 (by decide)); have := ne_ti h_54; have := ((wr_k q_53 (by decide) (wr_s q_51 (rg_c (x := (5 : Int32)) (n := 5) rfl)))).1; have := ((wr_k q_53 (by decide) (wr_s q_51 (rg_c (x := (5 : Int32)) (n := 5) rfl)))).2; have := congrArg Int32.toInt (rd_k (b := 146) (j := 59) q_53 (by decide)); have := ((wr_s q_51 (rg_c (x := (5 : Int32)) (n := 5) rfl))).1; have := ((wr_s q_51 (rg_c (x := (5 : Int32)) (n := 5) rfl))).2; have := congrArg Int32.toInt (rd_s q_51); have := an_0; have : (0 : Int32).toInt = 0 := rfl; have : (1 : Int32).toInt = 1 := rfl; have : (5 : Int32).toInt = 5 := rfl; omega) hc_k137))
     (fun h_49 =>
    False.elim (rg_none h_49 (wr_k q_11 (by decide) f_7) (rg_c (x := (0 : Int32)) (n := 0) rfl))))))
     (fun h_15 =>
    have f_55 := (rg_nel h_15 (hS_V.rd r_RrQ_146_74) (rg_c (x := (0 : Int32)) (n := 0) rfl))
    sf_iteb (fun h_60 =>
    have f_61 := (rg_hlt h_60 rg_t (rg_c (x := (0 : Int32)) (n := 0) rfl))
    sf_assoc <|
    sf_iteb (fun h_68 =>
    sf_wb (q_fail hS_V_10 (by decide +kernel) (rg_c (x := (5 : Int32)) (n := 5) rfl) (by decide)) fun V_69 q_70 hS_V_69 =>
    sf_wb (hS_V_69.wc oi_RrQ_146_60 (rg_m (hS_V_69.rd r_RrQ_146_61) (by decide) (by decide))) fun V_71 q_72 hS_V_71 =>
    sf_someb <|
    sf_someb <|
    sf_ite (fun h_73 =>
    False.elim (rg_noeq h_73 (wr_k q_72 (by decide) (wr_s q_70 (rg_c (x := (5 : Int32)) (n := 5) rfl))) (rg_c (x := (0 : Int32)) (n := 0) rfl) (by decide)))
     (fun h_73 =>
    s_B_X12_likeReference_180_Q hN hk_k137 hS_V_71 (rg_m f_5 (by decide) (by decide)) (rg_m f_4 (by decide) (by decide)) (by have := (f_5).1; have := (f_5).2; have := (f_4).1; have := (f_4).2; have := ((wr_k q_72 (by decide) (wr_k q_70 (by decide) (wr_s q_11 (show rg _ (0) (255) from ⟨(by have := ((rg_sub (hS_V.rd r_RrQ_146_56) (rg_c (x := (1 : Int32)) (n := 1) rfl) (by decide) (by decide))).1; have := ((rg_sub (hS_V.rd r_RrQ_146_56) (rg_c (x := (1 : Int32)) (n := 1) rfl) (by decide) (by decide))).2; have := rg_tis (hS_V.rd r_RrQ_146_56) (rg_c (x := (1 : Int32)) (n := 1) rfl) (by decide) (by decide); have := ((hS_V.rd r_RrQ_146_56)).1; have := ((hS_V.rd r_RrQ_146_56)).2; have := Int32.lt_iff_toInt_lt.mp (Int32.not_le.mp h_1); have := (f_4).1; have := (f_4).2; have := (f_5).1; have := (f_5).2; have := congrArg Int32.toInt h_6; have := (f_7).1; have := (f_7).2; have := an_0; have : (0 : Int32).toInt = 0 := rfl; have : (1 : Int32).toInt = 1 := rfl; omega), (by have := ((rg_sub (hS_V.rd r_RrQ_146_56) (rg_c (x := (1 : Int32)) (n := 1) rfl) (by decide) (by decide))).1; have := ((rg_sub (hS_V.rd r_RrQ_146_56) (rg_c (x := (1 : Int32)) (n := 1) rfl) (by decide) (by decide))).2; have := rg_tis (hS_V.rd r_RrQ_146_56) (rg_c (x := (1 : Int32)) (n := 1) rfl) (by decide) (by decide); have := ((hS_V.rd r_RrQ_146_56)).1; have := ((hS_V.rd r_RrQ_146_56)).2; have := Int32.lt_iff_toInt_lt.mp (Int32.not_le.mp h_1); have := (f_4).1; have := (f_4).2; have := (f_5).1; have := (f_5).2; have := congrArg Int32.toInt h_6; have := (f_7).1; have := (f_7).2; have := an_0; have : (0 : Int32).toInt = 0 := rfl; have : (1 : Int32).toInt = 1 := rfl; omega)⟩))))).1; have := ((wr_k q_72 (by decide) (wr_k q_70 (by decide) (wr_s q_11 (show rg _ (0) (255) from ⟨(by have := ((rg_sub (hS_V.rd r_RrQ_146_56) (rg_c (x := (1 : Int32)) (n := 1) rfl) (by decide) (by decide))).1; have := ((rg_sub (hS_V.rd r_RrQ_146_56) (rg_c (x := (1 : Int32)) (n := 1) rfl) (by decide) (by decide))).2; have := rg_tis (hS_V.rd r_RrQ_146_56) (rg_c (x := (1 : Int32)) (n := 1) rfl) (by decide) (by decide); have := ((hS_V.rd r_RrQ_146_56)).1; have := ((hS_V.rd r_RrQ_146_56)).2; have := Int32.lt_iff_toInt_lt.mp (Int32.not_le.mp h_1); have := (f_4).1; have := (f_4).2; have := (f_5).1; have := (f_5).2; have := congrArg Int32.toInt h_6; have := (f_7).1; have := (f_7).2; have := an_0; have : (0 : Int32).toInt = 0 := rfl; have : (1 : Int32).toInt = 1 := rfl; omega), (by have := ((rg_sub (hS_V.rd r_RrQ_146_56) (rg_c (x := (1 : Int32)) (n := 1) rfl) (by decide) (by decide))).1; have := ((rg_sub (hS_V.rd r_RrQ_146_56) (rg_c (x := (1 : Int32)) (n := 1) rfl) (by decide) (by decide))).2; have := rg_tis (hS_V.rd r_RrQ_146_56) (rg_c (x := (1 : Int32)) (n := 1) rfl) (by decide) (by decide); have := ((hS_V.rd r_RrQ_146_56)).1; have := ((hS_V.rd r_RrQ_146_56)).2; have := Int32.lt_iff_toInt_lt.mp (Int32.not_le.mp h_1); have := (f_4).1; have := (f_4).2; have := (f_5).1; have := (f_5).2; have := congrArg Int32.toInt h_6; have := (f_7).1; have := (f_7).2; have := an_0; have : (0 : Int32).toInt = 0 := rfl; have : (1 : Int32).toInt = 1 := rfl; omega)⟩))))).2; have := congrArg Int32.toInt (rd_k (b := 146) (j := 56) q_72 (by decide)); have := ((wr_k q_70 (by decide) (wr_s q_11 (show rg _ (0) (255) from ⟨(by have := ((rg_sub (hS_V.rd r_RrQ_146_56) (rg_c (x := (1 : Int32)) (n := 1) rfl) (by decide) (by decide))).1; have := ((rg_sub (hS_V.rd r_RrQ_146_56) (rg_c (x := (1 : Int32)) (n := 1) rfl) (by decide) (by decide))).2; have := rg_tis (hS_V.rd r_RrQ_146_56) (rg_c (x := (1 : Int32)) (n := 1) rfl) (by decide) (by decide); have := ((hS_V.rd r_RrQ_146_56)).1; have := ((hS_V.rd r_RrQ_146_56)).2; have := Int32.lt_iff_toInt_lt.mp (Int32.not_le.mp h_1); have := (f_4).1; have := (f_4).2; have := (f_5).1; have := (f_5).2; have := congrArg Int32.toInt h_6; have := (f_7).1; have := (f_7).2; have := an_0; have : (0 : Int32).toInt = 0 := rfl; have : (1 : Int32).toInt = 1 := rfl; omega), (by have := ((rg_sub (hS_V.rd r_RrQ_146_56) (rg_c (x := (1 : Int32)) (n := 1) rfl) (by decide) (by decide))).1; have := ((rg_sub (hS_V.rd r_RrQ_146_56) (rg_c (x := (1 : Int32)) (n := 1) rfl) (by decide) (by decide))).2; have := rg_tis (hS_V.rd r_RrQ_146_56) (rg_c (x := (1 : Int32)) (n := 1) rfl) (by decide) (by decide); have := ((hS_V.rd r_RrQ_146_56)).1; have := ((hS_V.rd r_RrQ_146_56)).2; have := Int32.lt_iff_toInt_lt.mp (Int32.not_le.mp h_1); have := (f_4).1; have := (f_4).2; have := (f_5).1; have := (f_5).2; have := congrArg Int32.toInt h_6; have := (f_7).1; have := (f_7).2; have := an_0; have : (0 : Int32).toInt = 0 := rfl; have : (1 : Int32).toInt = 1 := rfl; omega)⟩)))).1; have := ((wr_k q_70 (by decide) (wr_s q_11 (show rg _ (0) (255) from ⟨(by have := ((rg_sub (hS_V.rd r_RrQ_146_56) (rg_c (x := (1 : Int32)) (n := 1) rfl) (by decide) (by decide))).1; have := ((rg_sub (hS_V.rd r_RrQ_146_56) (rg_c (x := (1 : Int32)) (n := 1) rfl) (by decide) (by decide))).2; have := rg_tis (hS_V.rd r_RrQ_146_56) (rg_c (x := (1 : Int32)) (n := 1) rfl) (by decide) (by decide); have := ((hS_V.rd r_RrQ_146_56)).1; have := ((hS_V.rd r_RrQ_146_56)).2; have := Int32.lt_iff_toInt_lt.mp (Int32.not_le.mp h_1); have := (f_4).1; have := (f_4).2; have := (f_5).1; have := (f_5).2; have := congrArg Int32.toInt h_6; have := (f_7).1; have := (f_7).2; have := an_0; have : (0 : Int32).toInt = 0 := rfl; have : (1 : Int32).toInt = 1 := rfl; omega), (by have := ((rg_sub (hS_V.rd r_RrQ_146_56) (rg_c (x := (1 : Int32)) (n := 1) rfl) (by decide) (by decide))).1; have := ((rg_sub (hS_V.rd r_RrQ_146_56) (rg_c (x := (1 : Int32)) (n := 1) rfl) (by decide) (by decide))).2; have := rg_tis (hS_V.rd r_RrQ_146_56) (rg_c (x := (1 : Int32)) (n := 1) rfl) (by decide) (by decide); have := ((hS_V.rd r_RrQ_146_56)).1; have := ((hS_V.rd r_RrQ_146_56)).2; have := Int32.lt_iff_toInt_lt.mp (Int32.not_le.mp h_1); have := (f_4).1; have := (f_4).2; have := (f_5).1; have := (f_5).2; have := congrArg Int32.toInt h_6; have := (f_7).1; have := (f_7).2; have := an_0; have : (0 : Int32).toInt = 0 := rfl; have : (1 : Int32).toInt = 1 := rfl; omega)⟩)))).2; have := congrArg Int32.toInt (rd_k (b := 146) (j := 56) q_70 (by decide)); have := ((wr_s q_11 (show rg _ (0) (255) from ⟨(by have := ((rg_sub (hS_V.rd r_RrQ_146_56) (rg_c (x := (1 : Int32)) (n := 1) rfl) (by decide) (by decide))).1; have := ((rg_sub (hS_V.rd r_RrQ_146_56) (rg_c (x := (1 : Int32)) (n := 1) rfl) (by decide) (by decide))).2; have := rg_tis (hS_V.rd r_RrQ_146_56) (rg_c (x := (1 : Int32)) (n := 1) rfl) (by decide) (by decide); have := ((hS_V.rd r_RrQ_146_56)).1; have := ((hS_V.rd r_RrQ_146_56)).2; have := Int32.lt_iff_toInt_lt.mp (Int32.not_le.mp h_1); have := (f_4).1; have := (f_4).2; have := (f_5).1; have := (f_5).2; have := congrArg Int32.toInt h_6; have := (f_7).1; have := (f_7).2; have := an_0; have : (0 : Int32).toInt = 0 := rfl; have : (1 : Int32).toInt = 1 := rfl; omega), (by have := ((rg_sub (hS_V.rd r_RrQ_146_56) (rg_c (x := (1 : Int32)) (n := 1) rfl) (by decide) (by decide))).1; have := ((rg_sub (hS_V.rd r_RrQ_146_56) (rg_c (x := (1 : Int32)) (n := 1) rfl) (by decide) (by decide))).2; have := rg_tis (hS_V.rd r_RrQ_146_56) (rg_c (x := (1 : Int32)) (n := 1) rfl) (by decide) (by decide); have := ((hS_V.rd r_RrQ_146_56)).1; have := ((hS_V.rd r_RrQ_146_56)).2; have := Int32.lt_iff_toInt_lt.mp (Int32.not_le.mp h_1); have := (f_4).1; have := (f_4).2; have := (f_5).1; have := (f_5).2; have := congrArg Int32.toInt h_6; have := (f_7).1; have := (f_7).2; have := an_0; have : (0 : Int32).toInt = 0 := rfl; have : (1 : Int32).toInt = 1 := rfl; omega)⟩))).1; have := ((wr_s q_11 (show rg _ (0) (255) from ⟨(by have := ((rg_sub (hS_V.rd r_RrQ_146_56) (rg_c (x := (1 : Int32)) (n := 1) rfl) (by decide) (by decide))).1; have := ((rg_sub (hS_V.rd r_RrQ_146_56) (rg_c (x := (1 : Int32)) (n := 1) rfl) (by decide) (by decide))).2; have := rg_tis (hS_V.rd r_RrQ_146_56) (rg_c (x := (1 : Int32)) (n := 1) rfl) (by decide) (by decide); have := ((hS_V.rd r_RrQ_146_56)).1; have := ((hS_V.rd r_RrQ_146_56)).2; have := Int32.lt_iff_toInt_lt.mp (Int32.not_le.mp h_1); have := (f_4).1; have := (f_4).2; have := (f_5).1; have := (f_5).2; have := congrArg Int32.toInt h_6; have := (f_7).1; have := (f_7).2; have := an_0; have : (0 : Int32).toInt = 0 := rfl; have : (1 : Int32).toInt = 1 := rfl; omega), (by have := ((rg_sub (hS_V.rd r_RrQ_146_56) (rg_c (x := (1 : Int32)) (n := 1) rfl) (by decide) (by decide))).1; have := ((rg_sub (hS_V.rd r_RrQ_146_56) (rg_c (x := (1 : Int32)) (n := 1) rfl) (by decide) (by decide))).2; have := rg_tis (hS_V.rd r_RrQ_146_56) (rg_c (x := (1 : Int32)) (n := 1) rfl) (by decide) (by decide); have := ((hS_V.rd r_RrQ_146_56)).1; have := ((hS_V.rd r_RrQ_146_56)).2; have := Int32.lt_iff_toInt_lt.mp (Int32.not_le.mp h_1); have := (f_4).1; have := (f_4).2; have := (f_5).1; have := (f_5).2; have := congrArg Int32.toInt h_6; have := (f_7).1; have := (f_7).2; have := an_0; have : (0 : Int32).toInt = 0 := rfl; have : (1 : Int32).toInt = 1 := rfl; omega)⟩))).2; have := congrArg Int32.toInt (rd_s q_11); have := ((rg_sub (hS_V.rd r_RrQ_146_56) (rg_c (x := (1 : Int32)) (n := 1) rfl) (by decide) (by decide))).1; have := ((rg_sub (hS_V.rd r_RrQ_146_56) (rg_c (x := (1 : Int32)) (n := 1) rfl) (by decide) (by decide))).2; have := rg_tis (hS_V.rd r_RrQ_146_56) (rg_c (x := (1 : Int32)) (n := 1) rfl) (by decide) (by decide); have := ((hS_V.rd r_RrQ_146_56)).1; have := ((hS_V.rd r_RrQ_146_56)).2; have := Int32.lt_iff_toInt_lt.mp (Int32.not_le.mp h_1); have := congrArg Int32.toInt h_6; have := (f_7).1; have := (f_7).2; have := ne_ti h_15; have := (f_55).1; have := (f_55).2; have := Int32.lt_iff_toInt_lt.mp h_60; have := (f_61).1; have := (f_61).2; have := congrArg Int32.toInt (rd_c (b := 173) (j := (V_10.1 146 56).toNatClampNeg) q_11 (by decide)); have := congrArg Int32.toInt h_68; have := ((wr_k q_11 (by decide) f_7)).1; have := ((wr_k q_11 (by decide) f_7)).2; have := congrArg Int32.toInt (rd_k (b := 146) (j := 59) q_11 (by decide)); have := ne_ti h_73; have := ((wr_k q_72 (by decide) (wr_s q_70 (rg_c (x := (5 : Int32)) (n := 5) rfl)))).1; have := ((wr_k q_72 (by decide) (wr_s q_70 (rg_c (x := (5 : Int32)) (n := 5) rfl)))).2; have := congrArg Int32.toInt (rd_k (b := 146) (j := 59) q_72 (by decide)); have := ((wr_s q_70 (rg_c (x := (5 : Int32)) (n := 5) rfl))).1; have := ((wr_s q_70 (rg_c (x := (5 : Int32)) (n := 5) rfl))).2; have := congrArg Int32.toInt (rd_s q_70); have := an_0; have : (0 : Int32).toInt = 0 := rfl; have : (1 : Int32).toInt = 1 := rfl; have : (5 : Int32).toInt = 5 := rfl; omega) hc_k137))
     (fun h_68 =>
    False.elim (rg_none h_68 (wr_k q_11 (by decide) f_7) (rg_c (x := (0 : Int32)) (n := 0) rfl))))
     (fun h_60 =>
    have f_74 := (rg_lle (Int32.not_lt.mp h_60) (rg_c (x := (0 : Int32)) (n := 0) rfl) rg_t)
    sf_iteb (fun h_75 =>
    have f_76 := (rg_hlt h_75 f_74 (hS_V_10.rd r_RrQ_146_52))
    have f_77 := (rg_llt h_75 f_74 (hS_V_10.rd r_RrQ_146_52))
    sf_someb <|
    sf_ite (fun h_78 =>
    sf_eV (s_F_X12_move_Q hN hS_V_10 (rg_m (rg_add (rg_mul (l := (102)) (h := (102)) (rg_c (x := (102 : Int32)) (n := 102) rfl) f_55 (by decide)) f_76 (by decide) (by decide)) (by decide) (by decide))) fun V_79 e_80 hS_V_79 =>
    have f_81 := m_X12_move sv_sub_rf e_80
    s_B_X12_likeReference_180_Q hN hk_k137 hS_V_79 (rg_m f_5 (by decide) (by decide)) (rg_m f_4 (by decide) (by decide)) (by have := (f_5).1; have := (f_5).2; have := (f_4).1; have := (f_4).2; have := ((wr_fr f_81 rfl (wr_s q_11 (show rg _ (0) (255) from ⟨(by have := ((rg_sub (hS_V.rd r_RrQ_146_56) (rg_c (x := (1 : Int32)) (n := 1) rfl) (by decide) (by decide))).1; have := ((rg_sub (hS_V.rd r_RrQ_146_56) (rg_c (x := (1 : Int32)) (n := 1) rfl) (by decide) (by decide))).2; have := rg_tis (hS_V.rd r_RrQ_146_56) (rg_c (x := (1 : Int32)) (n := 1) rfl) (by decide) (by decide); have := ((hS_V.rd r_RrQ_146_56)).1; have := ((hS_V.rd r_RrQ_146_56)).2; have := Int32.lt_iff_toInt_lt.mp (Int32.not_le.mp h_1); have := (f_4).1; have := (f_4).2; have := (f_5).1; have := (f_5).2; have := congrArg Int32.toInt h_6; have := (f_7).1; have := (f_7).2; have := an_0; have : (0 : Int32).toInt = 0 := rfl; have : (1 : Int32).toInt = 1 := rfl; omega), (by have := ((rg_sub (hS_V.rd r_RrQ_146_56) (rg_c (x := (1 : Int32)) (n := 1) rfl) (by decide) (by decide))).1; have := ((rg_sub (hS_V.rd r_RrQ_146_56) (rg_c (x := (1 : Int32)) (n := 1) rfl) (by decide) (by decide))).2; have := rg_tis (hS_V.rd r_RrQ_146_56) (rg_c (x := (1 : Int32)) (n := 1) rfl) (by decide) (by decide); have := ((hS_V.rd r_RrQ_146_56)).1; have := ((hS_V.rd r_RrQ_146_56)).2; have := Int32.lt_iff_toInt_lt.mp (Int32.not_le.mp h_1); have := (f_4).1; have := (f_4).2; have := (f_5).1; have := (f_5).2; have := congrArg Int32.toInt h_6; have := (f_7).1; have := (f_7).2; have := an_0; have : (0 : Int32).toInt = 0 := rfl; have : (1 : Int32).toInt = 1 := rfl; omega)⟩)))).1; have := ((wr_fr f_81 rfl (wr_s q_11 (show rg _ (0) (255) from ⟨(by have := ((rg_sub (hS_V.rd r_RrQ_146_56) (rg_c (x := (1 : Int32)) (n := 1) rfl) (by decide) (by decide))).1; have := ((rg_sub (hS_V.rd r_RrQ_146_56) (rg_c (x := (1 : Int32)) (n := 1) rfl) (by decide) (by decide))).2; have := rg_tis (hS_V.rd r_RrQ_146_56) (rg_c (x := (1 : Int32)) (n := 1) rfl) (by decide) (by decide); have := ((hS_V.rd r_RrQ_146_56)).1; have := ((hS_V.rd r_RrQ_146_56)).2; have := Int32.lt_iff_toInt_lt.mp (Int32.not_le.mp h_1); have := (f_4).1; have := (f_4).2; have := (f_5).1; have := (f_5).2; have := congrArg Int32.toInt h_6; have := (f_7).1; have := (f_7).2; have := an_0; have : (0 : Int32).toInt = 0 := rfl; have : (1 : Int32).toInt = 1 := rfl; omega), (by have := ((rg_sub (hS_V.rd r_RrQ_146_56) (rg_c (x := (1 : Int32)) (n := 1) rfl) (by decide) (by decide))).1; have := ((rg_sub (hS_V.rd r_RrQ_146_56) (rg_c (x := (1 : Int32)) (n := 1) rfl) (by decide) (by decide))).2; have := rg_tis (hS_V.rd r_RrQ_146_56) (rg_c (x := (1 : Int32)) (n := 1) rfl) (by decide) (by decide); have := ((hS_V.rd r_RrQ_146_56)).1; have := ((hS_V.rd r_RrQ_146_56)).2; have := Int32.lt_iff_toInt_lt.mp (Int32.not_le.mp h_1); have := (f_4).1; have := (f_4).2; have := (f_5).1; have := (f_5).2; have := congrArg Int32.toInt h_6; have := (f_7).1; have := (f_7).2; have := an_0; have : (0 : Int32).toInt = 0 := rfl; have : (1 : Int32).toInt = 1 := rfl; omega)⟩)))).2; have := congrArg Int32.toInt (rd_fr (a := 146) (k := 56) f_81 rfl); have := ((wr_s q_11 (show rg _ (0) (255) from ⟨(by have := ((rg_sub (hS_V.rd r_RrQ_146_56) (rg_c (x := (1 : Int32)) (n := 1) rfl) (by decide) (by decide))).1; have := ((rg_sub (hS_V.rd r_RrQ_146_56) (rg_c (x := (1 : Int32)) (n := 1) rfl) (by decide) (by decide))).2; have := rg_tis (hS_V.rd r_RrQ_146_56) (rg_c (x := (1 : Int32)) (n := 1) rfl) (by decide) (by decide); have := ((hS_V.rd r_RrQ_146_56)).1; have := ((hS_V.rd r_RrQ_146_56)).2; have := Int32.lt_iff_toInt_lt.mp (Int32.not_le.mp h_1); have := (f_4).1; have := (f_4).2; have := (f_5).1; have := (f_5).2; have := congrArg Int32.toInt h_6; have := (f_7).1; have := (f_7).2; have := an_0; have : (0 : Int32).toInt = 0 := rfl; have : (1 : Int32).toInt = 1 := rfl; omega), (by have := ((rg_sub (hS_V.rd r_RrQ_146_56) (rg_c (x := (1 : Int32)) (n := 1) rfl) (by decide) (by decide))).1; have := ((rg_sub (hS_V.rd r_RrQ_146_56) (rg_c (x := (1 : Int32)) (n := 1) rfl) (by decide) (by decide))).2; have := rg_tis (hS_V.rd r_RrQ_146_56) (rg_c (x := (1 : Int32)) (n := 1) rfl) (by decide) (by decide); have := ((hS_V.rd r_RrQ_146_56)).1; have := ((hS_V.rd r_RrQ_146_56)).2; have := Int32.lt_iff_toInt_lt.mp (Int32.not_le.mp h_1); have := (f_4).1; have := (f_4).2; have := (f_5).1; have := (f_5).2; have := congrArg Int32.toInt h_6; have := (f_7).1; have := (f_7).2; have := an_0; have : (0 : Int32).toInt = 0 := rfl; have : (1 : Int32).toInt = 1 := rfl; omega)⟩))).1; have := ((wr_s q_11 (show rg _ (0) (255) from ⟨(by have := ((rg_sub (hS_V.rd r_RrQ_146_56) (rg_c (x := (1 : Int32)) (n := 1) rfl) (by decide) (by decide))).1; have := ((rg_sub (hS_V.rd r_RrQ_146_56) (rg_c (x := (1 : Int32)) (n := 1) rfl) (by decide) (by decide))).2; have := rg_tis (hS_V.rd r_RrQ_146_56) (rg_c (x := (1 : Int32)) (n := 1) rfl) (by decide) (by decide); have := ((hS_V.rd r_RrQ_146_56)).1; have := ((hS_V.rd r_RrQ_146_56)).2; have := Int32.lt_iff_toInt_lt.mp (Int32.not_le.mp h_1); have := (f_4).1; have := (f_4).2; have := (f_5).1; have := (f_5).2; have := congrArg Int32.toInt h_6; have := (f_7).1; have := (f_7).2; have := an_0; have : (0 : Int32).toInt = 0 := rfl; have : (1 : Int32).toInt = 1 := rfl; omega), (by have := ((rg_sub (hS_V.rd r_RrQ_146_56) (rg_c (x := (1 : Int32)) (n := 1) rfl) (by decide) (by decide))).1; have := ((rg_sub (hS_V.rd r_RrQ_146_56) (rg_c (x := (1 : Int32)) (n := 1) rfl) (by decide) (by decide))).2; have := rg_tis (hS_V.rd r_RrQ_146_56) (rg_c (x := (1 : Int32)) (n := 1) rfl) (by decide) (by decide); have := ((hS_V.rd r_RrQ_146_56)).1; have := ((hS_V.rd r_RrQ_146_56)).2; have := Int32.lt_iff_toInt_lt.mp (Int32.not_le.mp h_1); have := (f_4).1; have := (f_4).2; have := (f_5).1; have := (f_5).2; have := congrArg Int32.toInt h_6; have := (f_7).1; have := (f_7).2; have := an_0; have : (0 : Int32).toInt = 0 := rfl; have : (1 : Int32).toInt = 1 := rfl; omega)⟩))).2; have := congrArg Int32.toInt (rd_s q_11); have := ((rg_sub (hS_V.rd r_RrQ_146_56) (rg_c (x := (1 : Int32)) (n := 1) rfl) (by decide) (by decide))).1; have := ((rg_sub (hS_V.rd r_RrQ_146_56) (rg_c (x := (1 : Int32)) (n := 1) rfl) (by decide) (by decide))).2; have := rg_tis (hS_V.rd r_RrQ_146_56) (rg_c (x := (1 : Int32)) (n := 1) rfl) (by decide) (by decide); have := ((hS_V.rd r_RrQ_146_56)).1; have := ((hS_V.rd r_RrQ_146_56)).2; have := Int32.lt_iff_toInt_lt.mp (Int32.not_le.mp h_1); have := congrArg Int32.toInt h_6; have := (f_7).1; have := (f_7).2; have := ne_ti h_15; have := (f_55).1; have := (f_55).2; have := Int32.le_iff_toInt_le.mp (Int32.not_lt.mp h_60); have := (f_76).1; have := (f_76).2; have := congrArg Int32.toInt (rd_c (b := 173) (j := (V_10.1 146 56).toNatClampNeg) q_11 (by decide)); have := Int32.lt_iff_toInt_lt.mp h_75; have := (f_77).1; have := (f_77).2; have := congrArg Int32.toInt (rd_k (b := 146) (j := 52) q_11 (by decide)); have := ((hS_V.rd r_RrQ_146_52)).1; have := ((hS_V.rd r_RrQ_146_52)).2; have := congrArg Int32.toInt h_78; have := ((wr_k q_11 (by decide) f_7)).1; have := ((wr_k q_11 (by decide) f_7)).2; have := congrArg Int32.toInt (rd_k (b := 146) (j := 59) q_11 (by decide)); have := an_0; have : (0 : Int32).toInt = 0 := rfl; have : (1 : Int32).toInt = 1 := rfl; omega) hc_k137)
     (fun h_78 =>
    False.elim (rg_none h_78 (wr_k q_11 (by decide) f_7) (rg_c (x := (0 : Int32)) (n := 0) rfl))))
     (fun h_75 =>
    sf_assoc <|
    sf_iteb (fun h_88 =>
    sf_wb (q_fail hS_V_10 (by decide +kernel) (rg_c (x := (5 : Int32)) (n := 5) rfl) (by decide)) fun V_89 q_90 hS_V_89 =>
    sf_wb (hS_V_89.wc oi_RrQ_146_60 (rg_m (hS_V_89.rd r_RrQ_146_61) (by decide) (by decide))) fun V_91 q_92 hS_V_91 =>
    sf_someb <|
    sf_someb <|
    sf_ite (fun h_93 =>
    False.elim (rg_noeq h_93 (wr_k q_92 (by decide) (wr_s q_90 (rg_c (x := (5 : Int32)) (n := 5) rfl))) (rg_c (x := (0 : Int32)) (n := 0) rfl) (by decide)))
     (fun h_93 =>
    s_B_X12_likeReference_180_Q hN hk_k137 hS_V_91 (rg_m f_5 (by decide) (by decide)) (rg_m f_4 (by decide) (by decide)) (by have := (f_5).1; have := (f_5).2; have := (f_4).1; have := (f_4).2; have := ((wr_k q_92 (by decide) (wr_k q_90 (by decide) (wr_s q_11 (show rg _ (0) (255) from ⟨(by have := ((rg_sub (hS_V.rd r_RrQ_146_56) (rg_c (x := (1 : Int32)) (n := 1) rfl) (by decide) (by decide))).1; have := ((rg_sub (hS_V.rd r_RrQ_146_56) (rg_c (x := (1 : Int32)) (n := 1) rfl) (by decide) (by decide))).2; have := rg_tis (hS_V.rd r_RrQ_146_56) (rg_c (x := (1 : Int32)) (n := 1) rfl) (by decide) (by decide); have := ((hS_V.rd r_RrQ_146_56)).1; have := ((hS_V.rd r_RrQ_146_56)).2; have := Int32.lt_iff_toInt_lt.mp (Int32.not_le.mp h_1); have := (f_4).1; have := (f_4).2; have := (f_5).1; have := (f_5).2; have := congrArg Int32.toInt h_6; have := (f_7).1; have := (f_7).2; have := an_0; have : (0 : Int32).toInt = 0 := rfl; have : (1 : Int32).toInt = 1 := rfl; omega), (by have := ((rg_sub (hS_V.rd r_RrQ_146_56) (rg_c (x := (1 : Int32)) (n := 1) rfl) (by decide) (by decide))).1; have := ((rg_sub (hS_V.rd r_RrQ_146_56) (rg_c (x := (1 : Int32)) (n := 1) rfl) (by decide) (by decide))).2; have := rg_tis (hS_V.rd r_RrQ_146_56) (rg_c (x := (1 : Int32)) (n := 1) rfl) (by decide) (by decide); have := ((hS_V.rd r_RrQ_146_56)).1; have := ((hS_V.rd r_RrQ_146_56)).2; have := Int32.lt_iff_toInt_lt.mp (Int32.not_le.mp h_1); have := (f_4).1; have := (f_4).2; have := (f_5).1; have := (f_5).2; have := congrArg Int32.toInt h_6; have := (f_7).1; have := (f_7).2; have := an_0; have : (0 : Int32).toInt = 0 := rfl; have : (1 : Int32).toInt = 1 := rfl; omega)⟩))))).1; have := ((wr_k q_92 (by decide) (wr_k q_90 (by decide) (wr_s q_11 (show rg _ (0) (255) from ⟨(by have := ((rg_sub (hS_V.rd r_RrQ_146_56) (rg_c (x := (1 : Int32)) (n := 1) rfl) (by decide) (by decide))).1; have := ((rg_sub (hS_V.rd r_RrQ_146_56) (rg_c (x := (1 : Int32)) (n := 1) rfl) (by decide) (by decide))).2; have := rg_tis (hS_V.rd r_RrQ_146_56) (rg_c (x := (1 : Int32)) (n := 1) rfl) (by decide) (by decide); have := ((hS_V.rd r_RrQ_146_56)).1; have := ((hS_V.rd r_RrQ_146_56)).2; have := Int32.lt_iff_toInt_lt.mp (Int32.not_le.mp h_1); have := (f_4).1; have := (f_4).2; have := (f_5).1; have := (f_5).2; have := congrArg Int32.toInt h_6; have := (f_7).1; have := (f_7).2; have := an_0; have : (0 : Int32).toInt = 0 := rfl; have : (1 : Int32).toInt = 1 := rfl; omega), (by have := ((rg_sub (hS_V.rd r_RrQ_146_56) (rg_c (x := (1 : Int32)) (n := 1) rfl) (by decide) (by decide))).1; have := ((rg_sub (hS_V.rd r_RrQ_146_56) (rg_c (x := (1 : Int32)) (n := 1) rfl) (by decide) (by decide))).2; have := rg_tis (hS_V.rd r_RrQ_146_56) (rg_c (x := (1 : Int32)) (n := 1) rfl) (by decide) (by decide); have := ((hS_V.rd r_RrQ_146_56)).1; have := ((hS_V.rd r_RrQ_146_56)).2; have := Int32.lt_iff_toInt_lt.mp (Int32.not_le.mp h_1); have := (f_4).1; have := (f_4).2; have := (f_5).1; have := (f_5).2; have := congrArg Int32.toInt h_6; have := (f_7).1; have := (f_7).2; have := an_0; have : (0 : Int32).toInt = 0 := rfl; have : (1 : Int32).toInt = 1 := rfl; omega)⟩))))).2; have := congrArg Int32.toInt (rd_k (b := 146) (j := 56) q_92 (by decide)); have := ((wr_k q_90 (by decide) (wr_s q_11 (show rg _ (0) (255) from ⟨(by have := ((rg_sub (hS_V.rd r_RrQ_146_56) (rg_c (x := (1 : Int32)) (n := 1) rfl) (by decide) (by decide))).1; have := ((rg_sub (hS_V.rd r_RrQ_146_56) (rg_c (x := (1 : Int32)) (n := 1) rfl) (by decide) (by decide))).2; have := rg_tis (hS_V.rd r_RrQ_146_56) (rg_c (x := (1 : Int32)) (n := 1) rfl) (by decide) (by decide); have := ((hS_V.rd r_RrQ_146_56)).1; have := ((hS_V.rd r_RrQ_146_56)).2; have := Int32.lt_iff_toInt_lt.mp (Int32.not_le.mp h_1); have := (f_4).1; have := (f_4).2; have := (f_5).1; have := (f_5).2; have := congrArg Int32.toInt h_6; have := (f_7).1; have := (f_7).2; have := an_0; have : (0 : Int32).toInt = 0 := rfl; have : (1 : Int32).toInt = 1 := rfl; omega), (by have := ((rg_sub (hS_V.rd r_RrQ_146_56) (rg_c (x := (1 : Int32)) (n := 1) rfl) (by decide) (by decide))).1; have := ((rg_sub (hS_V.rd r_RrQ_146_56) (rg_c (x := (1 : Int32)) (n := 1) rfl) (by decide) (by decide))).2; have := rg_tis (hS_V.rd r_RrQ_146_56) (rg_c (x := (1 : Int32)) (n := 1) rfl) (by decide) (by decide); have := ((hS_V.rd r_RrQ_146_56)).1; have := ((hS_V.rd r_RrQ_146_56)).2; have := Int32.lt_iff_toInt_lt.mp (Int32.not_le.mp h_1); have := (f_4).1; have := (f_4).2; have := (f_5).1; have := (f_5).2; have := congrArg Int32.toInt h_6; have := (f_7).1; have := (f_7).2; have := an_0; have : (0 : Int32).toInt = 0 := rfl; have : (1 : Int32).toInt = 1 := rfl; omega)⟩)))).1; have := ((wr_k q_90 (by decide) (wr_s q_11 (show rg _ (0) (255) from ⟨(by have := ((rg_sub (hS_V.rd r_RrQ_146_56) (rg_c (x := (1 : Int32)) (n := 1) rfl) (by decide) (by decide))).1; have := ((rg_sub (hS_V.rd r_RrQ_146_56) (rg_c (x := (1 : Int32)) (n := 1) rfl) (by decide) (by decide))).2; have := rg_tis (hS_V.rd r_RrQ_146_56) (rg_c (x := (1 : Int32)) (n := 1) rfl) (by decide) (by decide); have := ((hS_V.rd r_RrQ_146_56)).1; have := ((hS_V.rd r_RrQ_146_56)).2; have := Int32.lt_iff_toInt_lt.mp (Int32.not_le.mp h_1); have := (f_4).1; have := (f_4).2; have := (f_5).1; have := (f_5).2; have := congrArg Int32.toInt h_6; have := (f_7).1; have := (f_7).2; have := an_0; have : (0 : Int32).toInt = 0 := rfl; have : (1 : Int32).toInt = 1 := rfl; omega), (by have := ((rg_sub (hS_V.rd r_RrQ_146_56) (rg_c (x := (1 : Int32)) (n := 1) rfl) (by decide) (by decide))).1; have := ((rg_sub (hS_V.rd r_RrQ_146_56) (rg_c (x := (1 : Int32)) (n := 1) rfl) (by decide) (by decide))).2; have := rg_tis (hS_V.rd r_RrQ_146_56) (rg_c (x := (1 : Int32)) (n := 1) rfl) (by decide) (by decide); have := ((hS_V.rd r_RrQ_146_56)).1; have := ((hS_V.rd r_RrQ_146_56)).2; have := Int32.lt_iff_toInt_lt.mp (Int32.not_le.mp h_1); have := (f_4).1; have := (f_4).2; have := (f_5).1; have := (f_5).2; have := congrArg Int32.toInt h_6; have := (f_7).1; have := (f_7).2; have := an_0; have : (0 : Int32).toInt = 0 := rfl; have : (1 : Int32).toInt = 1 := rfl; omega)⟩)))).2; have := congrArg Int32.toInt (rd_k (b := 146) (j := 56) q_90 (by decide)); have := ((wr_s q_11 (show rg _ (0) (255) from ⟨(by have := ((rg_sub (hS_V.rd r_RrQ_146_56) (rg_c (x := (1 : Int32)) (n := 1) rfl) (by decide) (by decide))).1; have := ((rg_sub (hS_V.rd r_RrQ_146_56) (rg_c (x := (1 : Int32)) (n := 1) rfl) (by decide) (by decide))).2; have := rg_tis (hS_V.rd r_RrQ_146_56) (rg_c (x := (1 : Int32)) (n := 1) rfl) (by decide) (by decide); have := ((hS_V.rd r_RrQ_146_56)).1; have := ((hS_V.rd r_RrQ_146_56)).2; have := Int32.lt_iff_toInt_lt.mp (Int32.not_le.mp h_1); have := (f_4).1; have := (f_4).2; have := (f_5).1; have := (f_5).2; have := congrArg Int32.toInt h_6; have := (f_7).1; have := (f_7).2; have := an_0; have : (0 : Int32).toInt = 0 := rfl; have : (1 : Int32).toInt = 1 := rfl; omega), (by have := ((rg_sub (hS_V.rd r_RrQ_146_56) (rg_c (x := (1 : Int32)) (n := 1) rfl) (by decide) (by decide))).1; have := ((rg_sub (hS_V.rd r_RrQ_146_56) (rg_c (x := (1 : Int32)) (n := 1) rfl) (by decide) (by decide))).2; have := rg_tis (hS_V.rd r_RrQ_146_56) (rg_c (x := (1 : Int32)) (n := 1) rfl) (by decide) (by decide); have := ((hS_V.rd r_RrQ_146_56)).1; have := ((hS_V.rd r_RrQ_146_56)).2; have := Int32.lt_iff_toInt_lt.mp (Int32.not_le.mp h_1); have := (f_4).1; have := (f_4).2; have := (f_5).1; have := (f_5).2; have := congrArg Int32.toInt h_6; have := (f_7).1; have := (f_7).2; have := an_0; have : (0 : Int32).toInt = 0 := rfl; have : (1 : Int32).toInt = 1 := rfl; omega)⟩))).1; have := ((wr_s q_11 (show rg _ (0) (255) from ⟨(by have := ((rg_sub (hS_V.rd r_RrQ_146_56) (rg_c (x := (1 : Int32)) (n := 1) rfl) (by decide) (by decide))).1; have := ((rg_sub (hS_V.rd r_RrQ_146_56) (rg_c (x := (1 : Int32)) (n := 1) rfl) (by decide) (by decide))).2; have := rg_tis (hS_V.rd r_RrQ_146_56) (rg_c (x := (1 : Int32)) (n := 1) rfl) (by decide) (by decide); have := ((hS_V.rd r_RrQ_146_56)).1; have := ((hS_V.rd r_RrQ_146_56)).2; have := Int32.lt_iff_toInt_lt.mp (Int32.not_le.mp h_1); have := (f_4).1; have := (f_4).2; have := (f_5).1; have := (f_5).2; have := congrArg Int32.toInt h_6; have := (f_7).1; have := (f_7).2; have := an_0; have : (0 : Int32).toInt = 0 := rfl; have : (1 : Int32).toInt = 1 := rfl; omega), (by have := ((rg_sub (hS_V.rd r_RrQ_146_56) (rg_c (x := (1 : Int32)) (n := 1) rfl) (by decide) (by decide))).1; have := ((rg_sub (hS_V.rd r_RrQ_146_56) (rg_c (x := (1 : Int32)) (n := 1) rfl) (by decide) (by decide))).2; have := rg_tis (hS_V.rd r_RrQ_146_56) (rg_c (x := (1 : Int32)) (n := 1) rfl) (by decide) (by decide); have := ((hS_V.rd r_RrQ_146_56)).1; have := ((hS_V.rd r_RrQ_146_56)).2; have := Int32.lt_iff_toInt_lt.mp (Int32.not_le.mp h_1); have := (f_4).1; have := (f_4).2; have := (f_5).1; have := (f_5).2; have := congrArg Int32.toInt h_6; have := (f_7).1; have := (f_7).2; have := an_0; have : (0 : Int32).toInt = 0 := rfl; have : (1 : Int32).toInt = 1 := rfl; omega)⟩))).2; have := congrArg Int32.toInt (rd_s q_11); have := ((rg_sub (hS_V.rd r_RrQ_146_56) (rg_c (x := (1 : Int32)) (n := 1) rfl) (by decide) (by decide))).1; have := ((rg_sub (hS_V.rd r_RrQ_146_56) (rg_c (x := (1 : Int32)) (n := 1) rfl) (by decide) (by decide))).2; have := rg_tis (hS_V.rd r_RrQ_146_56) (rg_c (x := (1 : Int32)) (n := 1) rfl) (by decide) (by decide); have := ((hS_V.rd r_RrQ_146_56)).1; have := ((hS_V.rd r_RrQ_146_56)).2; have := Int32.lt_iff_toInt_lt.mp (Int32.not_le.mp h_1); have := congrArg Int32.toInt h_6; have := (f_7).1; have := (f_7).2; have := ne_ti h_15; have := (f_55).1; have := (f_55).2; have := Int32.le_iff_toInt_le.mp (Int32.not_lt.mp h_60); have := (f_74).1; have := (f_74).2; have := congrArg Int32.toInt (rd_c (b := 173) (j := (V_10.1 146 56).toNatClampNeg) q_11 (by decide)); have := Int32.le_iff_toInt_le.mp (Int32.not_lt.mp h_75); have := ((hS_V_10.rd r_RrQ_146_52)).1; have := ((hS_V_10.rd r_RrQ_146_52)).2; have := congrArg Int32.toInt (rd_k (b := 146) (j := 52) q_11 (by decide)); have := ((hS_V.rd r_RrQ_146_52)).1; have := ((hS_V.rd r_RrQ_146_52)).2; have := congrArg Int32.toInt h_88; have := ((wr_k q_11 (by decide) f_7)).1; have := ((wr_k q_11 (by decide) f_7)).2; have := congrArg Int32.toInt (rd_k (b := 146) (j := 59) q_11 (by decide)); have := ne_ti h_93; have := ((wr_k q_92 (by decide) (wr_s q_90 (rg_c (x := (5 : Int32)) (n := 5) rfl)))).1; have := ((wr_k q_92 (by decide) (wr_s q_90 (rg_c (x := (5 : Int32)) (n := 5) rfl)))).2; have := congrArg Int32.toInt (rd_k (b := 146) (j := 59) q_92 (by decide)); have := ((wr_s q_90 (rg_c (x := (5 : Int32)) (n := 5) rfl))).1; have := ((wr_s q_90 (rg_c (x := (5 : Int32)) (n := 5) rfl))).2; have := congrArg Int32.toInt (rd_s q_90); have := an_0; have : (0 : Int32).toInt = 0 := rfl; have : (1 : Int32).toInt = 1 := rfl; have : (5 : Int32).toInt = 5 := rfl; omega) hc_k137))
     (fun h_88 =>
    False.elim (rg_none h_88 (wr_k q_11 (by decide) f_7) (rg_c (x := (0 : Int32)) (n := 0) rfl)))))))
     (fun h_6 =>
    have f_94 := (rg_nel h_6 (hS_V.rd r_RrQ_146_59) (rg_c (x := (0 : Int32)) (n := 0) rfl))
    sf_w (q_loop hS_V (by have := (f_94).1; have := (f_94).2; have := Int32.lt_iff_toInt_lt.mp (Int32.not_le.mp h_1); have := (f_4).1; have := (f_4).2; have := (f_5).1; have := (f_5).2; have := ne_ti h_6; have := ((hS_V.rd r_RrQ_146_56)).1; have := ((hS_V.rd r_RrQ_146_56)).2; have := an_0; have : (0 : Int32).toInt = 0 := rfl; have : (1 : Int32).toInt = 1 := rfl; omega)) fun V_95 q_96 hS_V_95 =>
    sf_sV hS_V_95))
theorem s_B_X12_likeReference_226_Q {G : sv_V} {N : Nat} (hN : 8589934592 ≤ N) {V : sv_V} (hS_V : SIx T_rQ G V) : Sg (SIx T_rQ G) (B_X12_likeReference_226 N V) := by
  unfold B_X12_likeReference_226
  exact
    sf_iteb (fun h_5 =>
    sf_wb (q_fail hS_V (by decide +kernel) (rg_c (x := (5 : Int32)) (n := 5) rfl) (by decide)) fun V_7 q_8 hS_V_7 =>
    sf_wb (hS_V_7.wc oi_RrQ_146_60 (rg_m (hS_V_7.rd r_RrQ_146_61) (by decide) (by decide))) fun V_9 q_10 hS_V_9 =>
    sf_someb <|
    sf_sV hS_V_9)
     (fun h_5 =>
    sf_someb <|
    sf_sV hS_V)
theorem s_B_X12_likeReference_288_Q {G : sv_V} {N : Nat} (hN : 8589934592 ≤ N) {k254 : Int32 → Int32 → Int32 → Int32 → sv_V → Option sv_V} {c_k254 : Int} (hk_k254 : ∀ (l5 : Int32) (l6 : Int32) (l7 : Int32) (l8 : Int32) (V : sv_V), SIx T_rQ G V → rg l5 (0) (203) → rg l7 (0) (19) → rg l8 (0) (102) → c_k254 < l8.toInt → Sg (SIx T_rQ G) (k254 l5 l6 l7 l8 V)) {l5 : Int32} {l6 : Int32} {l7 : Int32} {l8 : Int32} {V : sv_V} (hS_V : SIx T_rQ G V) (r_l5 : rg l5 (0) (203)) (r_l7 : rg l7 (0) (19)) (r_l8 : rg l8 (0) (101)) (hc_k254 : c_k254 ≤ l8.toInt) : Sg (SIx T_rQ G) (B_X12_likeReference_288 N k254 l5 l6 l7 l8 V) := by
  unfold B_X12_likeReference_288
  exact
    sf_let fun x_1 q_2 =>
    have f_3 := rg_eq q_2 (rg_add r_l8 (rg_c (x := (1 : Int32)) (n := 1) rfl) (by decide) (by decide))
    hk_k254 _ _ _ _ _ hS_V r_l5 r_l7 (rg_m f_3 (by decide) (by decide)) (cnt_u0 q_2 r_l8 (by decide) hc_k254)
theorem s_B_X12_likeReference_254_Q {G : sv_V} {N : Nat} (hN : 8589934592 ≤ N) {k254 : Int32 → Int32 → Int32 → Int32 → sv_V → Option sv_V} {c_k254 : Int} (hk_k254 : ∀ (l5 : Int32) (l6 : Int32) (l7 : Int32) (l8 : Int32) (V : sv_V), SIx T_rQ G V → rg l5 (0) (203) → rg l7 (0) (19) → rg l8 (0) (102) → c_k254 < l8.toInt → Sg (SIx T_rQ G) (k254 l5 l6 l7 l8 V)) {l5 : Int32} {l6 : Int32} {l7 : Int32} {l8 : Int32} {V : sv_V} (hS_V : SIx T_rQ G V) (r_l5 : rg l5 (0) (203)) (r_l7 : rg l7 (0) (19)) (r_l8 : rg l8 (0) (102)) (hc_k254 : c_k254 ≤ l8.toInt) : Sg (SIx T_rQ G) (B_X12_likeReference_254 N k254 l5 l6 l7 l8 V) := by
  unfold B_X12_likeReference_254
  exact
    sf_p (in_rg r_l7 (by decide) (by decide)) <|
    sf_ite (fun h_1 =>
    sf_sV hS_V)
     (fun h_1 =>
    have f_3 := (rg_hle (Int32.not_lt.mp h_1) r_l8 (hS_V.rdA (k := l7.toNatClampNeg) ra_RrQ_172))
    sf_ite (fun h_4 =>
    have f_5 := (rg_eq (Eq.symm h_4) (rg_add (rg_c (x := (102 : Int32)) (n := 102) rfl) f_3 (by decide) (by decide)))
    s_B_X12_likeReference_288_Q hN hk_k254 hS_V (rg_m f_5 (by decide) (by decide)) r_l7 (rg_m f_3 (by decide) (by decide)) hc_k254)
     (fun h_4 =>
    sf_eV (s_F_X12_move_Q hN hS_V (rg_m (rg_add (rg_c (x := (102 : Int32)) (n := 102) rfl) f_3 (by decide) (by decide)) (by decide) (by decide))) fun V_6 e_7 hS_V_6 =>
    s_B_X12_likeReference_288_Q hN hk_k254 hS_V_6 r_l5 r_l7 (rg_m f_3 (by decide) (by decide)) hc_k254))
theorem s_B_X12_likeReference_252_Q {G : sv_V} {N : Nat} (hN : 8589934592 ≤ N) {l5 : Int32} {l6 : Int32} {l7 : Int32} {s0 : Int32} {V : sv_V} (hS_V : SIx T_rQ G V) (r_l5 : rg l5 (0) (203)) (r_l7 : rg l7 (0) (19)) (r_s0 : rg s0 (0) (102)) : Sg (SIx T_rQ G) (B_X12_likeReference_252 N l5 l6 l7 s0 V) := by
  unfold B_X12_likeReference_252
  exact
    lp5_up (I := fun l5 l6 l7 l8 V => (SIx T_rQ G V) ∧ (rg l5 (0) (203)) ∧ (rg l7 (0) (19)) ∧ (rg l8 (0) (102))) (fun _ _ _ l8 _ => l8.toInt) (0) (102) (fun l5 l6 l7 l8 V h => by
      obtain ⟨hS_V, r_l5, r_l7, r_l8⟩ := h
      have := r_l8; unfold rg at this; omega) (fun k l5 l6 l7 l8 V h hk => by
      obtain ⟨hS_V, r_l5, r_l7, r_l8⟩ := h
      exact s_B_X12_likeReference_254_Q hN (fun l5 l6 l7 l8 V hS_V r_l5 r_l7 r_l8 hc_k254  => hk l5 l6 l7 l8 V (by exact ⟨hS_V, r_l5, r_l7, r_l8⟩) (hc_k254)) hS_V r_l5 r_l7 r_l8 (Int.le_refl _)) N (by have := hN; omega) _ _ _ _ _ (by exact ⟨hS_V, r_l5, r_l7, r_s0⟩)
theorem s_B_X12_likeReference_385_Q {G : sv_V} {N : Nat} (hN : 8589934592 ≤ N) {k355 : Int32 → Int32 → Int32 → Int32 → Int32 → sv_V → Option sv_V} {c_k355 : Int} (hk_k355 : ∀ (l5 : Int32) (l6 : Int32) (l7 : Int32) (l8 : Int32) (l9 : Int32) (V : sv_V), SIx T_rQ G V → rg l5 (0) (203) → rg l7 (0) (1) → rg l8 (0) (102) → rg l9 (0) (204) → c_k355 < l9.toInt → Sg (SIx T_rQ G) (k355 l5 l6 l7 l8 l9 V)) {l5 : Int32} {l6 : Int32} {l7 : Int32} {l8 : Int32} {l9 : Int32} {V : sv_V} (hS_V : SIx T_rQ G V) (r_l5 : rg l5 (0) (203)) (r_l7 : rg l7 (0) (1)) (r_l8 : rg l8 (0) (102)) (r_l9 : rg l9 (0) (203)) (hc_k355 : c_k355 ≤ l9.toInt) : Sg (SIx T_rQ G) (B_X12_likeReference_385 N k355 l5 l6 l7 l8 l9 V) := by
  unfold B_X12_likeReference_385
  exact
    sf_let fun x_1 q_2 =>
    have f_3 := rg_eq q_2 (rg_add r_l9 (rg_c (x := (1 : Int32)) (n := 1) rfl) (by decide) (by decide))
    hk_k355 _ _ _ _ _ _ hS_V r_l5 r_l7 r_l8 (rg_m f_3 (by decide) (by decide)) (cnt_u0 q_2 r_l9 (by decide) hc_k355)
theorem s_B_X12_likeReference_355_Q {G : sv_V} {N : Nat} (hN : 8589934592 ≤ N) {k355 : Int32 → Int32 → Int32 → Int32 → Int32 → sv_V → Option sv_V} {c_k355 : Int} (hk_k355 : ∀ (l5 : Int32) (l6 : Int32) (l7 : Int32) (l8 : Int32) (l9 : Int32) (V : sv_V), SIx T_rQ G V → rg l5 (0) (203) → rg l7 (0) (1) → rg l8 (0) (102) → rg l9 (0) (204) → c_k355 < l9.toInt → Sg (SIx T_rQ G) (k355 l5 l6 l7 l8 l9 V)) {l5 : Int32} {l6 : Int32} {l7 : Int32} {l8 : Int32} {l9 : Int32} {V : sv_V} (hS_V : SIx T_rQ G V) (r_l5 : rg l5 (0) (203)) (r_l7 : rg l7 (0) (1)) (r_l8 : rg l8 (0) (102)) (r_l9 : rg l9 (0) (204)) (hc_k355 : c_k355 ≤ l9.toInt) : Sg (SIx T_rQ G) (B_X12_likeReference_355 N k355 l5 l6 l7 l8 l9 V) := by
  unfold B_X12_likeReference_355
  exact
    sf_ite (fun h_1 =>
    sf_sV hS_V)
     (fun h_1 =>
    have f_2 := (rg_hlt (Int32.not_le.mp h_1) r_l9 (rg_add (rg_mul (l := (0)) (h := (102)) (rg_c (x := (102 : Int32)) (n := 102) rfl) r_l7 (by decide)) r_l8 (by decide) (by decide)))
    sf_ite (fun h_4 =>
    s_B_X12_likeReference_385_Q hN hk_k355 hS_V r_l5 r_l7 r_l8 (rg_m f_2 (by decide) (by decide)) hc_k355)
     (fun h_4 =>
    sf_eV (s_F_X12_shiftBy_Q hN hS_V (rg_m f_2 (by decide) (by decide)) (rg_m (rg_c (x := (0 : Int32)) (n := 0) rfl) (by decide) (by decide))) fun V_5 e_6 hS_V_5 =>
    s_B_X12_likeReference_385_Q hN hk_k355 hS_V_5 r_l5 r_l7 r_l8 (rg_m f_2 (by decide) (by decide)) hc_k355))
theorem s_B_X12_likeReference_346_Q {G : sv_V} {N : Nat} (hN : 8589934592 ≤ N) {l5 : Int32} {l6 : Int32} {l7 : Int32} {s0 : Int32} {V : sv_V} (hS_V : SIx T_rQ G V) (r_l5 : rg l5 (0) (203)) (r_l7 : rg l7 (0) (1)) (r_s0 : rg s0 (0) (102)) : Sg (SIx T_rQ G) (B_X12_likeReference_346 N l5 l6 l7 s0 V) := by
  unfold B_X12_likeReference_346
  exact
    sf_let fun x_1 q_2 =>
    have f_3 := rg_eq q_2 (rg_mul (l := (0)) (h := (102)) (rg_c (x := (102 : Int32)) (n := 102) rfl) r_l7 (by decide))
    lp6_up (I := fun l5 l6 l7 l8 l9 V => (SIx T_rQ G V) ∧ (rg l5 (0) (203)) ∧ (rg l7 (0) (1)) ∧ (rg l8 (0) (102)) ∧ (rg l9 (0) (204))) (fun _ _ _ _ l9 _ => l9.toInt) (0) (204) (fun l5 l6 l7 l8 l9 V h => by
      obtain ⟨hS_V, r_l5, r_l7, r_l8, r_l9⟩ := h
      have := r_l9; unfold rg at this; omega) (fun k l5 l6 l7 l8 l9 V h hk => by
      obtain ⟨hS_V, r_l5, r_l7, r_l8, r_l9⟩ := h
      exact s_B_X12_likeReference_355_Q hN (fun l5 l6 l7 l8 l9 V hS_V r_l5 r_l7 r_l8 r_l9 hc_k355  => hk l5 l6 l7 l8 l9 V (by exact ⟨hS_V, r_l5, r_l7, r_l8, r_l9⟩) (hc_k355)) hS_V r_l5 r_l7 r_l8 r_l9 (Int.le_refl _)) N (by have := hN; omega) _ _ _ _ _ _ (by exact ⟨hS_V, r_l5, r_l7, r_s0, (rg_m f_3 (by decide) (by decide))⟩)
theorem s_B_X12_likeReference_72_Q {G : sv_V} {N : Nat} (hN : 8589934592 ≤ N) {l1 : Int32} {l2 : Int32} {s1 : Int32} {s2 : Int32} {V : sv_V} (hS_V : SIx T_rQ G V) (r_l1 : rg l1 (50) (55)) (r_l2 : rg l2 (-2147483648) (256)) (r_s1 : rg s1 (0) (1)) (an_0 : l1.toInt < 52 ∨ l2.toInt = 1) (an_1 : l2.toInt ≤ (V.1 146 56).toInt) : Sg (SIx T_rQ G) (B_X12_likeReference_72 N l1 l2 s1 s2 V) := by
  unfold B_X12_likeReference_72
  exact
    sf_iteb (fun h_4 =>
    have f_5 := (rg_eq h_4 (rg_c (x := (0 : Int32)) (n := 0) rfl))
    sf_iteb (fun h_10 =>
    sf_assoc <|
    sf_iteb (fun h_18 =>
    sf_wb (q_fail hS_V (by decide +kernel) (rg_c (x := (5 : Int32)) (n := 5) rfl) (by decide)) fun V_20 q_21 hS_V_20 =>
    sf_wb (hS_V_20.wc oi_RrQ_146_60 (rg_m (hS_V_20.rd r_RrQ_146_61) (by decide) (by decide))) fun V_22 q_23 hS_V_22 =>
    sf_someb <|
    sf_someb <|
    sf_ite (fun h_24 =>
    False.elim (rg_nole h_24 (wr_k q_23 (by decide) (wr_s q_21 (rg_c (x := (5 : Int32)) (n := 5) rfl))) (rg_c (x := (0 : Int32)) (n := 0) rfl) (by decide)))
     (fun h_24 =>
    sf_sV hS_V_22))
     (fun h_18 =>
    have f_25 := (rg_nel h_18 (hS_V.rd r_RrQ_146_59) (rg_c (x := (0 : Int32)) (n := 0) rfl))
    sf_someb <|
    sf_someb <|
    sf_ite (fun h_26 =>
    False.elim (rg_nole h_26 f_25 (rg_c (x := (0 : Int32)) (n := 0) rfl) (by decide)))
     (fun h_26 =>
    sf_sV hS_V)))
     (fun h_10 =>
    have f_27 := (rg_lle (Int32.not_lt.mp h_10) (rg_c (x := (0 : Int32)) (n := 0) rfl) rg_t)
    sf_iteb (fun h_28 =>
    have f_29 := (rg_hlt h_28 f_27 (hS_V.rd r_RrQ_146_14))
    have f_30 := (rg_llt h_28 f_27 (hS_V.rd r_RrQ_146_14))
    sf_someb <|
    sf_ite (fun h_31 =>
    have f_32 := (rg_hle h_31 (hS_V.rd r_RrQ_146_59) (rg_c (x := (0 : Int32)) (n := 0) rfl))
    sf_p (in_rg (rg_add (rg_mul (l := (0)) (h := (0)) (rg_c (x := (102 : Int32)) (n := 102) rfl) f_5 (by decide)) f_29 (by decide) (by decide)) (by decide) (by decide)) <|
    sf_p (in_rg (rg_add (rg_mul (l := (0)) (h := (0)) (rg_c (x := (102 : Int32)) (n := 102) rfl) f_5 (by decide)) f_29 (by decide) (by decide)) (by decide) (by decide)) <|
    sf_p (in_rg (rg_add (rg_mul (l := (0)) (h := (0)) (rg_c (x := (102 : Int32)) (n := 102) rfl) f_5 (by decide)) f_29 (by decide) (by decide)) (by decide) (by decide)) <|
    sf_p (in_rg (rg_add (rg_mul (l := (0)) (h := (0)) (rg_c (x := (102 : Int32)) (n := 102) rfl) f_5 (by decide)) f_29 (by decide) (by decide)) (by decide) (by decide)) <|
    sf_qI (s_F_X12_by_Q hN hS_V (rg_m (hS_V.rd r_RrQ_146_65) (by decide) (by decide)) (rg_m (hS_V.rd r_RrQ_146_66) (by decide) (by decide))) fun x_33 r_34 =>
    sf_ite (fun h_35 =>
    have f_36 := (rg_lle h_35 (rg_c (x := (52 : Int32)) (n := 52) rfl) r_l1)
    sf_wb (hS_V.wc oi_RrQ_146_56 (rg_m (show rg _ (0) (255) from ⟨(by have := ((rg_sub (hS_V.rd r_RrQ_146_56) (rg_c (x := (1 : Int32)) (n := 1) rfl) (by decide) (by decide))).1; have := ((rg_sub (hS_V.rd r_RrQ_146_56) (rg_c (x := (1 : Int32)) (n := 1) rfl) (by decide) (by decide))).2; have := rg_tis (hS_V.rd r_RrQ_146_56) (rg_c (x := (1 : Int32)) (n := 1) rfl) (by decide) (by decide); have := ((hS_V.rd r_RrQ_146_56)).1; have := ((hS_V.rd r_RrQ_146_56)).2; have := congrArg Int32.toInt h_4; have := (f_5).1; have := (f_5).2; have := Int32.le_iff_toInt_le.mp (Int32.not_lt.mp h_10); have := (f_29).1; have := (f_29).2; have := Int32.lt_iff_toInt_lt.mp h_28; have := (f_30).1; have := (f_30).2; have := Int32.le_iff_toInt_le.mp h_31; have := (f_32).1; have := (f_32).2; have := Int32.le_iff_toInt_le.mp h_35; have := (f_36).1; have := (f_36).2; have := (r_l2).1; have := (r_l2).2; have := an_0; have := an_1; have : (0 : Int32).toInt = 0 := rfl; have : (1 : Int32).toInt = 1 := rfl; have : (52 : Int32).toInt = 52 := rfl; omega), (by have := ((rg_sub (hS_V.rd r_RrQ_146_56) (rg_c (x := (1 : Int32)) (n := 1) rfl) (by decide) (by decide))).1; have := ((rg_sub (hS_V.rd r_RrQ_146_56) (rg_c (x := (1 : Int32)) (n := 1) rfl) (by decide) (by decide))).2; have := rg_tis (hS_V.rd r_RrQ_146_56) (rg_c (x := (1 : Int32)) (n := 1) rfl) (by decide) (by decide); have := ((hS_V.rd r_RrQ_146_56)).1; have := ((hS_V.rd r_RrQ_146_56)).2; have := congrArg Int32.toInt h_4; have := (f_5).1; have := (f_5).2; have := Int32.le_iff_toInt_le.mp (Int32.not_lt.mp h_10); have := (f_29).1; have := (f_29).2; have := Int32.lt_iff_toInt_lt.mp h_28; have := (f_30).1; have := (f_30).2; have := Int32.le_iff_toInt_le.mp h_31; have := (f_32).1; have := (f_32).2; have := Int32.le_iff_toInt_le.mp h_35; have := (f_36).1; have := (f_36).2; have := (r_l2).1; have := (r_l2).2; have := an_0; have := an_1; have : (0 : Int32).toInt = 0 := rfl; have : (1 : Int32).toInt = 1 := rfl; have : (52 : Int32).toInt = 52 := rfl; omega)⟩) (by decide) (by decide))) fun V_39 q_40 hS_V_39 =>
    sf_pb (in_rg (wr_s q_40 (show rg _ (0) (255) from ⟨(by have := ((rg_sub (hS_V.rd r_RrQ_146_56) (rg_c (x := (1 : Int32)) (n := 1) rfl) (by decide) (by decide))).1; have := ((rg_sub (hS_V.rd r_RrQ_146_56) (rg_c (x := (1 : Int32)) (n := 1) rfl) (by decide) (by decide))).2; have := rg_tis (hS_V.rd r_RrQ_146_56) (rg_c (x := (1 : Int32)) (n := 1) rfl) (by decide) (by decide); have := ((hS_V.rd r_RrQ_146_56)).1; have := ((hS_V.rd r_RrQ_146_56)).2; have := congrArg Int32.toInt h_4; have := (f_5).1; have := (f_5).2; have := Int32.le_iff_toInt_le.mp (Int32.not_lt.mp h_10); have := (f_29).1; have := (f_29).2; have := Int32.lt_iff_toInt_lt.mp h_28; have := (f_30).1; have := (f_30).2; have := Int32.le_iff_toInt_le.mp h_31; have := (f_32).1; have := (f_32).2; have := Int32.le_iff_toInt_le.mp h_35; have := (f_36).1; have := (f_36).2; have := (r_l2).1; have := (r_l2).2; have := an_0; have := an_1; have : (0 : Int32).toInt = 0 := rfl; have : (1 : Int32).toInt = 1 := rfl; have : (52 : Int32).toInt = 52 := rfl; omega), (by have := ((rg_sub (hS_V.rd r_RrQ_146_56) (rg_c (x := (1 : Int32)) (n := 1) rfl) (by decide) (by decide))).1; have := ((rg_sub (hS_V.rd r_RrQ_146_56) (rg_c (x := (1 : Int32)) (n := 1) rfl) (by decide) (by decide))).2; have := rg_tis (hS_V.rd r_RrQ_146_56) (rg_c (x := (1 : Int32)) (n := 1) rfl) (by decide) (by decide); have := ((hS_V.rd r_RrQ_146_56)).1; have := ((hS_V.rd r_RrQ_146_56)).2; have := congrArg Int32.toInt h_4; have := (f_5).1; have := (f_5).2; have := Int32.le_iff_toInt_le.mp (Int32.not_lt.mp h_10); have := (f_29).1; have := (f_29).2; have := Int32.lt_iff_toInt_lt.mp h_28; have := (f_30).1; have := (f_30).2; have := Int32.le_iff_toInt_le.mp h_31; have := (f_32).1; have := (f_32).2; have := Int32.le_iff_toInt_le.mp h_35; have := (f_36).1; have := (f_36).2; have := (r_l2).1; have := (r_l2).2; have := an_0; have := an_1; have : (0 : Int32).toInt = 0 := rfl; have : (1 : Int32).toInt = 1 := rfl; have : (52 : Int32).toInt = 52 := rfl; omega)⟩)) (by decide) (by decide)) <|
    sf_someb <|
    sf_ite (fun h_41 =>
    sf_iteb (fun h_45 =>
    have f_46 := (rg_eq h_45 (rg_c (x := (1 : Int32)) (n := 1) rfl))
    sf_someb <|
    sf_ite (fun h_48 =>
    False.elim (rg_noeq h_48 (rg_c (x := (1 : Int32)) (n := 1) rfl) (rg_c (x := (0 : Int32)) (n := 0) rfl) (by decide)))
     (fun h_48 =>
    sf_ite (fun h_49 =>
    False.elim (rg_noeq h_49 f_46 (rg_c (x := (0 : Int32)) (n := 0) rfl) (by decide)))
     (fun h_49 =>
    sf_ite (fun h_50 =>
    s_B_X12_likeReference_346_Q hN hS_V_39 (rg_m (rg_add (rg_mul (l := (0)) (h := (0)) (rg_c (x := (102 : Int32)) (n := 102) rfl) f_5 (by decide)) f_29 (by decide) (by decide)) (by decide) (by decide)) (rg_m f_46 (by decide) (by decide)) (rg_m (rg_c (x := (0 : Int32)) (n := 0) rfl) (by decide) (by decide)))
     (fun h_50 =>
    have f_52 := (rg_nel h_50 (hS_V_39.rd r_RrQ_146_53) (rg_c (x := (0 : Int32)) (n := 0) rfl))
    sf_p (in_rg (rg_sub f_52 (rg_c (x := (1 : Int32)) (n := 1) rfl) (by decide) (by decide)) (by decide) (by decide)) <|
    s_B_X12_likeReference_346_Q hN hS_V_39 (rg_m (rg_add (rg_mul (l := (0)) (h := (0)) (rg_c (x := (102 : Int32)) (n := 102) rfl) f_5 (by decide)) f_29 (by decide) (by decide)) (by decide) (by decide)) (rg_m f_46 (by decide) (by decide)) (rg_m (rg_add (hS_V_39.rdA (k := ((V_39.1 146 53) - (1 : Int32)).toNatClampNeg) ra_RrQ_172) (rg_c (x := (1 : Int32)) (n := 1) rfl) (by decide) (by decide)) (by decide) (by decide))))))
     (fun h_45 =>
    sf_iteb (fun h_53 =>
    have f_54 := (rg_eq h_53 (rg_c (x := (0 : Int32)) (n := 0) rfl))
    sf_iteb (fun h_55 =>
    sf_someb <|
    sf_ite (fun h_58 =>
    False.elim (rg_noeq h_58 (rg_c (x := (1 : Int32)) (n := 1) rfl) (rg_c (x := (0 : Int32)) (n := 0) rfl) (by decide)))
     (fun h_58 =>
    sf_ite (fun h_59 =>
    s_B_X12_likeReference_346_Q hN hS_V_39 (rg_m (rg_add (rg_mul (l := (0)) (h := (0)) (rg_c (x := (102 : Int32)) (n := 102) rfl) f_5 (by decide)) f_29 (by decide) (by decide)) (by decide) (by decide)) (rg_m f_54 (by decide) (by decide)) (rg_m (wr_k q_40 (by decide) f_30) (by decide) (by decide)))
     (fun h_59 =>
    False.elim (rg_none h_59 f_54 (rg_c (x := (0 : Int32)) (n := 0) rfl)))))
     (fun h_55 =>
    sf_someb <|
    sf_ite (fun h_61 =>
    sf_iteb (fun h_66 =>
    sf_wb (q_fail hS_V_39 (by decide +kernel) (rg_c (x := (5 : Int32)) (n := 5) rfl) (by decide)) fun V_67 q_68 hS_V_67 =>
    sf_wb (hS_V_67.wc oi_RrQ_146_60 (rg_m (hS_V_67.rd r_RrQ_146_61) (by decide) (by decide))) fun V_69 q_70 hS_V_69 =>
    sf_someb <|
    sf_sV hS_V_69)
     (fun h_66 =>
    False.elim (rg_none h_66 (wr_k q_40 (by decide) f_32) (rg_c (x := (0 : Int32)) (n := 0) rfl))))
     (fun h_61 =>
    False.elim (rg_none h_61 (rg_c (x := (0 : Int32)) (n := 0) rfl) (rg_c (x := (0 : Int32)) (n := 0) rfl)))))
     (fun h_53 =>
    sf_someb <|
    sf_ite (fun h_71 =>
    sf_iteb (fun h_76 =>
    sf_wb (q_fail hS_V_39 (by decide +kernel) (rg_c (x := (5 : Int32)) (n := 5) rfl) (by decide)) fun V_77 q_78 hS_V_77 =>
    sf_wb (hS_V_77.wc oi_RrQ_146_60 (rg_m (hS_V_77.rd r_RrQ_146_61) (by decide) (by decide))) fun V_79 q_80 hS_V_79 =>
    sf_someb <|
    sf_sV hS_V_79)
     (fun h_76 =>
    False.elim (rg_none h_76 (wr_k q_40 (by decide) f_32) (rg_c (x := (0 : Int32)) (n := 0) rfl))))
     (fun h_71 =>
    False.elim (rg_none h_71 (rg_c (x := (0 : Int32)) (n := 0) rfl) (rg_c (x := (0 : Int32)) (n := 0) rfl))))))
     (fun h_41 =>
    sf_ite (fun h_82 =>
    sf_ite (fun h_84 =>
    s_B_X12_likeReference_226_Q hN hS_V_39)
     (fun h_84 =>
    have f_86 := (rg_lle (Int32.not_lt.mp h_84) (rg_c (x := (0 : Int32)) (n := 0) rfl) rg_t)
    sf_ite (fun h_87 =>
    have f_88 := (rg_hlt h_87 f_86 (hS_V_39.rd r_RrQ_146_53))
    sf_ite (fun h_90 =>
    have f_91 := (rg_eq h_90 (rg_c (x := (0 : Int32)) (n := 0) rfl))
    s_B_X12_likeReference_252_Q hN hS_V_39 (rg_m (rg_add (rg_mul (l := (0)) (h := (0)) (rg_c (x := (102 : Int32)) (n := 102) rfl) f_5 (by decide)) f_29 (by decide) (by decide)) (by decide) (by decide)) (rg_m f_91 (by decide) (by decide)) (rg_m (rg_c (x := (0 : Int32)) (n := 0) rfl) (by decide) (by decide)))
     (fun h_90 =>
    have f_92 := (rg_nel h_90 f_88 (rg_c (x := (0 : Int32)) (n := 0) rfl))
    sf_p (in_rg (rg_sub f_92 (rg_c (x := (1 : Int32)) (n := 1) rfl) (by decide) (by decide)) (by decide) (by decide)) <|
    s_B_X12_likeReference_252_Q hN hS_V_39 (rg_m (rg_add (rg_mul (l := (0)) (h := (0)) (rg_c (x := (102 : Int32)) (n := 102) rfl) f_5 (by decide)) f_29 (by decide) (by decide)) (by decide) (by decide)) (rg_m f_92 (by decide) (by decide)) (rg_m (rg_add (hS_V_39.rdA (k := ((V_39.1 173 (V_39.1 146 56).toNatClampNeg) - (1 : Int32)).toNatClampNeg) ra_RrQ_172) (rg_c (x := (1 : Int32)) (n := 1) rfl) (by decide) (by decide)) (by decide) (by decide))))
     (fun h_87 =>
    s_B_X12_likeReference_226_Q hN hS_V_39)))
     (fun h_82 =>
    s_B_X12_likeReference_226_Q hN hS_V_39)))
     (fun h_35 =>
    have f_95 := (rg_hlt (Int32.not_le.mp h_35) r_l1 (rg_c (x := (52 : Int32)) (n := 52) rfl))
    lp4_up (I := fun l2 l6 l7 V => (SIx T_rQ G V) ∧ (rg l2 (-2147483648) (256)) ∧ (rg l7 (0) (256)) ∧ (l2.toInt - l7.toInt ≤ (V.1 146 56).toInt)) (fun _ _ l7 _ => l7.toInt) (0) (256) (fun l2 l6 l7 V h => by
      obtain ⟨hS_V, r_l2, r_l7, an_0⟩ := h
      have := r_l7; unfold rg at this; omega) (fun k l2 l6 l7 V h hk => by
      obtain ⟨hS_V, r_l2, r_l7, an_0⟩ := h
      exact s_B_X12_likeReference_137_Q hN (fun l2 l6 l7 V hS_V r_l2 r_l7 an_0 hc_k137  => hk l2 l6 l7 V (by exact ⟨hS_V, r_l2, r_l7, an_0⟩) (hc_k137)) hS_V r_l2 r_l7 an_0 (Int.le_refl _)) N (by have := hN; omega) _ _ _ _ (by exact ⟨hS_V, r_l2, (rg_m (rg_c (x := (0 : Int32)) (n := 0) rfl) (by decide) (by decide)), (by have := (r_l2).1; have := (r_l2).2; have := (r_34).1; have := (r_34).2; have := ((hS_V.rd r_RrQ_146_56)).1; have := ((hS_V.rd r_RrQ_146_56)).2; have := congrArg Int32.toInt h_4; have := (f_5).1; have := (f_5).2; have := Int32.le_iff_toInt_le.mp (Int32.not_lt.mp h_10); have := (f_29).1; have := (f_29).2; have := Int32.lt_iff_toInt_lt.mp h_28; have := (f_30).1; have := (f_30).2; have := Int32.le_iff_toInt_le.mp h_31; have := (f_32).1; have := (f_32).2; have := Int32.lt_iff_toInt_lt.mp (Int32.not_le.mp h_35); have := (f_95).1; have := (f_95).2; have := an_0; have := an_1; have : (0 : Int32).toInt = 0 := rfl; have : (52 : Int32).toInt = 52 := rfl; omega)⟩)))
     (fun h_31 =>
    sf_sV hS_V))
     (fun h_28 =>
    sf_assoc <|
    sf_iteb (fun h_103 =>
    sf_wb (q_fail hS_V (by decide +kernel) (rg_c (x := (5 : Int32)) (n := 5) rfl) (by decide)) fun V_105 q_106 hS_V_105 =>
    sf_wb (hS_V_105.wc oi_RrQ_146_60 (rg_m (hS_V_105.rd r_RrQ_146_61) (by decide) (by decide))) fun V_107 q_108 hS_V_107 =>
    sf_someb <|
    sf_someb <|
    sf_ite (fun h_109 =>
    False.elim (rg_nole h_109 (wr_k q_108 (by decide) (wr_s q_106 (rg_c (x := (5 : Int32)) (n := 5) rfl))) (rg_c (x := (0 : Int32)) (n := 0) rfl) (by decide)))
     (fun h_109 =>
    sf_sV hS_V_107))
     (fun h_103 =>
    have f_110 := (rg_nel h_103 (hS_V.rd r_RrQ_146_59) (rg_c (x := (0 : Int32)) (n := 0) rfl))
    sf_someb <|
    sf_someb <|
    sf_ite (fun h_111 =>
    False.elim (rg_nole h_111 f_110 (rg_c (x := (0 : Int32)) (n := 0) rfl) (by decide)))
     (fun h_111 =>
    sf_sV hS_V)))))
     (fun h_4 =>
    have f_112 := (rg_nel h_4 r_s1 (rg_c (x := (0 : Int32)) (n := 0) rfl))
    sf_iteb (fun h_117 =>
    sf_assoc <|
    sf_iteb (fun h_125 =>
    sf_wb (q_fail hS_V (by decide +kernel) (rg_c (x := (5 : Int32)) (n := 5) rfl) (by decide)) fun V_127 q_128 hS_V_127 =>
    sf_wb (hS_V_127.wc oi_RrQ_146_60 (rg_m (hS_V_127.rd r_RrQ_146_61) (by decide) (by decide))) fun V_129 q_130 hS_V_129 =>
    sf_someb <|
    sf_someb <|
    sf_ite (fun h_131 =>
    False.elim (rg_nole h_131 (wr_k q_130 (by decide) (wr_s q_128 (rg_c (x := (5 : Int32)) (n := 5) rfl))) (rg_c (x := (0 : Int32)) (n := 0) rfl) (by decide)))
     (fun h_131 =>
    sf_sV hS_V_129))
     (fun h_125 =>
    have f_132 := (rg_nel h_125 (hS_V.rd r_RrQ_146_59) (rg_c (x := (0 : Int32)) (n := 0) rfl))
    sf_someb <|
    sf_someb <|
    sf_ite (fun h_133 =>
    False.elim (rg_nole h_133 f_132 (rg_c (x := (0 : Int32)) (n := 0) rfl) (by decide)))
     (fun h_133 =>
    sf_sV hS_V)))
     (fun h_117 =>
    have f_134 := (rg_lle (Int32.not_lt.mp h_117) (rg_c (x := (0 : Int32)) (n := 0) rfl) rg_t)
    sf_iteb (fun h_135 =>
    have f_136 := (rg_hlt h_135 f_134 (hS_V.rd r_RrQ_146_52))
    have f_137 := (rg_llt h_135 f_134 (hS_V.rd r_RrQ_146_52))
    sf_someb <|
    sf_ite (fun h_138 =>
    have f_139 := (rg_hle h_138 (hS_V.rd r_RrQ_146_59) (rg_c (x := (0 : Int32)) (n := 0) rfl))
    sf_p (in_rg (rg_add (rg_mul (l := (102)) (h := (102)) (rg_c (x := (102 : Int32)) (n := 102) rfl) f_112 (by decide)) f_136 (by decide) (by decide)) (by decide) (by decide)) <|
    sf_p (in_rg (rg_add (rg_mul (l := (102)) (h := (102)) (rg_c (x := (102 : Int32)) (n := 102) rfl) f_112 (by decide)) f_136 (by decide) (by decide)) (by decide) (by decide)) <|
    sf_p (in_rg (rg_add (rg_mul (l := (102)) (h := (102)) (rg_c (x := (102 : Int32)) (n := 102) rfl) f_112 (by decide)) f_136 (by decide) (by decide)) (by decide) (by decide)) <|
    sf_p (in_rg (rg_add (rg_mul (l := (102)) (h := (102)) (rg_c (x := (102 : Int32)) (n := 102) rfl) f_112 (by decide)) f_136 (by decide) (by decide)) (by decide) (by decide)) <|
    sf_qI (s_F_X12_by_Q hN hS_V (rg_m (hS_V.rd r_RrQ_146_65) (by decide) (by decide)) (rg_m (hS_V.rd r_RrQ_146_66) (by decide) (by decide))) fun x_140 r_141 =>
    sf_ite (fun h_142 =>
    have f_143 := (rg_lle h_142 (rg_c (x := (52 : Int32)) (n := 52) rfl) r_l1)
    sf_wb (hS_V.wc oi_RrQ_146_56 (rg_m (show rg _ (0) (255) from ⟨(by have := ((rg_sub (hS_V.rd r_RrQ_146_56) (rg_c (x := (1 : Int32)) (n := 1) rfl) (by decide) (by decide))).1; have := ((rg_sub (hS_V.rd r_RrQ_146_56) (rg_c (x := (1 : Int32)) (n := 1) rfl) (by decide) (by decide))).2; have := rg_tis (hS_V.rd r_RrQ_146_56) (rg_c (x := (1 : Int32)) (n := 1) rfl) (by decide) (by decide); have := ((hS_V.rd r_RrQ_146_56)).1; have := ((hS_V.rd r_RrQ_146_56)).2; have := ne_ti h_4; have := (f_112).1; have := (f_112).2; have := Int32.le_iff_toInt_le.mp (Int32.not_lt.mp h_117); have := (f_136).1; have := (f_136).2; have := Int32.lt_iff_toInt_lt.mp h_135; have := (f_137).1; have := (f_137).2; have := Int32.le_iff_toInt_le.mp h_138; have := (f_139).1; have := (f_139).2; have := Int32.le_iff_toInt_le.mp h_142; have := (f_143).1; have := (f_143).2; have := (r_l2).1; have := (r_l2).2; have := an_0; have := an_1; have : (0 : Int32).toInt = 0 := rfl; have : (1 : Int32).toInt = 1 := rfl; have : (52 : Int32).toInt = 52 := rfl; omega), (by have := ((rg_sub (hS_V.rd r_RrQ_146_56) (rg_c (x := (1 : Int32)) (n := 1) rfl) (by decide) (by decide))).1; have := ((rg_sub (hS_V.rd r_RrQ_146_56) (rg_c (x := (1 : Int32)) (n := 1) rfl) (by decide) (by decide))).2; have := rg_tis (hS_V.rd r_RrQ_146_56) (rg_c (x := (1 : Int32)) (n := 1) rfl) (by decide) (by decide); have := ((hS_V.rd r_RrQ_146_56)).1; have := ((hS_V.rd r_RrQ_146_56)).2; have := ne_ti h_4; have := (f_112).1; have := (f_112).2; have := Int32.le_iff_toInt_le.mp (Int32.not_lt.mp h_117); have := (f_136).1; have := (f_136).2; have := Int32.lt_iff_toInt_lt.mp h_135; have := (f_137).1; have := (f_137).2; have := Int32.le_iff_toInt_le.mp h_138; have := (f_139).1; have := (f_139).2; have := Int32.le_iff_toInt_le.mp h_142; have := (f_143).1; have := (f_143).2; have := (r_l2).1; have := (r_l2).2; have := an_0; have := an_1; have : (0 : Int32).toInt = 0 := rfl; have : (1 : Int32).toInt = 1 := rfl; have : (52 : Int32).toInt = 52 := rfl; omega)⟩) (by decide) (by decide))) fun V_146 q_147 hS_V_146 =>
    sf_pb (in_rg (wr_s q_147 (show rg _ (0) (255) from ⟨(by have := ((rg_sub (hS_V.rd r_RrQ_146_56) (rg_c (x := (1 : Int32)) (n := 1) rfl) (by decide) (by decide))).1; have := ((rg_sub (hS_V.rd r_RrQ_146_56) (rg_c (x := (1 : Int32)) (n := 1) rfl) (by decide) (by decide))).2; have := rg_tis (hS_V.rd r_RrQ_146_56) (rg_c (x := (1 : Int32)) (n := 1) rfl) (by decide) (by decide); have := ((hS_V.rd r_RrQ_146_56)).1; have := ((hS_V.rd r_RrQ_146_56)).2; have := ne_ti h_4; have := (f_112).1; have := (f_112).2; have := Int32.le_iff_toInt_le.mp (Int32.not_lt.mp h_117); have := (f_136).1; have := (f_136).2; have := Int32.lt_iff_toInt_lt.mp h_135; have := (f_137).1; have := (f_137).2; have := Int32.le_iff_toInt_le.mp h_138; have := (f_139).1; have := (f_139).2; have := Int32.le_iff_toInt_le.mp h_142; have := (f_143).1; have := (f_143).2; have := (r_l2).1; have := (r_l2).2; have := an_0; have := an_1; have : (0 : Int32).toInt = 0 := rfl; have : (1 : Int32).toInt = 1 := rfl; have : (52 : Int32).toInt = 52 := rfl; omega), (by have := ((rg_sub (hS_V.rd r_RrQ_146_56) (rg_c (x := (1 : Int32)) (n := 1) rfl) (by decide) (by decide))).1; have := ((rg_sub (hS_V.rd r_RrQ_146_56) (rg_c (x := (1 : Int32)) (n := 1) rfl) (by decide) (by decide))).2; have := rg_tis (hS_V.rd r_RrQ_146_56) (rg_c (x := (1 : Int32)) (n := 1) rfl) (by decide) (by decide); have := ((hS_V.rd r_RrQ_146_56)).1; have := ((hS_V.rd r_RrQ_146_56)).2; have := ne_ti h_4; have := (f_112).1; have := (f_112).2; have := Int32.le_iff_toInt_le.mp (Int32.not_lt.mp h_117); have := (f_136).1; have := (f_136).2; have := Int32.lt_iff_toInt_lt.mp h_135; have := (f_137).1; have := (f_137).2; have := Int32.le_iff_toInt_le.mp h_138; have := (f_139).1; have := (f_139).2; have := Int32.le_iff_toInt_le.mp h_142; have := (f_143).1; have := (f_143).2; have := (r_l2).1; have := (r_l2).2; have := an_0; have := an_1; have : (0 : Int32).toInt = 0 := rfl; have : (1 : Int32).toInt = 1 := rfl; have : (52 : Int32).toInt = 52 := rfl; omega)⟩)) (by decide) (by decide)) <|
    sf_someb <|
    sf_ite (fun h_148 =>
    sf_iteb (fun h_152 =>
    have f_153 := (rg_eq h_152 (rg_c (x := (1 : Int32)) (n := 1) rfl))
    sf_someb <|
    sf_ite (fun h_155 =>
    False.elim (rg_noeq h_155 (rg_c (x := (1 : Int32)) (n := 1) rfl) (rg_c (x := (0 : Int32)) (n := 0) rfl) (by decide)))
     (fun h_155 =>
    sf_ite (fun h_156 =>
    False.elim (rg_noeq h_156 f_153 (rg_c (x := (0 : Int32)) (n := 0) rfl) (by decide)))
     (fun h_156 =>
    sf_ite (fun h_157 =>
    s_B_X12_likeReference_346_Q hN hS_V_146 (rg_m (rg_add (rg_mul (l := (102)) (h := (102)) (rg_c (x := (102 : Int32)) (n := 102) rfl) f_112 (by decide)) f_136 (by decide) (by decide)) (by decide) (by decide)) (rg_m f_153 (by decide) (by decide)) (rg_m (rg_c (x := (0 : Int32)) (n := 0) rfl) (by decide) (by decide)))
     (fun h_157 =>
    have f_159 := (rg_nel h_157 (hS_V_146.rd r_RrQ_146_53) (rg_c (x := (0 : Int32)) (n := 0) rfl))
    sf_p (in_rg (rg_sub f_159 (rg_c (x := (1 : Int32)) (n := 1) rfl) (by decide) (by decide)) (by decide) (by decide)) <|
    s_B_X12_likeReference_346_Q hN hS_V_146 (rg_m (rg_add (rg_mul (l := (102)) (h := (102)) (rg_c (x := (102 : Int32)) (n := 102) rfl) f_112 (by decide)) f_136 (by decide) (by decide)) (by decide) (by decide)) (rg_m f_153 (by decide) (by decide)) (rg_m (rg_add (hS_V_146.rdA (k := ((V_146.1 146 53) - (1 : Int32)).toNatClampNeg) ra_RrQ_172) (rg_c (x := (1 : Int32)) (n := 1) rfl) (by decide) (by decide)) (by decide) (by decide))))))
     (fun h_152 =>
    sf_iteb (fun h_160 =>
    have f_161 := (rg_eq h_160 (rg_c (x := (0 : Int32)) (n := 0) rfl))
    sf_iteb (fun h_162 =>
    sf_someb <|
    sf_ite (fun h_165 =>
    False.elim (rg_noeq h_165 (rg_c (x := (1 : Int32)) (n := 1) rfl) (rg_c (x := (0 : Int32)) (n := 0) rfl) (by decide)))
     (fun h_165 =>
    sf_ite (fun h_166 =>
    s_B_X12_likeReference_346_Q hN hS_V_146 (rg_m (rg_add (rg_mul (l := (102)) (h := (102)) (rg_c (x := (102 : Int32)) (n := 102) rfl) f_112 (by decide)) f_136 (by decide) (by decide)) (by decide) (by decide)) (rg_m f_161 (by decide) (by decide)) (rg_m (hS_V_146.rd r_RrQ_146_14) (by decide) (by decide)))
     (fun h_166 =>
    False.elim (rg_none h_166 f_161 (rg_c (x := (0 : Int32)) (n := 0) rfl)))))
     (fun h_162 =>
    sf_someb <|
    sf_ite (fun h_168 =>
    sf_iteb (fun h_173 =>
    sf_wb (q_fail hS_V_146 (by decide +kernel) (rg_c (x := (5 : Int32)) (n := 5) rfl) (by decide)) fun V_174 q_175 hS_V_174 =>
    sf_wb (hS_V_174.wc oi_RrQ_146_60 (rg_m (hS_V_174.rd r_RrQ_146_61) (by decide) (by decide))) fun V_176 q_177 hS_V_176 =>
    sf_someb <|
    sf_sV hS_V_176)
     (fun h_173 =>
    False.elim (rg_none h_173 (wr_k q_147 (by decide) f_139) (rg_c (x := (0 : Int32)) (n := 0) rfl))))
     (fun h_168 =>
    False.elim (rg_none h_168 (rg_c (x := (0 : Int32)) (n := 0) rfl) (rg_c (x := (0 : Int32)) (n := 0) rfl)))))
     (fun h_160 =>
    sf_someb <|
    sf_ite (fun h_178 =>
    sf_iteb (fun h_183 =>
    sf_wb (q_fail hS_V_146 (by decide +kernel) (rg_c (x := (5 : Int32)) (n := 5) rfl) (by decide)) fun V_184 q_185 hS_V_184 =>
    sf_wb (hS_V_184.wc oi_RrQ_146_60 (rg_m (hS_V_184.rd r_RrQ_146_61) (by decide) (by decide))) fun V_186 q_187 hS_V_186 =>
    sf_someb <|
    sf_sV hS_V_186)
     (fun h_183 =>
    False.elim (rg_none h_183 (wr_k q_147 (by decide) f_139) (rg_c (x := (0 : Int32)) (n := 0) rfl))))
     (fun h_178 =>
    False.elim (rg_none h_178 (rg_c (x := (0 : Int32)) (n := 0) rfl) (rg_c (x := (0 : Int32)) (n := 0) rfl))))))
     (fun h_148 =>
    sf_ite (fun h_189 =>
    sf_ite (fun h_191 =>
    s_B_X12_likeReference_226_Q hN hS_V_146)
     (fun h_191 =>
    have f_193 := (rg_lle (Int32.not_lt.mp h_191) (rg_c (x := (0 : Int32)) (n := 0) rfl) rg_t)
    sf_ite (fun h_194 =>
    have f_195 := (rg_hlt h_194 f_193 (hS_V_146.rd r_RrQ_146_53))
    sf_ite (fun h_197 =>
    have f_198 := (rg_eq h_197 (rg_c (x := (0 : Int32)) (n := 0) rfl))
    s_B_X12_likeReference_252_Q hN hS_V_146 (rg_m (rg_add (rg_mul (l := (102)) (h := (102)) (rg_c (x := (102 : Int32)) (n := 102) rfl) f_112 (by decide)) f_136 (by decide) (by decide)) (by decide) (by decide)) (rg_m f_198 (by decide) (by decide)) (rg_m (rg_c (x := (0 : Int32)) (n := 0) rfl) (by decide) (by decide)))
     (fun h_197 =>
    have f_199 := (rg_nel h_197 f_195 (rg_c (x := (0 : Int32)) (n := 0) rfl))
    sf_p (in_rg (rg_sub f_199 (rg_c (x := (1 : Int32)) (n := 1) rfl) (by decide) (by decide)) (by decide) (by decide)) <|
    s_B_X12_likeReference_252_Q hN hS_V_146 (rg_m (rg_add (rg_mul (l := (102)) (h := (102)) (rg_c (x := (102 : Int32)) (n := 102) rfl) f_112 (by decide)) f_136 (by decide) (by decide)) (by decide) (by decide)) (rg_m f_199 (by decide) (by decide)) (rg_m (rg_add (hS_V_146.rdA (k := ((V_146.1 173 (V_146.1 146 56).toNatClampNeg) - (1 : Int32)).toNatClampNeg) ra_RrQ_172) (rg_c (x := (1 : Int32)) (n := 1) rfl) (by decide) (by decide)) (by decide) (by decide))))
     (fun h_194 =>
    s_B_X12_likeReference_226_Q hN hS_V_146)))
     (fun h_189 =>
    s_B_X12_likeReference_226_Q hN hS_V_146)))
     (fun h_142 =>
    have f_202 := (rg_hlt (Int32.not_le.mp h_142) r_l1 (rg_c (x := (52 : Int32)) (n := 52) rfl))
    lp4_up (I := fun l2 l6 l7 V => (SIx T_rQ G V) ∧ (rg l2 (-2147483648) (256)) ∧ (rg l7 (0) (256)) ∧ (l2.toInt - l7.toInt ≤ (V.1 146 56).toInt)) (fun _ _ l7 _ => l7.toInt) (0) (256) (fun l2 l6 l7 V h => by
      obtain ⟨hS_V, r_l2, r_l7, an_0⟩ := h
      have := r_l7; unfold rg at this; omega) (fun k l2 l6 l7 V h hk => by
      obtain ⟨hS_V, r_l2, r_l7, an_0⟩ := h
      exact s_B_X12_likeReference_137_Q hN (fun l2 l6 l7 V hS_V r_l2 r_l7 an_0 hc_k137  => hk l2 l6 l7 V (by exact ⟨hS_V, r_l2, r_l7, an_0⟩) (hc_k137)) hS_V r_l2 r_l7 an_0 (Int.le_refl _)) N (by have := hN; omega) _ _ _ _ (by exact ⟨hS_V, r_l2, (rg_m (rg_c (x := (0 : Int32)) (n := 0) rfl) (by decide) (by decide)), (by have := (r_l2).1; have := (r_l2).2; have := (r_141).1; have := (r_141).2; have := ((hS_V.rd r_RrQ_146_56)).1; have := ((hS_V.rd r_RrQ_146_56)).2; have := ne_ti h_4; have := (f_112).1; have := (f_112).2; have := Int32.le_iff_toInt_le.mp (Int32.not_lt.mp h_117); have := (f_136).1; have := (f_136).2; have := Int32.lt_iff_toInt_lt.mp h_135; have := (f_137).1; have := (f_137).2; have := Int32.le_iff_toInt_le.mp h_138; have := (f_139).1; have := (f_139).2; have := Int32.lt_iff_toInt_lt.mp (Int32.not_le.mp h_142); have := (f_202).1; have := (f_202).2; have := an_0; have := an_1; have : (0 : Int32).toInt = 0 := rfl; have : (52 : Int32).toInt = 52 := rfl; omega)⟩)))
     (fun h_138 =>
    sf_sV hS_V))
     (fun h_135 =>
    sf_assoc <|
    sf_iteb (fun h_210 =>
    sf_wb (q_fail hS_V (by decide +kernel) (rg_c (x := (5 : Int32)) (n := 5) rfl) (by decide)) fun V_212 q_213 hS_V_212 =>
    sf_wb (hS_V_212.wc oi_RrQ_146_60 (rg_m (hS_V_212.rd r_RrQ_146_61) (by decide) (by decide))) fun V_214 q_215 hS_V_214 =>
    sf_someb <|
    sf_someb <|
    sf_ite (fun h_216 =>
    False.elim (rg_nole h_216 (wr_k q_215 (by decide) (wr_s q_213 (rg_c (x := (5 : Int32)) (n := 5) rfl))) (rg_c (x := (0 : Int32)) (n := 0) rfl) (by decide)))
     (fun h_216 =>
    sf_sV hS_V_214))
     (fun h_210 =>
    have f_217 := (rg_nel h_210 (hS_V.rd r_RrQ_146_59) (rg_c (x := (0 : Int32)) (n := 0) rfl))
    sf_someb <|
    sf_someb <|
    sf_ite (fun h_218 =>
    False.elim (rg_nole h_218 f_217 (rg_c (x := (0 : Int32)) (n := 0) rfl) (by decide)))
     (fun h_218 =>
    sf_sV hS_V)))))
theorem s_B_X12_likeReference_52_Q {G : sv_V} {N : Nat} (hN : 8589934592 ≤ N) {l1 : Int32} {l2 : Int32} {l3 : Int32} {s0 : Int32} {V : sv_V} (hS_V : SIx T_rQ G V) (r_l1 : rg l1 (50) (55)) (r_l2 : rg l2 (-2147483648) (256)) (r_l3 : rg l3 (0) (1)) (r_s0 : rg s0 (0) (1)) (an_0 : l1.toInt < 52 ∨ l2.toInt = 1) (an_1 : l2.toInt ≤ (V.1 146 56).toInt) : Sg (SIx T_rQ G) (B_X12_likeReference_52 N l1 l2 l3 s0 V) := by
  unfold B_X12_likeReference_52
  exact
    sf_ite (fun h_1 =>
    have f_2 := (rg_eq h_1 (rg_c (x := (0 : Int32)) (n := 0) rfl))
    s_B_X12_likeReference_72_Q hN hS_V r_l1 r_l2 r_s0 (by have := (r_l1).1; have := (r_l1).2; have := (r_l2).1; have := (r_l2).2; have := (r_s0).1; have := (r_s0).2; have := ((hS_V.rd r_RrQ_146_56)).1; have := ((hS_V.rd r_RrQ_146_56)).2; have := congrArg Int32.toInt h_1; have := (f_2).1; have := (f_2).2; have := an_0; have := an_1; have : (0 : Int32).toInt = 0 := rfl; omega) (by have := (r_l1).1; have := (r_l1).2; have := (r_l2).1; have := (r_l2).2; have := (r_s0).1; have := (r_s0).2; have := ((hS_V.rd r_RrQ_146_56)).1; have := ((hS_V.rd r_RrQ_146_56)).2; have := congrArg Int32.toInt h_1; have := (f_2).1; have := (f_2).2; have := an_0; have := an_1; have : (0 : Int32).toInt = 0 := rfl; omega))
     (fun h_1 =>
    have f_3 := (rg_nel h_1 r_l3 (rg_c (x := (0 : Int32)) (n := 0) rfl))
    s_B_X12_likeReference_72_Q hN hS_V r_l1 r_l2 r_s0 (by have := (r_l1).1; have := (r_l1).2; have := (r_l2).1; have := (r_l2).2; have := (r_s0).1; have := (r_s0).2; have := ((hS_V.rd r_RrQ_146_56)).1; have := ((hS_V.rd r_RrQ_146_56)).2; have := ne_ti h_1; have := (f_3).1; have := (f_3).2; have := an_0; have := an_1; have : (0 : Int32).toInt = 0 := rfl; omega) (by have := (r_l1).1; have := (r_l1).2; have := (r_l2).1; have := (r_l2).2; have := (r_s0).1; have := (r_s0).2; have := ((hS_V.rd r_RrQ_146_56)).1; have := ((hS_V.rd r_RrQ_146_56)).2; have := ne_ti h_1; have := (f_3).1; have := (f_3).2; have := an_0; have := an_1; have : (0 : Int32).toInt = 0 := rfl; omega))
theorem s_B_X12_likeReference_36_Q {G : sv_V} {N : Nat} (hN : 8589934592 ≤ N) {l1 : Int32} {l2 : Int32} {s0 : Int32} {V : sv_V} (hS_V : SIx T_rQ G V) (r_l1 : rg l1 (50) (55)) (r_l2 : rg l2 (-2147483648) (256)) (r_s0 : rg s0 (0) (1)) (an_0 : l1.toInt < 52 ∨ l2.toInt = 1) (an_1 : l2.toInt ≤ (V.1 146 56).toInt) : Sg (SIx T_rQ G) (B_X12_likeReference_36 N l1 l2 s0 V) := by
  unfold B_X12_likeReference_36
  exact
    sf_ite (fun h_1 =>
    have f_2 := (rg_eq h_1 (rg_c (x := (0 : Int32)) (n := 0) rfl))
    s_B_X12_likeReference_52_Q hN hS_V r_l1 r_l2 (rg_m f_2 (by decide) (by decide)) (rg_m (hS_V.rd r_RrQ_146_73) (by decide) (by decide)) (by have := (r_l1).1; have := (r_l1).2; have := (r_l2).1; have := (r_l2).2; have := (f_2).1; have := (f_2).2; have := ((hS_V.rd r_RrQ_146_73)).1; have := ((hS_V.rd r_RrQ_146_73)).2; have := ((hS_V.rd r_RrQ_146_56)).1; have := ((hS_V.rd r_RrQ_146_56)).2; have := congrArg Int32.toInt h_1; have := an_0; have := an_1; have : (0 : Int32).toInt = 0 := rfl; omega) (by have := (r_l1).1; have := (r_l1).2; have := (r_l2).1; have := (r_l2).2; have := (f_2).1; have := (f_2).2; have := ((hS_V.rd r_RrQ_146_73)).1; have := ((hS_V.rd r_RrQ_146_73)).2; have := ((hS_V.rd r_RrQ_146_56)).1; have := ((hS_V.rd r_RrQ_146_56)).2; have := congrArg Int32.toInt h_1; have := an_0; have := an_1; have : (0 : Int32).toInt = 0 := rfl; omega))
     (fun h_1 =>
    have f_3 := (rg_nel h_1 r_s0 (rg_c (x := (0 : Int32)) (n := 0) rfl))
    s_B_X12_likeReference_52_Q hN hS_V r_l1 r_l2 (rg_m f_3 (by decide) (by decide)) (rg_m (hS_V.rd r_RrQ_146_72) (by decide) (by decide)) (by have := (r_l1).1; have := (r_l1).2; have := (r_l2).1; have := (r_l2).2; have := (f_3).1; have := (f_3).2; have := ((hS_V.rd r_RrQ_146_72)).1; have := ((hS_V.rd r_RrQ_146_72)).2; have := ((hS_V.rd r_RrQ_146_56)).1; have := ((hS_V.rd r_RrQ_146_56)).2; have := ne_ti h_1; have := an_0; have := an_1; have : (0 : Int32).toInt = 0 := rfl; omega) (by have := (r_l1).1; have := (r_l1).2; have := (r_l2).1; have := (r_l2).2; have := (f_3).1; have := (f_3).2; have := ((hS_V.rd r_RrQ_146_72)).1; have := ((hS_V.rd r_RrQ_146_72)).2; have := ((hS_V.rd r_RrQ_146_56)).1; have := ((hS_V.rd r_RrQ_146_56)).2; have := ne_ti h_1; have := an_0; have := an_1; have : (0 : Int32).toInt = 0 := rfl; omega))
theorem s_B_X12_likeReference_14_Q {G : sv_V} {N : Nat} (hN : 8589934592 ≤ N) {l1 : Int32} {s0 : Int32} {V : sv_V} (hS_V : SIx T_rQ G V) (r_l1 : rg l1 (50) (55)) (an_0 : l1.toInt < 52 ∨ s0.toInt = 1) : Sg (SIx T_rQ G) (B_X12_likeReference_14 N l1 s0 V) := by
  unfold B_X12_likeReference_14
  exact
    sf_iteb (fun h_4 =>
    have f_5 := (rg_eq h_4 (rg_c (x := (0 : Int32)) (n := 0) rfl))
    sf_iteb (fun h_6 =>
    have f_7 := (rg_hle h_6 rg_t (hS_V.rd r_RrQ_146_56))
    sf_iteb (fun h_9 =>
    sf_someb <|
    sf_ite (fun h_10 =>
    False.elim (rg_noeq h_10 (rg_c (x := (1 : Int32)) (n := 1) rfl) (rg_c (x := (0 : Int32)) (n := 0) rfl) (by decide)))
     (fun h_10 =>
    sf_ite (fun h_11 =>
    have f_12 := (rg_eq h_11 (rg_c (x := (1 : Int32)) (n := 1) rfl))
    have f_13 := (rg_subL f_12 r_l1 (rg_mul (l := (50)) (h := (54)) (rg_divc r_l1 (rg_c (x := (2 : Int32)) (n := 2) rfl) (by decide) (by decide)) (rg_c (x := (2 : Int32)) (n := 2) rfl) (by decide)) (by decide) (by decide))
    s_B_X12_likeReference_36_Q hN hS_V (rg_m f_13 (by decide) (by decide)) (rg_m f_7 (by decide) (by decide)) (rg_m (rg_c (x := (1 : Int32)) (n := 1) rfl) (by decide) (by decide)) (by have := (f_13).1; have := (f_13).2; have := (f_7).1; have := (f_7).2; have := ((hS_V.rd r_RrQ_146_56)).1; have := ((hS_V.rd r_RrQ_146_56)).2; have := congrArg Int32.toInt h_4; have := (f_5).1; have := (f_5).2; have := Int32.le_iff_toInt_le.mp h_6; have := congrArg Int32.toInt h_9; have := ne_ti h_10; have := congrArg Int32.toInt h_11; have := (f_12).1; have := (f_12).2; have := rg_remlt f_13 (rg_c (x := (2 : Int32)) (n := 2) rfl) (by decide) (by decide); have := an_0; have : (0 : Int32).toInt = 0 := rfl; have : (1 : Int32).toInt = 1 := rfl; have : (2 : Int32).toInt = 2 := rfl; omega) (by have := (f_13).1; have := (f_13).2; have := (f_7).1; have := (f_7).2; have := ((hS_V.rd r_RrQ_146_56)).1; have := ((hS_V.rd r_RrQ_146_56)).2; have := congrArg Int32.toInt h_4; have := (f_5).1; have := (f_5).2; have := Int32.le_iff_toInt_le.mp h_6; have := congrArg Int32.toInt h_9; have := ne_ti h_10; have := congrArg Int32.toInt h_11; have := (f_12).1; have := (f_12).2; have := rg_remlt f_13 (rg_c (x := (2 : Int32)) (n := 2) rfl) (by decide) (by decide); have := an_0; have : (0 : Int32).toInt = 0 := rfl; have : (1 : Int32).toInt = 1 := rfl; have : (2 : Int32).toInt = 2 := rfl; omega))
     (fun h_11 =>
    have f_14 := (rg_neh h_11 (rg_remp (x := l1) (y := (2 : Int32)) r_l1 (rg_c (x := (2 : Int32)) (n := 2) rfl) (by decide) (by decide)) (rg_c (x := (1 : Int32)) (n := 1) rfl))
    have f_15 := (rg_subL f_14 r_l1 (rg_mul (l := (50)) (h := (54)) (rg_divc r_l1 (rg_c (x := (2 : Int32)) (n := 2) rfl) (by decide) (by decide)) (rg_c (x := (2 : Int32)) (n := 2) rfl) (by decide)) (by decide) (by decide))
    s_B_X12_likeReference_36_Q hN hS_V (rg_m f_15 (by decide) (by decide)) (rg_m f_7 (by decide) (by decide)) (rg_m (rg_c (x := (0 : Int32)) (n := 0) rfl) (by decide) (by decide)) (by have := (f_15).1; have := (f_15).2; have := (f_7).1; have := (f_7).2; have := ((hS_V.rd r_RrQ_146_56)).1; have := ((hS_V.rd r_RrQ_146_56)).2; have := congrArg Int32.toInt h_4; have := (f_5).1; have := (f_5).2; have := Int32.le_iff_toInt_le.mp h_6; have := congrArg Int32.toInt h_9; have := ne_ti h_10; have := ne_ti h_11; have := (f_14).1; have := (f_14).2; have := rg_remlt f_15 (rg_c (x := (2 : Int32)) (n := 2) rfl) (by decide) (by decide); have := an_0; have : (0 : Int32).toInt = 0 := rfl; have : (1 : Int32).toInt = 1 := rfl; have : (2 : Int32).toInt = 2 := rfl; omega) (by have := (f_15).1; have := (f_15).2; have := (f_7).1; have := (f_7).2; have := ((hS_V.rd r_RrQ_146_56)).1; have := ((hS_V.rd r_RrQ_146_56)).2; have := congrArg Int32.toInt h_4; have := (f_5).1; have := (f_5).2; have := Int32.le_iff_toInt_le.mp h_6; have := congrArg Int32.toInt h_9; have := ne_ti h_10; have := ne_ti h_11; have := (f_14).1; have := (f_14).2; have := rg_remlt f_15 (rg_c (x := (2 : Int32)) (n := 2) rfl) (by decide) (by decide); have := an_0; have : (0 : Int32).toInt = 0 := rfl; have : (1 : Int32).toInt = 1 := rfl; have : (2 : Int32).toInt = 2 := rfl; omega))))
     (fun h_9 =>
    False.elim (rg_none h_9 f_5 (rg_c (x := (0 : Int32)) (n := 0) rfl))))
     (fun h_6 =>
    sf_assoc <|
    sf_iteb (fun h_21 =>
    sf_wb (q_fail hS_V (by decide +kernel) (rg_c (x := (1 : Int32)) (n := 1) rfl) (by decide)) fun V_22 q_23 hS_V_22 =>
    sf_wb (hS_V_22.wc oi_RrQ_146_60 (rg_m (hS_V_22.rd r_RrQ_146_61) (by decide) (by decide))) fun V_24 q_25 hS_V_24 =>
    sf_someb <|
    sf_iteb (fun h_27 =>
    False.elim (rg_noeq h_27 (wr_k q_25 (by decide) (wr_s q_23 (rg_c (x := (1 : Int32)) (n := 1) rfl))) (rg_c (x := (0 : Int32)) (n := 0) rfl) (by decide)))
     (fun h_27 =>
    sf_someb <|
    sf_ite (fun h_28 =>
    sf_sV hS_V_24)
     (fun h_28 =>
    False.elim (rg_none h_28 (rg_c (x := (0 : Int32)) (n := 0) rfl) (rg_c (x := (0 : Int32)) (n := 0) rfl)))))
     (fun h_21 =>
    False.elim (rg_none h_21 f_5 (rg_c (x := (0 : Int32)) (n := 0) rfl)))))
     (fun h_4 =>
    have f_29 := (rg_nel h_4 (hS_V.rd r_RrQ_146_59) (rg_c (x := (0 : Int32)) (n := 0) rfl))
    sf_iteb (fun h_31 =>
    False.elim (rg_noeq h_31 f_29 (rg_c (x := (0 : Int32)) (n := 0) rfl) (by decide)))
     (fun h_31 =>
    sf_someb <|
    sf_ite (fun h_32 =>
    sf_sV hS_V)
     (fun h_32 =>
    False.elim (rg_none h_32 (rg_c (x := (0 : Int32)) (n := 0) rfl) (rg_c (x := (0 : Int32)) (n := 0) rfl)))))
theorem s_F_X12_likeReference_Q {G : sv_V} {N : Nat} (hN : 8589934592 ≤ N) {l1 : Int32} {V : sv_V} (hS_V : SIx T_rQ G V) (r_l1 : rg l1 (50) (55)) : Sg (SIx T_rQ G) (F_X12_likeReference N l1 V) := by
  unfold F_X12_likeReference
  exact
    sf_ite (fun h_1 =>
    have f_2 := (rg_lle h_1 (rg_c (x := (52 : Int32)) (n := 52) rfl) r_l1)
    s_B_X12_likeReference_14_Q hN hS_V (rg_m f_2 (by decide) (by decide)) (by have := (f_2).1; have := (f_2).2; have := Int32.le_iff_toInt_le.mp h_1; have : (1 : Int32).toInt = 1 := rfl; have : (52 : Int32).toInt = 52 := rfl; omega))
     (fun h_1 =>
    have f_3 := (rg_hlt (Int32.not_le.mp h_1) r_l1 (rg_c (x := (52 : Int32)) (n := 52) rfl))
    s_B_X12_likeReference_14_Q hN hS_V (rg_m f_3 (by decide) (by decide)) (by have := (f_3).1; have := (f_3).2; have := LO_rQ hS_V; unfold LO at this; have := ((hS_V.rd r_RrQ_146_59)).1; have := ((hS_V.rd r_RrQ_146_59)).2; have := Int32.lt_iff_toInt_lt.mp (Int32.not_le.mp h_1); have : (52 : Int32).toInt = 52 := rfl; omega))
theorem s_B_X12_inBetween_82_Q {G : sv_V} {hN_ : Nat} (hN : 8589934592 ≤ hN_) {l1 : Int32} {l2 : Int32} {s0 : Int64} {V : sv_V} (hS_V : SIx T_rQ G V) (r_l1 : rg l1 (0) (203)) (r_l2 : rg l2 (0) (203)) : Sg (SIx T_rQ G) (B_X12_inBetween_82 l1 l2 s0 V) := by
  unfold B_X12_inBetween_82
  exact
    sf_qI (s_F_X12_between_Q hN hS_V r_l1 r_l2) fun x_1 r_2 =>
    sf_eV (s_F_X12_move_Q hN hS_V r_l1) fun V_3 e_4 hS_V_3 =>
    sf_sV hS_V_3
