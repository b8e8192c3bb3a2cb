/-! 11 GLYPHS: the reference reads -/
def RG (d : Nat → Int32) (n : Nat) (V : sv_V) : Prop := RB d n V ∧ V.1 146 11 = nI (foO d n) ∧ V.1 146 12 = nI (glO d n)
section RS
variable {d : Nat → Int32} {n N g : Nat} {V : sv_V}
theorem RG_I (h : RG d n V) {k : Nat} {x : Int32} (e : k ≠ 3 ∧ k ≠ 5 ∧ k ≠ 11 ∧ k ≠ 12) : RG d n (sv_I V 146 k x) := ⟨RB_I h.1 ⟨e.1, e.2.1⟩, (vI_place _ _ _ (by omega)).trans h.2.1, (vI_place _ _ _ (by omega)).trans h.2.2⟩
theorem RG_A (h : RG d n V) {a k : Nat} {x : Int32} (e : 153 ≤ a) : RG d n (sv_I V a k x) := by
  obtain ⟨⟨⟨h1, h2, h3⟩, h4, h5⟩, h6, h7⟩ := h
  have c : ∀ b j, b < 153 → (sv_I V a k x).1 b j = V.1 b j := fun b j hb => vI_cell _ _ _ _ (by omega)
  exact ⟨⟨⟨h1, (c _ _ (by omega)).trans h2, fun j hj => (c _ _ (by omega)).trans (h3 j hj)⟩, (c _ _ (by omega)).trans h4, fun i hi => ⟨(c _ _ (by omega)).trans (h5 i hi).1, (h5 i hi).2⟩⟩, (c _ _ (by omega)).trans h6, (c _ _ (by omega)).trans h7⟩
theorem bytes_r (h : RG d n V) (h1 : K1 d n) (h3 : K3 d n) (h10 : K10 d n) (hg : g < glO d n) (gl2 : glO d n ≤ 200) : Pt (fun W : sv_V => RG d n W ∧ W.1 146 26 = nI (GB d n g) ∧ W.1 146 27 = nI (GB d n (g + 1)) ∧ (W.1 146 28 = if GB d n g = GB d n (g + 1) then 0 else s16 (g2 d n (GB d n g))) ∧ W.1 146 29 = 0 ∧ W.1 146 30 = 0 ∧ W.1 146 32 = 0) (F_X12_bytesOf N (nI g) V) := by
  have hn := h.1.1.1
  obtain ⟨een, ele⟩ := GB_le h3 h10 hg
  have g60 : ∀ (s : Int32) (U : sv_V), RG d n U → U.1 146 26 = nI (GB d n g) → U.1 146 27 = nI (GB d n (g + 1)) → (s = if GB d n g = GB d n (g + 1) then 0 else s16 (g2 d n (GB d n g))) → Pt (fun W : sv_V => RG d n W ∧ W.1 146 26 = nI (GB d n g) ∧ W.1 146 27 = nI (GB d n (g + 1)) ∧ (W.1 146 28 = if GB d n g = GB d n (g + 1) then 0 else s16 (g2 d n (GB d n g))) ∧ W.1 146 29 = 0 ∧ W.1 146 30 = 0 ∧ W.1 146 32 = 0) (B_X12_bytesOf_60 N s U) := fun s U hU u26 u27 hs => by
    unfold B_X12_bytesOf_60
    refine pt_let fun W1 e1 => pt_let fun W2 e2 => pt_let fun W3 e3 => pt_let fun W4 e4 => pt_let fun W5 e5 => pt_some ⟨?_, ?_, ?_, ?_, ?_, ?_, ?_⟩
    · rw [e5, e4, e3, e2, e1]
      exact RG_I (RG_I (RG_I (RG_I (RG_I hU (by decide)) (by decide)) (by decide)) (by decide)) (by decide)
    · rw [e5, e4, e3, e2, e1]; exact u26
    · rw [e5, e4, e3, e2, e1]; exact u27
    · rw [e5, e4, e3, e2, e1]; exact hs
    · rw [e5, e4, e3, e2]; rfl
    · rw [e5, e4, e3]; rfl
    · rw [e5]; rfl
  unfold F_X12_bytesOf
  refine pt_bb (beginOf_r (t := 1735162214) h.1 h1 (by decide)) ?_
  rintro _ rfl
  refine pt_bb (loca_r h.1 h1 h3 h.2.1 (by omega)) ?_
  rintro _ rfl
  dsimp only
  rw [lN_i, nI_add]
  refine pt_let fun V12 e12 => ?_
  have h12 : RG d n V12 := by rw [e12]; exact RG_I h (by decide)
  refine pt_bb (beginOf_r (t := 1735162214) h12.1 h1 (by decide)) ?_
  rintro _ rfl
  dsimp only
  rw [nI_1]
  refine pt_bb (loca_r h12.1 h1 h3 h12.2.1 (by omega)) ?_
  rintro _ rfl
  dsimp only
  rw [lN_i, nI_add]
  refine pt_let fun V19 e19 => ?_
  have h19 : RG d n V19 := by rw [e19]; exact RG_I h12 (by decide)
  have r26 : V19.1 146 26 = nI (GB d n g) := by rw [e19, e12]; rfl
  have r27 : V19.1 146 27 = nI (GB d n (g + 1)) := by rw [e19]; rfl
  rw [r26, r27]
  refine pt_ite (fun q => g60 _ _ h19 r26 r27 ?_) (fun q => ?_)
  · rw [if_pos ((nI_eq (by omega) (by omega)).mp q)]
  · have q' : ¬ GB d n g = GB d n (g + 1) := fun z => q (by rw [z])
    rw [s2_r h19.1.1 (by omega), Option.bind_some]
    exact g60 _ _ h19 r26 r27 (by rw [if_neg q'])
theorem coord_r {p c m e : Nat} {one other : Int32} {f : Nat → Nat} (h : FR d n V) (he : e ≤ n) (hp : p ≤ e) (hm : m ≤ 100) (hc : c = 154 ∨ c = 155) (h29 : V.1 146 29 = nI m) (h27 : V.1 146 27 = nI e) (hF : ∀ i, i < m → V.1 156 i = nI (f i)) : Pt (fun q : Int32 × sv_V => (q.1 = if p + csum f one other m ≤ e then nI (p + csum f one other m) else -1) ∧ ∀ a i, a ≠ c → q.2.1 a i = V.1 a i) (F_X12_coordinates N (nI p) c one other V) := by
  have hn := h.1
  unfold F_X12_coordinates
  refine pt_l7 (I := fun a2 a3 a4 a5 _ a7 W => a2 = c ∧ a3 = one ∧ a4 = other ∧ (∀ a i, a ≠ c → W.1 a i = V.1 a i) ∧ ∃ k, a7 = nI k ∧ k ≤ m ∧ a5 = nI (p + csum f one other k) ∧ p + csum f one other k ≤ e) ?_ N _ _ _ _ _ _ V ⟨rfl, rfl, rfl, fun _ _ _ => rfl, 0, rfl, Nat.zero_le _, rfl, hp⟩
  rintro kk ih a2 a3 a4 a5 a6 a7 W ⟨rfl, rfl, rfl, hK, k, rfl, kl, rfl, hpe⟩
  have w29 : W.1 146 29 = nI m := (hK 146 29 (by omega)).trans h29
  have w27 : W.1 146 27 = nI e := (hK 146 27 (by omega)).trans h27
  have hW : FR d n W := ⟨h.1, (hK 146 3 (by omega)).trans h.2.1, fun j hj => (hK 148 j (by omega)).trans (h.2.2 j hj)⟩
  unfold B_X12_coordinates_9
  rw [w29]
  refine pt_ite (fun q => ?_) (fun q => ?_)
  · have ek : k = m := by
      have := (nI_leI (by omega) (by omega)).mp q
      omega
    subst ek
    exact pt_some ⟨by rw [if_pos hpe], hK⟩
  have hkm : k < m := nI_nle2 q (by omega)
  have ef : W.1 156 k = nI (f k) := (hK 156 k (by omega)).trans (hF k hkm)
  have cb := cons_b (f := f k) (x := a3) (y := a4)
  have g64 : ∀ s l : Int32, s = nI (cons (f k) a3 a4) → Pt (fun q : Int32 × sv_V => (q.1 = if p + csum f a3 a4 m ≤ e then nI (p + csum f a3 a4 m) else -1) ∧ ∀ a i, a ≠ a2 → q.2.1 a i = V.1 a i) (B_X12_coordinates_64 N kk a2 a3 a4 (nI (p + csum f a3 a4 k)) a6 (nI k) l s W) := fun s l hs => by
    subst hs
    unfold B_X12_coordinates_64
    rw [nI_add, w27]
    have g128 : ∀ (U : sv_V) (s0 s1 : Int32), p + csum f a3 a4 k + cons (f k) a3 a4 ≤ e → (∀ a i, a ≠ a2 → U.1 a i = V.1 a i) → Pt (fun q : Int32 × sv_V => (q.1 = if p + csum f a3 a4 m ≤ e then nI (p + csum f a3 a4 m) else -1) ∧ ∀ a i, a ≠ a2 → q.2.1 a i = V.1 a i) (B_X12_coordinates_128 N kk a2 a3 a4 (nI (p + csum f a3 a4 k)) (nI k) (nI (cons (f k) a3 a4)) s0 s1 U) := fun U s0 s1 hpe2 hU => by
      unfold B_X12_coordinates_128
      refine pt_let fun x1 _ => pt_b fun n2 _ => pt_g fun _ => pt_let fun V5 e5 => pt_let fun x6 h6 => pt_let fun x7 h7 => ih _ _ _ _ _ _ _ ⟨rfl, rfl, rfl, fun a i z => ?_, k + 1, by rw [h7, nI_1], hkm, ?_, ?_⟩
      · rw [e5, vI_cell _ _ _ _ z]
        exact hU a i z
      · rw [h6, nI_add, Nat.add_assoc]
        rfl
      · rw [Nat.add_assoc] at hpe2
        exact hpe2
    refine pt_ite (fun q1 => ?_) (fun q1 => pt_some ⟨?_, hK⟩)
    · have q1' := (nI_leI (by omega) (by omega)).mp q1
      refine pt_ite (fun _ => pt_ite (fun _ => ?_) (fun _ => ?_)) (fun _ => pt_ite (fun _ => ?_) (fun _ => g128 _ _ _ q1' hK))
      · rw [u1_r hW (by omega), Option.bind_some]
        exact g128 _ _ _ q1' hK
      · rw [u1_r hW (by omega), Option.bind_some]
        exact g128 _ _ _ q1' hK
      · rw [s2_r hW (by omega), Option.bind_some]
        exact g128 _ _ _ q1' hK
    · have q1' : ¬ p + csum f a3 a4 k + cons (f k) a3 a4 ≤ e := fun z => q1 (nI_le z (by omega))
      have := csum_mono (f := f) (x := a3) (y := a4) m (show k + 1 ≤ m from hkm)
      have e1 : csum f a3 a4 (k + 1) = csum f a3 a4 k + cons (f k) a3 a4 := rfl
      rw [if_neg (by omega)]
  have g36 : ∀ s : Int32, (s = 0 ∧ nI (f k) &&& a4 = 0) ∨ (s = 1 ∧ ¬ nI (f k) &&& a4 = 0) → Pt (fun q : Int32 × sv_V => (q.1 = if p + csum f a3 a4 m ≤ e then nI (p + csum f a3 a4 m) else -1) ∧ ∀ a i, a ≠ a2 → q.2.1 a i = V.1 a i) (B_X12_coordinates_36 N kk a2 a3 a4 (nI (p + csum f a3 a4 k)) a6 (nI k) s W) := fun s hs => by
    unfold B_X12_coordinates_36
    rw [nI_clamp (by omega), ef]
    refine pt_g fun _ => pt_ite (fun q1 => pt_ite (fun q2 => g64 _ _ ?_) (fun q2 => g64 _ _ ?_)) (fun q1 => g64 _ _ ?_)
    · have e4 : nI (f k) &&& a4 = 0 := by
        rcases hs with z | z
        · exact z.2
        · rw [z.1] at q2
          exact absurd q2 (by decide)
      unfold cons
      rw [if_pos q1, if_pos e4]
      rfl
    · have e4 : ¬ nI (f k) &&& a4 = 0 := by
        rcases hs with z | z
        · exact absurd z.1 q2
        · exact z.2
      unfold cons
      rw [if_pos q1, if_neg e4]
      rfl
    · unfold cons
      rw [if_neg q1]
      rfl
  rw [nI_clamp (by omega), ef]
  exact pt_g fun _ => pt_ite (fun q1 => g36 0 (Or.inl ⟨rfl, q1⟩)) (fun q1 => g36 1 (Or.inr ⟨rfl, q1⟩))
theorem simple_r {b c e : Nat} (h : FR d n V) (he : e ≤ n) (hb : b + 10 ≤ e) (hc : c ≤ 12) (h26 : V.1 146 26 = nI b) (h27 : V.1 146 27 = nI e) (h28 : V.1 146 28 = nI c) : Pt (fun q : Int32 × sv_V => IB q.1 (SPv d n b e c) ∧ (q.1 = 1 → q.2.1 146 29 = nI (gM d n b c) ∧ q.2.1 146 32 = nI (g2 d n (b + 10 + 2 * c)))) (F_X12_simple N V) := by
  have hn := h.1
  have no : ∀ U, ¬ SPv d n b e c → Pt (fun q : Int32 × sv_V => IB q.1 (SPv d n b e c) ∧ (q.1 = 1 → q.2.1 146 29 = nI (gM d n b c) ∧ q.2.1 146 32 = nI (g2 d n (b + 10 + 2 * c)))) (some (0, U)) := fun U z => pt_some ⟨Or.inr ⟨rfl, z⟩, fun e => absurd e (show ¬ (0 : Int32) = 1 by decide)⟩
  unfold F_X12_simple
  refine pt_let fun x46 e46 => ?_
  rw [h26, show nI b + (10 : Int32) = nI (b + 10) from nI_add b 10] at e46
  subst e46
  rw [h28, h27, show (2 : Int32) * nI c = nI (2 * c) from pk_mul 2 c, nI_add, show nI (b + 10 + 2 * c) + (2 : Int32) = nI (b + 10 + 2 * c + 2) from nI_add _ 2]
  refine pt_ite (fun q => ?_) (fun q => no _ (fun z => q (nI_le (by obtain ⟨t, z1, -⟩ := z; omega) (by omega))))
  have q' := (nI_leI (by omega) (by omega)).mp q
  refine pt_l4 (I := fun a1 a2 a3 W => (∀ a i, a ≠ 153 → W.1 a i = V.1 a i) ∧ ∃ k, a3 = nI k ∧ k ≤ c ∧ a1 = nI (b + 10 + 2 * k) ∧ (a2 = if k = 0 then -1 else nI (g2 d n (b + 8 + 2 * k))) ∧ ∀ j, j < k → g2 d n (b + 10 + 2 * j) < 100 ∧ (1 ≤ j → g2 d n (b + 8 + 2 * j) < g2 d n (b + 10 + 2 * j))) ?_ N _ _ _ V ⟨fun _ _ _ => rfl, 0, rfl, Nat.zero_le _, rfl, rfl, fun j hj => by omega⟩
  rintro kk ih a1 a2 a3 W ⟨hK, k, rfl, kl, rfl, ea2, hj⟩
  have hW : FR d n W := ⟨h.1, (hK 146 3 (by decide)).trans h.2.1, fun j hj => (hK 148 j (by decide)).trans (h.2.2 j hj)⟩
  have a10 := g2_lt (d := d) (n := n) (P := b + 10 + 2 * k)
  have a8 := g2_lt (d := d) (n := n) (P := b + 8 + 2 * k)
  unfold B_X12_simple_31
  rw [(hK 146 28 (by decide)).trans h28]
  refine pt_ite (fun q1 => ?_) (fun q1 => ?_)
  rotate_left
  · have hkc : k < c := nI_nle2 q1 (by omega)
    have le4 : (nI (g2 d n (b + 10 + 2 * k)) ≤ a2) ↔ (1 ≤ k ∧ g2 d n (b + 10 + 2 * k) ≤ g2 d n (b + 8 + 2 * k)) := by
      rw [ea2]
      rcases Nat.eq_zero_or_pos k with y | y
      · rw [if_pos y, Int32.le_iff_toInt_le, nI_toInt (by omega)]
        show _ ≤ (-1 : Int) ↔ _
        omega
      · rw [if_neg (by omega), nI_leI (by omega) (by omega)]
        omega
    rw [u2_r hW (by omega), Option.bind_some]
    dsimp only
    refine pt_ite (fun q2 => no _ (fun z => ?_)) (fun q2 => ?_)
    · obtain ⟨t, -, z2, -⟩ := z
      have y := le4.mp q2
      have := (z2 k hkc).2 y.1
      omega
    have q2' : ¬ (1 ≤ k ∧ g2 d n (b + 10 + 2 * k) ≤ g2 d n (b + 8 + 2 * k)) := fun z => q2 (le4.mpr z)
    refine pt_ite (fun q3 => ?_) (fun q3 => no _ (fun z => ?_))
    rotate_left
    · obtain ⟨t, -, z2, -⟩ := z
      exact q3 (nI_lt (b := 100) (z2 k hkc).1 (by decide))
    have q3' := (nI_ltI (b := 100) (by omega) (by decide)).mp q3
    refine pt_g fun _ => pt_let fun V43 e43 => pt_let fun x44 h44 => pt_let fun x45 h45 => ih _ _ _ _ ⟨fun a i z => ?_, k + 1, by rw [h45, nI_1], hkc, ?_, ?_, fun j hj' => ?_⟩
    · rw [e43, vI_cell _ _ _ _ z]
      exact hK a i z
    · rw [h44, show b + 10 + 2 * (k + 1) = b + 10 + 2 * k + 2 by omega]
      exact nI_add _ 2
    · rw [if_neg (by omega), show b + 8 + 2 * (k + 1) = b + 10 + 2 * k by omega]
    · rcases Nat.lt_or_ge j k with y | y
      · exact hj j y
      · have ej : j = k := by omega
        subst ej
        exact ⟨q3', fun y => by omega⟩
  have ek : k = c := by
    have := (nI_leI (by omega) (by omega)).mp q1
    omega
  subst ek
  have gm : a2 + 1 = nI (gM d n b k) := by
    rw [ea2]
    unfold gM
    rcases Nat.eq_zero_or_pos k with y | y
    · rw [if_pos y, if_pos y]
      rfl
    · rw [if_neg (by omega), if_neg (by omega), nI_1]
  have gm100 : gM d n b k ≤ 100 := by
    unfold gM
    rcases Nat.eq_zero_or_pos k with y | y
    · rw [if_pos y]
      decide
    · rw [if_neg (by omega)]
      have := (hj (k - 1) (by omega)).1
      rw [show b + 10 + 2 * (k - 1) = b + 8 + 2 * k by omega] at this
      omega
  rw [gm]
  refine pt_let fun V28 e28 => ?_
  have h28' : FR d n V28 := by rw [e28]; exact FR_I hW ⟨Or.inr (by decide), by decide⟩
  rw [u2_r h28' (by omega), Option.bind_some]
  dsimp only
  refine pt_let fun V32 e32 => pt_let fun V33 e33 => ?_
  have h33 : FR d n V33 := by rw [e33, e32]; exact FR_I (FR_I h28' ⟨Or.inr (by decide), by decide⟩) ⟨Or.inr (by decide), by decide⟩
  have r32 : V33.1 146 32 = nI (g2 d n (b + 10 + 2 * k)) := by rw [e33, e32]; rfl
  have r29 : V33.1 146 29 = nI (gM d n b k) := by rw [e33, e32, e28]; rfl
  have r27 : V33.1 146 27 = nI e := by rw [e33, e32, e28]; exact (hK 146 27 (by decide)).trans h27
  clear e33 e32 e28
  rw [r32, r27]
  refine pt_let fun x34 h34 => ?_
  rw [show (2 : Int32) + nI (g2 d n (b + 10 + 2 * k)) = nI (2 + g2 d n (b + 10 + 2 * k)) from nI_add 2 _, nI_add, show b + 10 + 2 * k + (2 + g2 d n (b + 10 + 2 * k)) = b + 12 + 2 * k + g2 d n (b + 10 + 2 * k) by omega] at h34
  subst h34
  refine pt_ite (fun q2 => no _ (fun z => ?_)) (fun q2 => pt_ite (fun q3 => ?_) (fun q3 => no _ (fun z => ?_)))
  · have := (nI_ltI (a := 400) (by decide) (by omega)).mp q2
    obtain ⟨t, -, -, z3, -⟩ := z
    omega
  rotate_left
  · obtain ⟨t, -, -, -, z4, -⟩ := z
    exact q3 (nI_le z4 (by omega))
  have q2' := nI_nlt2 (a := 400) (b := g2 d n (b + 10 + 2 * k)) q2 (by omega)
  have q3' := (nI_leI (by omega) (by omega)).mp q3
  generalize hQ : b + 12 + 2 * k + g2 d n (b + 10 + 2 * k) = Q at *
  generalize hM : gM d n b k = m at *
  have sfl : SPv d n b e k → ∃ t, FLn d n Q m e t := fun z => by
    obtain ⟨t, -, -, -, -, z5, -⟩ := z
    rw [hQ, hM] at z5
    exact ⟨t, z5⟩
  refine pt_l3 (I := fun a1 a3 U => (∀ a i, a ≠ 156 → U.1 a i = V33.1 a i) ∧ ∃ t, a1 = nI (fP d n Q t) ∧ a3 = nI (fK d n Q t) ∧ fK d n Q t ≤ m ∧ fP d n Q t ≤ e ∧ (∀ j, j < t → fK d n Q j < m ∧ fP d n Q (j + 1) ≤ e ∧ fK d n Q (j + 1) ≤ m) ∧ ∀ i, i < fK d n Q t → U.1 156 i = nI (fF d n Q t i)) ?_ N _ _ V33 ⟨fun _ _ _ => rfl, 0, rfl, rfl, Nat.zero_le _, q3', fun j hj => by omega, fun i hi => absurd hi (Nat.not_lt_zero i)⟩
  rintro k2 ih2 b1 b3 U ⟨uK, t, rfl, rfl, hk, hP, ht, uF⟩
  have hU : FR d n U := ⟨h33.1, (uK 146 3 (by decide)).trans h33.2.1, fun j hj => (uK 148 j (by decide)).trans (h33.2.2 j hj)⟩
  have u29 : U.1 146 29 = nI m := (uK 146 29 (by decide)).trans r29
  have u27 : U.1 146 27 = nI e := (uK 146 27 (by decide)).trans r27
  have u32 : U.1 146 32 = nI (g2 d n (b + 10 + 2 * k)) := (uK 146 32 (by decide)).trans r32
  unfold B_X12_simple_135
  rw [u29, u27]
  refine pt_ite (fun q4 => ?_) (fun q4 => ?_)
  · have em : fK d n Q t = m := by
      have := (nI_leI (by omega) (by omega)).mp q4
      omega
    have hFL : FLn d n Q m e t := ⟨ht, em⟩
    have sp : SPv d n b e k ↔ fP d n Q t + csum (fF d n Q t) 2 16 m + csum (fF d n Q t) 4 32 m ≤ e := by
      constructor
      · rintro ⟨t', z1, z2, z3, z4, z5, z6⟩
        rw [hQ, hM] at z5 z6
        rw [FLn_u hFL z5]
        exact z6
      · intro z
        exact ⟨t, by omega, hj, q2', by rw [hQ]; exact q3', by rw [hQ, hM]; exact hFL, by rw [hQ, hM]; exact z⟩
    refine pt_bb (coord_r (f := fF d n Q t) hU he hP gm100 (Or.inl rfl) u29 u27 (fun i hi => uF i (by omega))) ?_
    rintro ⟨x11, V9⟩ ⟨hx, kx⟩
    dsimp only at hx kx ⊢
    have h9 : FR d n V9 := ⟨hU.1, (kx 146 3 (by decide)).trans hU.2.1, fun j hj => (kx 148 j (by decide)).trans (hU.2.2 j hj)⟩
    have g273 : ∀ (y : Int32) (X : sv_V), X.1 146 29 = nI m → X.1 146 32 = nI (g2 d n (b + 10 + 2 * k)) → (y = -1 ↔ ¬ SPv d n b e k) → Pt (fun q : Int32 × sv_V => IB q.1 (SPv d n b e k) ∧ (q.1 = 1 → q.2.1 146 29 = nI m ∧ q.2.1 146 32 = nI (g2 d n (b + 10 + 2 * k)))) (B_X12_simple_273 N y X) := fun y X x29 x32 hy => by
      unfold B_X12_simple_273
      exact pt_ite (fun q => no _ (hy.mp q)) (fun q => pt_some ⟨Or.inl ⟨rfl, nnx (fun z => q (hy.mpr z))⟩, fun _ => ⟨x29, x32⟩⟩)
    have cbx := csum_b (f := fF d n Q t) (x := 2) (y := 16) m
    have cby := csum_b (f := fF d n Q t) (x := 4) (y := 32) m
    have nm1 : ∀ x : Nat, x < 2 ^ 31 → ¬ nI x = (-1 : Int32) := fun x hx z => by
      have := nI_md.mp (show nI x = nI 4294967295 from z)
      omega
    by_cases c1 : fP d n Q t + csum (fF d n Q t) 2 16 m ≤ e
    · rw [if_pos c1] at hx
      subst hx
      refine pt_ite (fun z => absurd z (nm1 _ (by omega))) (fun _ => ?_)
      refine pt_bb (coord_r (f := fF d n Q t) h9 he c1 gm100 (Or.inr rfl) ((kx 146 29 (by decide)).trans u29) ((kx 146 27 (by decide)).trans u27) (fun i hi => (kx 156 i (by decide)).trans (uF i (by omega)))) ?_
      rintro ⟨x15, V13⟩ ⟨hy, ky⟩
      dsimp only at hy ky ⊢
      refine g273 _ _ ((ky 146 29 (by decide)).trans ((kx 146 29 (by decide)).trans u29)) ((ky 146 32 (by decide)).trans ((kx 146 32 (by decide)).trans u32)) ?_
      rw [sp, hy]
      by_cases c2 : fP d n Q t + csum (fF d n Q t) 2 16 m + csum (fF d n Q t) 4 32 m ≤ e
      · rw [if_pos c2]
        exact iff_of_false (nm1 _ (by omega)) (fun z => z c2)
      · rw [if_neg c2]
        exact iff_of_true rfl c2
    · rw [if_neg c1] at hx
      subst hx
      refine pt_ite (fun _ => ?_) (fun z => absurd rfl z)
      exact g273 _ _ ((kx 146 29 (by decide)).trans u29) ((kx 146 32 (by decide)).trans u32) (iff_of_true rfl (fun z => by have := sp.mp z; omega))
  have hkm : fK d n Q t < m := nI_nle2 q4 (by omega)
  have fwb := fW_b (d := d) (n := n) (p := fP d n Q t)
  have bad : ∀ X, ¬ (fP d n Q (t + 1) ≤ e ∧ fK d n Q (t + 1) ≤ m) → Pt (fun q : Int32 × sv_V => IB q.1 (SPv d n b e k) ∧ (q.1 = 1 → q.2.1 146 29 = nI m ∧ q.2.1 146 32 = nI (g2 d n (b + 10 + 2 * k)))) (some (0, X)) := fun X z => no _ (fun y => FL_no hkm z (sfl y))
  refine pt_ite (fun q5 => ?_) (fun q5 => bad _ (fun z => q5 (nI_lt (by rw [fP_s] at z; omega) (by omega))))
  have q5' := (nI_ltI (by omega) (by omega)).mp q5
  have g194 : ∀ mo : Nat, mo = fMo d n (fP d n Q t) → fP d n Q (t + 1) ≤ e → Pt (fun q : Int32 × sv_V => IB q.1 (SPv d n b e k) ∧ (q.1 = 1 → q.2.1 146 29 = nI m ∧ q.2.1 146 32 = nI (g2 d n (b + 10 + 2 * k)))) (B_X12_simple_194 N k2 (nI (fP d n Q (t + 1))) (nI (fK d n Q t)) (nI (g1 d n (fP d n Q t))) (nI mo) U) := fun mo hmo hpe => by
    have mb := fMo_b (d := d) (n := n) (p := fP d n Q t)
    subst hmo
    unfold B_X12_simple_194
    rw [nI_1, nI_add, u29]
    refine pt_ite (fun q6 => ?_) (fun q6 => bad _ (fun z => q6 (nI_le (by rw [fK_s] at z; omega) (by omega))))
    have q6' := (nI_leI (by omega) (by omega)).mp q6
    refine pt_l6 (I := fun c1 c3 c4 c5 c6 X => c1 = nI (fP d n Q (t + 1)) ∧ c4 = nI (g1 d n (fP d n Q t)) ∧ c5 = nI (fMo d n (fP d n Q t)) ∧ ∃ j, c6 = nI j ∧ c3 = nI (fK d n Q t + j) ∧ j ≤ fMo d n (fP d n Q t) + 1 ∧ (∀ a i, a ≠ 156 → X.1 a i = V33.1 a i) ∧ (∀ i, i < fK d n Q t → X.1 156 i = nI (fF d n Q t i)) ∧ ∀ i, fK d n Q t ≤ i → i < fK d n Q t + j → X.1 156 i = nI (g1 d n (fP d n Q t))) ?_ N _ _ _ _ _ U ⟨rfl, rfl, rfl, 0, rfl, rfl, Nat.zero_le _, uK, uF, fun i a b => by omega⟩
    rintro k3 ih3 c1 c3 c4 c5 c6 X ⟨rfl, rfl, rfl, j, rfl, rfl, jl, xK, xF, xj⟩
    unfold B_X12_simple_212
    refine pt_ite (fun q7 => ?_) (fun q7 => ?_)
    · have q7' := (nI_ltI (by omega) (by omega)).mp q7
      have ej : j = fMo d n (fP d n Q t) + 1 := by omega
      refine ih2 _ _ _ ⟨xK, t + 1, rfl, by rw [fK_s, ej, Nat.add_assoc], by rw [fK_s]; omega, hpe, fun i hi => ?_, fun i hi => ?_⟩
      · rcases Nat.lt_or_ge i t with z | z
        · exact ht i z
        · have ei : i = t := by omega
          subst ei
          exact ⟨hkm, hpe, by rw [fK_s]; omega⟩
      · rw [fF_s]
        rw [fK_s] at hi
        by_cases z : fK d n Q t ≤ i
        · rw [if_pos z]
          exact xj i z (by omega)
        · rw [if_neg z]
          exact xF i (by omega)
    · have q7' := nI_nlt2 q7 (by omega)
      rw [nI_clamp (by omega)]
      refine pt_g fun _ => pt_let fun X5 e5 => pt_let fun x4 hx4 => pt_let fun x6 hx6 => ih3 _ _ _ _ _ _ ⟨rfl, rfl, rfl, j + 1, by rw [hx6, nI_1], by rw [hx4, nI_1, Nat.add_assoc], by omega, fun a i z => ?_, fun i hi => ?_, fun i a b => ?_⟩
      · rw [e5, vI_cell _ _ _ _ z]
        exact xK a i z
      · rw [e5, vI_place _ _ _ (by omega)]
        exact xF i hi
      · rw [e5]
        by_cases z : i = fK d n Q t + j
        · rw [z, vI_same]
        · rw [vI_place _ _ _ z]
          exact xj i a (by omega)
  rw [u1_r hU (by omega), Option.bind_some]
  dsimp only
  refine pt_let fun x20 h20 => ?_
  rw [nI_1] at h20
  subst h20
  refine pt_ite (fun q6 => ?_) (fun q6 => ?_)
  · have ew : fW d n (fP d n Q t) = 1 := if_pos q6
    have em : fMo d n (fP d n Q t) = 0 := if_pos q6
    have := g194 0 em.symm (by rw [fP_s, ew]; omega)
    rw [fP_s, ew] at this
    exact this
  · have ew : fW d n (fP d n Q t) = 2 := if_neg q6
    have em : fMo d n (fP d n Q t) = g1 d n (fP d n Q t + 1) := if_neg q6
    rw [u27]
    refine pt_ite (fun q7 => ?_) (fun q7 => bad _ (fun z => q7 (nI_lt (by rw [fP_s, ew] at z; omega) (by omega))))
    have q7' := (nI_ltI (by omega) (by omega)).mp q7
    rw [u1_r hU (by omega), Option.bind_some]
    dsimp only
    refine pt_let fun x26 h26' => ?_
    rw [nI_1] at h26'
    subst h26'
    have := g194 _ em.symm (by rw [fP_s, ew]; omega)
    rw [fP_s, ew] at this
    exact this
end RS
