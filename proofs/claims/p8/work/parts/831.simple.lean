section
/-! 11 GLYPHS: the reference reads -/
def RG (d : Nat → Int32) (n : Nat) (V : sv_V) : Prop := RB d n V ∧ V.1 146 11 = nI (foO d n) ∧ V.1 146 12 = nI (glO d n)
section RS
variable {d : Nat → Int32} {n N g : Nat} {V : sv_V}
theorem RG_I (h : RG d n V) {k : Nat} {x : Int32} (e : k ≠ 3 ∧ k ≠ 5 ∧ k ≠ 11 ∧ k ≠ 12) : RG d n (sv_I V 146 k x) := ⟨RB_I h.1 ⟨e.1, e.2.1⟩, (vI_place _ _ _ (by omega)).trans h.2.1, (vI_place _ _ _ (by omega)).trans h.2.2⟩
theorem RG_A (h : RG d n V) {a k : Nat} {x : Int32} (e : 153 ≤ a) : RG d n (sv_I V a k x) := by
  obtain ⟨⟨⟨h1, h2, h3⟩, h4, h5⟩, h6, h7⟩ := h
  have c : ∀ b j, b < 153 → (sv_I V a k x).1 b j = V.1 b j := fun b j hb => vI_cell _ _ _ _ (by omega)
  exact ⟨⟨⟨h1, (c _ _ (by omega)).trans h2, fun j hj => (c _ _ (by omega)).trans (h3 j hj)⟩, (c _ _ (by omega)).trans h4, fun i hi => ⟨(c _ _ (by omega)).trans (h5 i hi).1, (h5 i hi).2⟩⟩, (c _ _ (by omega)).trans h6, (c _ _ (by omega)).trans h7⟩
theorem bytes_r (h : RG d n V) (h1 : K1 d n) (h3 : K3 d n) (h10 : K10 d n) (hg : g < glO d n) (gl2 : glO d n ≤ 200) : Pt (fun W : sv_V => RG d n W ∧ W.1 146 26 = nI (GB d n g) ∧ W.1 146 27 = nI (GB d n (g + 1)) ∧ (W.1 146 28 = if GB d n g = GB d n (g + 1) then 0 else s16 (g2 d n (GB d n g))) ∧ W.1 146 29 = 0 ∧ W.1 146 30 = 0 ∧ W.1 146 32 = 0) (F_X12_bytesOf N (nI g) V) := by
  have hn := h.1.1.1
  obtain ⟨een, ele⟩ := GB_le h3 h10 hg
  have g60 : ∀ (s : Int32) (U : sv_V), RG d n U → U.1 146 26 = nI (GB d n g) → U.1 146 27 = nI (GB d n (g + 1)) → (s = if GB d n g = GB d n (g + 1) then 0 else s16 (g2 d n (GB d n g))) → Pt (fun W : sv_V => RG d n W ∧ W.1 146 26 = nI (GB d n g) ∧ W.1 146 27 = nI (GB d n (g + 1)) ∧ (W.1 146 28 = if GB d n g = GB d n (g + 1) then 0 else s16 (g2 d n (GB d n g))) ∧ W.1 146 29 = 0 ∧ W.1 146 30 = 0 ∧ W.1 146 32 = 0) (B_X12_bytesOf_60 N s U) := fun s U hU u26 u27 hs => by
    unfold B_X12_bytesOf_60
    refine pt_let fun W1 e1 => pt_let fun W2 e2 => pt_let fun W3 e3 => pt_let fun W4 e4 => pt_let fun W5 e5 => pt_some ⟨?_, ?_, ?_, ?_, ?_, ?_, ?_⟩
    · rw [e5, e4, e3, e2, e1]
      exact RG_I (RG_I (RG_I (RG_I (RG_I hU (by decide)) (by decide)) (by decide)) (by decide)) (by decide)
    · rw [e5, e4, e3, e2, e1]; exact u26
    · rw [e5, e4, e3, e2, e1]; exact u27
    · rw [e5, e4, e3, e2, e1]; exact hs
    · rw [e5, e4, e3, e2]; rfl
    · rw [e5, e4, e3]; rfl
    · rw [e5]; rfl
  unfold F_X12_bytesOf
  refine pt_bb (beginOf_r (t := 1735162214) h.1 h1 (by decide)) ?_
  rintro _ rfl
  refine pt_bb (loca_r h.1 h1 h3 h.2.1 (by omega)) ?_
  rintro _ rfl
  dsimp only
  rw [lN_i, nI_add]
  refine pt_let fun V12 e12 => ?_
  have h12 : RG d n V12 := by rw [e12]; exact RG_I h (by decide)
  refine pt_bb (beginOf_r (t := 1735162214) h12.1 h1 (by decide)) ?_
  rintro _ rfl
  dsimp only
  rw [nI_1]
  refine pt_bb (loca_r h12.1 h1 h3 h12.2.1 (by omega)) ?_
  rintro _ rfl
  dsimp only
  rw [lN_i, nI_add]
  refine pt_let fun V19 e19 => ?_
  have h19 : RG d n V19 := by rw [e19]; exact RG_I h12 (by decide)
  have r26 : V19.1 146 26 = nI (GB d n g) := by rw [e19, e12]; rfl
  have r27 : V19.1 146 27 = nI (GB d n (g + 1)) := by rw [e19]; rfl
  rw [r26, r27]
  refine pt_ite (fun q => g60 _ _ h19 r26 r27 ?_) (fun q => ?_)
  · rw [if_pos ((nI_eq (by omega) (by omega)).mp q)]
  · have q' : ¬ GB d n g = GB d n (g + 1) := fun z => q (by rw [z])
    rw [s2_r h19.1.1 (by omega), Option.bind_some]
    exact g60 _ _ h19 r26 r27 (by rw [if_neg q'])
theorem coord_r {p c m e : Nat} {one other : Int32} {f : Nat → Nat} (h : FR d n V) (he : e ≤ n) (hp : p ≤ e) (hm : m ≤ 100) (hc : c = 154 ∨ c = 155) (h29 : V.1 146 29 = nI m) (h27 : V.1 146 27 = nI e) (hF : ∀ i, i < m → V.1 156 i = nI (f i)) : Pt (fun q : Int32 × sv_V => (q.1 = if p + csum f one other m ≤ e then nI (p + csum f one other m) else -1) ∧ ∀ a i, a ≠ c → q.2.1 a i = V.1 a i) (F_X12_coordinates N (nI p) c one other V) := by
  have hn := h.1
  unfold F_X12_coordinates
  refine pt_l7 (I := fun a2 a3 a4 a5 _ a7 W => a2 = c ∧ a3 = one ∧ a4 = other ∧ (∀ a i, a ≠ c → W.1 a i = V.1 a i) ∧ ∃ k, a7 = nI k ∧ k ≤ m ∧ a5 = nI (p + csum f one other k) ∧ p + csum f one other k ≤ e) ?_ N _ _ _ _ _ _ V ⟨rfl, rfl, rfl, fun _ _ _ => rfl, 0, rfl, Nat.zero_le _, rfl, hp⟩
  rintro kk ih a2 a3 a4 a5 a6 a7 W ⟨rfl, rfl, rfl, hK, k, rfl, kl, rfl, hpe⟩
  have w29 : W.1 146 29 = nI m := (hK 146 29 (by omega)).trans h29
  have w27 : W.1 146 27 = nI e := (hK 146 27 (by omega)).trans h27
  have hW : FR d n W := ⟨h.1, (hK 146 3 (by omega)).trans h.2.1, fun j hj => (hK 148 j (by omega)).trans (h.2.2 j hj)⟩
  unfold B_X12_coordinates_9
  rw [w29]
  refine pt_ite (fun q => ?_) (fun q => ?_)
  · have ek : k = m := by
      have := (nI_leI (by omega) (by omega)).mp q
      omega
    subst ek
    exact pt_some ⟨by rw [if_pos hpe], hK⟩
  have hkm : k < m := nI_nle2 q (by omega)
  have ef : W.1 156 k = nI (f k) := (hK 156 k (by omega)).trans (hF k hkm)
  have cb := cons_b (f := f k) (x := a3) (y := a4)
  have g64 : ∀ s l : Int32, s = nI (cons (f k) a3 a4) → Pt (fun q : Int32 × sv_V => (q.1 = if p + csum f a3 a4 m ≤ e then nI (p + csum f a3 a4 m) else -1) ∧ ∀ a i, a ≠ a2 → q.2.1 a i = V.1 a i) (B_X12_coordinates_64 N kk a2 a3 a4 (nI (p + csum f a3 a4 k)) a6 (nI k) l s W) := fun s l hs => by
    subst hs
    unfold B_X12_coordinates_64
    rw [nI_add, w27]
    have g128 : ∀ (U : sv_V) (s0 s1 : Int32), p + csum f a3 a4 k + cons (f k) a3 a4 ≤ e → (∀ a i, a ≠ a2 → U.1 a i = V.1 a i) → Pt (fun q : Int32 × sv_V => (q.1 = if p + csum f a3 a4 m ≤ e then nI (p + csum f a3 a4 m) else -1) ∧ ∀ a i, a ≠ a2 → q.2.1 a i = V.1 a i) (B_X12_coordinates_128 N kk a2 a3 a4 (nI (p + csum f a3 a4 k)) (nI k) (nI (cons (f k) a3 a4)) s0 s1 U) := fun U s0 s1 hpe2 hU => by
      unfold B_X12_coordinates_128
      refine pt_let fun x1 _ => pt_b fun n2 _ => pt_g fun _ => pt_let fun V5 e5 => pt_let fun x6 h6 => pt_let fun x7 h7 => ih _ _ _ _ _ _ _ ⟨rfl, rfl, rfl, fun a i z => ?_, k + 1, by rw [h7, nI_1], hkm, ?_, ?_⟩
      · rw [e5, vI_cell _ _ _ _ z]
        exact hU a i z
      · rw [h6, nI_add, Nat.add_assoc]
        rfl
      · rw [Nat.add_assoc] at hpe2
        exact hpe2
    refine pt_ite (fun q1 => ?_) (fun q1 => pt_some ⟨?_, hK⟩)
    · have q1' := (nI_leI (by omega) (by omega)).mp q1
      refine pt_ite (fun _ => pt_ite (fun _ => ?_) (fun _ => ?_)) (fun _ => pt_ite (fun _ => ?_) (fun _ => g128 _ _ _ q1' hK))
      · rw [u1_r hW (by omega), Option.bind_some]
        exact g128 _ _ _ q1' hK
      · rw [u1_r hW (by omega), Option.bind_some]
        exact g128 _ _ _ q1' hK
      · rw [s2_r hW (by omega), Option.bind_some]
        exact g128 _ _ _ q1' hK
    · have q1' : ¬ p + csum f a3 a4 k + cons (f k) a3 a4 ≤ e := fun z => q1 (nI_le z (by omega))
      have := csum_mono (f := f) (x := a3) (y := a4) m (show k + 1 ≤ m from hkm)
      have e1 : csum f a3 a4 (k + 1) = csum f a3 a4 k + cons (f k) a3 a4 := rfl
      rw [if_neg (by omega)]
  have g36 : ∀ s : Int32, (s = 0 ∧ nI (f k) &&& a4 = 0) ∨ (s = 1 ∧ ¬ nI (f k) &&& a4 = 0) → Pt (fun q : Int32 × sv_V => (q.1 = if p + csum f a3 a4 m ≤ e then nI (p + csum f a3 a4 m) else -1) ∧ ∀ a i, a ≠ a2 → q.2.1 a i = V.1 a i) (B_X12_coordinates_36 N kk a2 a3 a4 (nI (p + csum f a3 a4 k)) a6 (nI k) s W) := fun s hs => by
    unfold B_X12_coordinates_36
    rw [nI_clamp (by omega), ef]
    refine pt_g fun _ => pt_ite (fun q1 => pt_ite (fun q2 => g64 _ _ ?_) (fun q2 => g64 _ _ ?_)) (fun q1 => g64 _ _ ?_)
    · have e4 : nI (f k) &&& a4 = 0 := by
        rcases hs with z | z
        · exact z.2
        · rw [z.1] at q2
          exact absurd q2 (by decide)
      unfold cons
      rw [if_pos q1, if_pos e4]
      rfl
    · have e4 : ¬ nI (f k) &&& a4 = 0 := by
        rcases hs with z | z
        · exact absurd z.1 q2
        · exact z.2
      unfold cons
      rw [if_pos q1, if_neg e4]
      rfl
    · unfold cons
      rw [if_neg q1]
      rfl
  rw [nI_clamp (by omega), ef]
  exact pt_g fun _ => pt_ite (fun q1 => g36 0 (Or.inl ⟨rfl, q1⟩)) (fun q1 => g36 1 (Or.inr ⟨rfl, q1⟩))
theorem simple_r {b c e : Nat} (h : FR d n V) (he : e ≤ n) (hb : b + 10 ≤ e) (hc : c ≤ 12) (h26 : V.1 146 26 = nI b) (h27 : V.1 146 27 = nI e) (h28 : V.1 146 28 = nI c) : Pt (fun q : Int32 × sv_V => IB q.1 (SPv d n b e c) ∧ (q.1 = 1 → q.2.1 146 29 = nI (gM d n b c) ∧ q.2.1 146 32 = nI (g2 d n (b + 10 + 2 * c)))) (F_X12_simple N V) := by
  have hn := h.1
  have no : ∀ U, ¬ SPv d n b e c → Pt (fun q : Int32 × sv_V => IB q.1 (SPv d n b e c) ∧ (q.1 = 1 → q.2.1 146 29 = nI (gM d n b c) ∧ q.2.1 146 32 = nI (g2 d n (b + 10 + 2 * c)))) (some (0, U)) := fun U z => pt_some ⟨Or.inr ⟨rfl, z⟩, fun e => absurd e (show ¬ (0 : Int32) = 1 by decide)⟩
  unfold F_X12_simple
  refine pt_let fun x46 e46 => ?_
  rw [h26, show nI b + (10 : Int32) = nI (b + 10) from nI_add b 10] at e46
  subst e46
  rw [h28, h27, show (2 : Int32) * nI c = nI (2 * c) from pk_mul 2 c, nI_add, show nI (b + 10 + 2 * c) + (2 : Int32) = nI (b + 10 + 2 * c + 2) from nI_add _ 2]
  refine pt_ite (fun q => ?_) (fun q => no _ (fun z => q (nI_le (by obtain ⟨t, z1, -⟩ := z; omega) (by omega))))
  have q' := (nI_leI (by omega) (by omega)).mp q
  refine pt_l4 (I := fun a1 a2 a3 W => (∀ a i, a ≠ 153 → W.1 a i = V.1 a i) ∧ ∃ k, a3 = nI k ∧ k ≤ c ∧ a1 = nI (b + 10 + 2 * k) ∧ (a2 = if k = 0 then -1 else nI (g2 d n (b + 8 + 2 * k))) ∧ ∀ j, j < k → g2 d n (b + 10 + 2 * j) < 100 ∧ (1 ≤ j → g2 d n (b + 8 + 2 * j) < g2 d n (b + 10 + 2 * j))) ?_ N _ _ _ V ⟨fun _ _ _ => rfl, 0, rfl, Nat.zero_le _, rfl, rfl, fun j hj => by omega⟩
  rintro kk ih a1 a2 a3 W ⟨hK, k, rfl, kl, rfl, ea2, hj⟩
  have hW : FR d n W := ⟨h.1, (hK 146 3 (by decide)).trans h.2.1, fun j hj => (hK 148 j (by decide)).trans (h.2.2 j hj)⟩
  have a10 := g2_lt (d := d) (n := n) (P := b + 10 + 2 * k)
  have a8 := g2_lt (d := d) (n := n) (P := b + 8 + 2 * k)
  unfold B_X12_simple_31
  rw [(hK 146 28 (by decide)).trans h28]
  refine pt_ite (fun q1 => ?_) (fun q1 => ?_)
  rotate_left
  · have hkc : k < c := nI_nle2 q1 (by omega)
    have le4 : (nI (g2 d n (b + 10 + 2 * k)) ≤ a2) ↔ (1 ≤ k ∧ g2 d n (b + 10 + 2 * k) ≤ g2 d n (b + 8 + 2 * k)) := by
      rw [ea2]
      rcases Nat.eq_zero_or_pos k with y | y
      · rw [if_pos y, Int32.le_iff_toInt_le, nI_toInt (by omega)]
        show _ ≤ (-1 : Int) ↔ _
        omega
      · rw [if_neg (by omega), nI_leI (by omega) (by omega)]
        omega
    rw [u2_r hW (by omega), Option.bind_some]
    dsimp only
    refine pt_ite (fun q2 => no _ (fun z => ?_)) (fun q2 => ?_)
    · obtain ⟨t, -, z2, -⟩ := z
      have y := le4.mp q2
      have := (z2 k hkc).2 y.1
      omega
    have q2' : ¬ (1 ≤ k ∧ g2 d n (b + 10 + 2 * k) ≤ g2 d n (b + 8 + 2 * k)) := fun z => q2 (le4.mpr z)
    refine pt_ite (fun q3 => ?_) (fun q3 => no _ (fun z => ?_))
    rotate_left
    · obtain ⟨t, -, z2, -⟩ := z
      exact q3 (nI_lt (b := 100) (z2 k hkc).1 (by decide))
    have q3' := (nI_ltI (b := 100) (by omega) (by decide)).mp q3
    refine pt_g fun _ => pt_let fun V43 e43 => pt_let fun x44 h44 => pt_let fun x45 h45 => ih _ _ _ _ ⟨fun a i z => ?_, k + 1, by rw [h45, nI_1], hkc, ?_, ?_, fun j hj' => ?_⟩
    · rw [e43, vI_cell _ _ _ _ z]
      exact hK a i z
    · rw [h44, show b + 10 + 2 * (k + 1) = b + 10 + 2 * k + 2 by omega]
      exact nI_add _ 2
    · rw [if_neg (by omega), show b + 8 + 2 * (k + 1) = b + 10 + 2 * k by omega]
    · rcases Nat.lt_or_ge j k with y | y
      · exact hj j y
      · have ej : j = k := by omega
        subst ej
        exact ⟨q3', fun y => by omega⟩
  have ek : k = c := by
    have := (nI_leI (by omega) (by omega)).mp q1
    omega
  subst ek
  have gm : a2 + 1 = nI (gM d n b k) := by
    rw [ea2]
    unfold gM
    rcases Nat.eq_zero_or_pos k with y | y
    · rw [if_pos y, if_pos y]
      rfl
    · rw [if_neg (by omega), if_neg (by omega), nI_1]
  have gm100 : gM d n b k ≤ 100 := by
    unfold gM
    rcases Nat.eq_zero_or_pos k with y | y
    · rw [if_pos y]
      decide
    · rw [if_neg (by omega)]
      have := (hj (k - 1) (by omega)).1
      rw [show b + 10 + 2 * (k - 1) = b + 8 + 2 * k by omega] at this
      omega
  rw [gm]
  refine pt_let fun V28 e28 => ?_
  have h28' : FR d n V28 := by rw [e28]; exact FR_I hW ⟨Or.inr (by decide), by decide⟩
  rw [u2_r h28' (by omega), Option.bind_some]
  dsimp only
  refine pt_let fun V32 e32 => pt_let fun V33 e33 => ?_
  have h33 : FR d n V33 := by rw [e33, e32]; exact FR_I (FR_I h28' ⟨Or.inr (by decide), by decide⟩) ⟨Or.inr (by decide), by decide⟩
  have r32 : V33.1 146 32 = nI (g2 d n (b + 10 + 2 * k)) := by rw [e33, e32]; rfl
  have r29 : V33.1 146 29 = nI (gM d n b k) := by rw [e33, e32, e28]; rfl
  have r27 : V33.1 146 27 = nI e := by rw [e33, e32, e28]; exact (hK 146 27 (by decide)).trans h27
  clear e33 e32 e28
  rw [r32, r27]
  refine pt_let fun x34 h34 => ?_
  rw [show (2 : Int32) + nI (g2 d n (b + 10 + 2 * k)) = nI (2 + g2 d n (b + 10 + 2 * k)) from nI_add 2 _, nI_add, show b + 10 + 2 * k + (2 + g2 d n (b + 10 + 2 * k)) = b + 12 + 2 * k + g2 d n (b + 10 + 2 * k) by omega] at h34
  subst h34
  refine pt_ite (fun q2 => no _ (fun z => ?_)) (fun q2 => pt_ite (fun q3 => ?_) (fun q3 => no _ (fun z => ?_)))
  · have := (nI_ltI (a := 400) (by decide) (by omega)).mp q2
    obtain ⟨t, -, -, z3, -⟩ := z
    omega
  rotate_left
  · obtain ⟨t, -, -, -, z4, -⟩ := z
    exact q3 (nI_le z4 (by omega))
  have q2' := nI_nlt2 (a := 400) (b := g2 d n (b + 10 + 2 * k)) q2 (by omega)
  have q3' := (nI_leI (by omega) (by omega)).mp q3
  generalize hQ : b + 12 + 2 * k + g2 d n (b + 10 + 2 * k) = Q at *
  generalize hM : gM d n b k = m at *
  have sfl : SPv d n b e k → ∃ t, FLn d n Q m e t := fun z => by
    obtain ⟨t, -, -, -, -, z5, -⟩ := z
    rw [hQ, hM] at z5
    exact ⟨t, z5⟩
  refine pt_l3 (I := fun a1 a3 U => (∀ a i, a ≠ 156 → U.1 a i = V33.1 a i) ∧ ∃ t, a1 = nI (fP d n Q t) ∧ a3 = nI (fK d n Q t) ∧ fK d n Q t ≤ m ∧ fP d n Q t ≤ e ∧ (∀ j, j < t → fK d n Q j < m ∧ fP d n Q (j + 1) ≤ e ∧ fK d n Q (j + 1) ≤ m) ∧ ∀ i, i < fK d n Q t → U.1 156 i = nI (fF d n Q t i)) ?_ N _ _ V33 ⟨fun _ _ _ => rfl, 0, rfl, rfl, Nat.zero_le _, q3', fun j hj => by omega, fun i hi => absurd hi (Nat.not_lt_zero i)⟩
  rintro k2 ih2 b1 b3 U ⟨uK, t, rfl, rfl, hk, hP, ht, uF⟩
  have hU : FR d n U := ⟨h33.1, (uK 146 3 (by decide)).trans h33.2.1, fun j hj => (uK 148 j (by decide)).trans (h33.2.2 j hj)⟩
  have u29 : U.1 146 29 = nI m := (uK 146 29 (by decide)).trans r29
  have u27 : U.1 146 27 = nI e := (uK 146 27 (by decide)).trans r27
  have u32 : U.1 146 32 = nI (g2 d n (b + 10 + 2 * k)) := (uK 146 32 (by decide)).trans r32
  unfold B_X12_simple_135
  rw [u29, u27]
  refine pt_ite (fun q4 => ?_) (fun q4 => ?_)
  · have em : fK d n Q t = m := by
      have := (nI_leI (by omega) (by omega)).mp q4
      omega
    have hFL : FLn d n Q m e t := ⟨ht, em⟩
    have sp : SPv d n b e k ↔ fP d n Q t + csum (fF d n Q t) 2 16 m + csum (fF d n Q t) 4 32 m ≤ e := by
      constructor
      · rintro ⟨t', z1, z2, z3, z4, z5, z6⟩
        rw [hQ, hM] at z5 z6
        rw [FLn_u hFL z5]
        exact z6
      · intro z
        exact ⟨t, by omega, hj, q2', by rw [hQ]; exact q3', by rw [hQ, hM]; exact hFL, by rw [hQ, hM]; exact z⟩
    refine pt_bb (coord_r (f := fF d n Q t) hU he hP gm100 (Or.inl rfl) u29 u27 (fun i hi => uF i (by omega))) ?_
    rintro ⟨x11, V9⟩ ⟨hx, kx⟩
    dsimp only at hx kx ⊢
    have h9 : FR d n V9 := ⟨hU.1, (kx 146 3 (by decide)).trans hU.2.1, fun j hj => (kx 148 j (by decide)).trans (hU.2.2 j hj)⟩
    have g273 : ∀ (y : Int32) (X : sv_V), X.1 146 29 = nI m → X.1 146 32 = nI (g2 d n (b + 10 + 2 * k)) → (y = -1 ↔ ¬ SPv d n b e k) → Pt (fun q : Int32 × sv_V => IB q.1 (SPv d n b e k) ∧ (q.1 = 1 → q.2.1 146 29 = nI m ∧ q.2.1 146 32 = nI (g2 d n (b + 10 + 2 * k)))) (B_X12_simple_273 N y X) := fun y X x29 x32 hy => by
      unfold B_X12_simple_273
      exact pt_ite (fun q => no _ (hy.mp q)) (fun q => pt_some ⟨Or.inl ⟨rfl, nnx (fun z => q (hy.mpr z))⟩, fun _ => ⟨x29, x32⟩⟩)
    have cbx := csum_b (f := fF d n Q t) (x := 2) (y := 16) m
    have cby := csum_b (f := fF d n Q t) (x := 4) (y := 32) m
    have nm1 : ∀ x : Nat, x < 2 ^ 31 → ¬ nI x = (-1 : Int32) := fun x hx z => by
      have := nI_md.mp (show nI x = nI 4294967295 from z)
      omega
    by_cases c1 : fP d n Q t + csum (fF d n Q t) 2 16 m ≤ e
    · rw [if_pos c1] at hx
      subst hx
      refine pt_ite (fun z => absurd z (nm1 _ (by omega))) (fun _ => ?_)
      refine pt_bb (coord_r (f := fF d n Q t) h9 he c1 gm100 (Or.inr rfl) ((kx 146 29 (by decide)).trans u29) ((kx 146 27 (by decide)).trans u27) (fun i hi => (kx 156 i (by decide)).trans (uF i (by omega)))) ?_
      rintro ⟨x15, V13⟩ ⟨hy, ky⟩
      dsimp only at hy ky ⊢
      refine g273 _ _ ((ky 146 29 (by decide)).trans ((kx 146 29 (by decide)).trans u29)) ((ky 146 32 (by decide)).trans ((kx 146 32 (by decide)).trans u32)) ?_
      rw [sp, hy]
      by_cases c2 : fP d n Q t + csum (fF d n Q t) 2 16 m + csum (fF d n Q t) 4 32 m ≤ e
      · rw [if_pos c2]
        exact iff_of_false (nm1 _ (by omega)) (fun z => z c2)
      · rw [if_neg c2]
        exact iff_of_true rfl c2
    · rw [if_neg c1] at hx
      subst hx
      refine pt_ite (fun _ => ?_) (fun z => absurd rfl z)
      exact g273 _ _ ((kx 146 29 (by decide)).trans u29) ((kx 146 32 (by decide)).trans u32) (iff_of_true rfl (fun z => by have := sp.mp z; omega))
  have hkm : fK d n Q t < m := nI_nle2 q4 (by omega)
  have fwb := fW_b (d := d) (n := n) (p := fP d n Q t)
  have bad : ∀ X, ¬ (fP d n Q (t + 1) ≤ e ∧ fK d n Q (t + 1) ≤ m) → Pt (fun q : Int32 × sv_V => IB q.1 (SPv d n b e k) ∧ (q.1 = 1 → q.2.1 146 29 = nI m ∧ q.2.1 146 32 = nI (g2 d n (b + 10 + 2 * k)))) (some (0, X)) := fun X z => no _ (fun y => FL_no hkm z (sfl y))
  refine pt_ite (fun q5 => ?_) (fun q5 => bad _ (fun z => q5 (nI_lt (by rw [fP_s] at z; omega) (by omega))))
  have q5' := (nI_ltI (by omega) (by omega)).mp q5
  have g194 : ∀ mo : Nat, mo = fMo d n (fP d n Q t) → fP d n Q (t + 1) ≤ e → Pt (fun q : Int32 × sv_V => IB q.1 (SPv d n b e k) ∧ (q.1 = 1 → q.2.1 146 29 = nI m ∧ q.2.1 146 32 = nI (g2 d n (b + 10 + 2 * k)))) (B_X12_simple_194 N k2 (nI (fP d n Q (t + 1))) (nI (fK d n Q t)) (nI (g1 d n (fP d n Q t))) (nI mo) U) := fun mo hmo hpe => by
    have mb := fMo_b (d := d) (n := n) (p := fP d n Q t)
    subst hmo
    unfold B_X12_simple_194
    rw [nI_1, nI_add, u29]
    refine pt_ite (fun q6 => ?_) (fun q6 => bad _ (fun z => q6 (nI_le (by rw [fK_s] at z; omega) (by omega))))
    have q6' := (nI_leI (by omega) (by omega)).mp q6
    refine pt_l6 (I := fun c1 c3 c4 c5 c6 X => c1 = nI (fP d n Q (t + 1)) ∧ c4 = nI (g1 d n (fP d n Q t)) ∧ c5 = nI (fMo d n (fP d n Q t)) ∧ ∃ j, c6 = nI j ∧ c3 = nI (fK d n Q t + j) ∧ j ≤ fMo d n (fP d n Q t) + 1 ∧ (∀ a i, a ≠ 156 → X.1 a i = V33.1 a i) ∧ (∀ i, i < fK d n Q t → X.1 156 i = nI (fF d n Q t i)) ∧ ∀ i, fK d n Q t ≤ i → i < fK d n Q t + j → X.1 156 i = nI (g1 d n (fP d n Q t))) ?_ N _ _ _ _ _ U ⟨rfl, rfl, rfl, 0, rfl, rfl, Nat.zero_le _, uK, uF, fun i a b => by omega⟩
    rintro k3 ih3 c1 c3 c4 c5 c6 X ⟨rfl, rfl, rfl, j, rfl, rfl, jl, xK, xF, xj⟩
    unfold B_X12_simple_212
    refine pt_ite (fun q7 => ?_) (fun q7 => ?_)
    · have q7' := (nI_ltI (by omega) (by omega)).mp q7
      have ej : j = fMo d n (fP d n Q t) + 1 := by omega
      refine ih2 _ _ _ ⟨xK, t + 1, rfl, by rw [fK_s, ej, Nat.add_assoc], by rw [fK_s]; omega, hpe, fun i hi => ?_, fun i hi => ?_⟩
      · rcases Nat.lt_or_ge i t with z | z
        · exact ht i z
        · have ei : i = t := by omega
          subst ei
          exact ⟨hkm, hpe, by rw [fK_s]; omega⟩
      · rw [fF_s]
        rw [fK_s] at hi
        by_cases z : fK d n Q t ≤ i
        · rw [if_pos z]
          exact xj i z (by omega)
        · rw [if_neg z]
          exact xF i (by omega)
    · have q7' := nI_nlt2 q7 (by omega)
      rw [nI_clamp (by omega)]
      refine pt_g fun _ => pt_let fun X5 e5 => pt_let fun x4 hx4 => pt_let fun x6 hx6 => ih3 _ _ _ _ _ _ ⟨rfl, rfl, rfl, j + 1, by rw [hx6, nI_1], by rw [hx4, nI_1, Nat.add_assoc], by omega, fun a i z => ?_, fun i hi => ?_, fun i a b => ?_⟩
      · rw [e5, vI_cell _ _ _ _ z]
        exact xK a i z
      · rw [e5, vI_place _ _ _ (by omega)]
        exact xF i hi
      · rw [e5]
        by_cases z : i = fK d n Q t + j
        · rw [z, vI_same]
        · rw [vI_place _ _ _ z]
          exact xj i a (by omega)
  rw [u1_r hU (by omega), Option.bind_some]
  dsimp only
  refine pt_let fun x20 h20 => ?_
  rw [nI_1] at h20
  subst h20
  refine pt_ite (fun q6 => ?_) (fun q6 => ?_)
  · have ew : fW d n (fP d n Q t) = 1 := if_pos q6
    have em : fMo d n (fP d n Q t) = 0 := if_pos q6
    have := g194 0 em.symm (by rw [fP_s, ew]; omega)
    rw [fP_s, ew] at this
    exact this
  · have ew : fW d n (fP d n Q t) = 2 := if_neg q6
    have em : fMo d n (fP d n Q t) = g1 d n (fP d n Q t + 1) := if_neg q6
    rw [u27]
    refine pt_ite (fun q7 => ?_) (fun q7 => bad _ (fun z => q7 (nI_lt (by rw [fP_s, ew] at z; omega) (by omega))))
    have q7' := (nI_ltI (by omega) (by omega)).mp q7
    rw [u1_r hU (by omega), Option.bind_some]
    dsimp only
    refine pt_let fun x26 h26' => ?_
    rw [nI_1] at h26'
    subst h26'
    have := g194 _ em.symm (by rw [fP_s, ew]; omega)
    rw [fP_s, ew] at this
    exact this
end RS
end
section
/-! 11 GLYPHS: the reference reads parts -/
def CSx (d : Nat → Int32) (n b e k m : Nat) (W : sv_V) : Prop := FR d n W ∧ W.1 146 12 = nI (glO d n) ∧ W.1 146 27 = nI e ∧ W.1 146 32 = 0 ∧ W.1 146 30 = nI k ∧ ∀ j, j < m → W.1 158 j = nI (g2 d n (pos d n b j + 2))
section RC
variable {d : Nat → Int32} {n N b e k m : Nat} {V W : sv_V}
theorem CSx_e (h : CSx d n b e k m V) (q : ∀ a i, W.1 a i = V.1 a i) : CSx d n b e k m W := ⟨⟨h.1.1, (q _ _).trans h.1.2.1, fun j hj => (q _ _).trans (h.1.2.2 j hj)⟩, (q _ _).trans h.2.1, (q _ _).trans h.2.2.1, (q _ _).trans h.2.2.2.1, (q _ _).trans h.2.2.2.2.1, fun j hj => (q _ _).trans (h.2.2.2.2.2 j hj)⟩
theorem CSx_w (h : CSx d n b e k m V) {a i : Nat} {x : Int32} (q : W = sv_I V a i x) (ha : a = 157 ∨ a = 159 ∨ a = 160 ∨ a = 161) : CSx d n b e k m W := by
  subst q
  have c : ∀ c j, c = 146 ∨ c = 148 ∨ c = 158 → (sv_I V a i x).1 c j = V.1 c j := fun c j hc => vI_cell _ _ _ _ (by omega)
  exact ⟨⟨h.1.1, (c _ _ (by omega)).trans h.1.2.1, fun j hj => (c _ _ (by omega)).trans (h.1.2.2 j hj)⟩, (c _ _ (by omega)).trans h.2.1, (c _ _ (by omega)).trans h.2.2.1, (c _ _ (by omega)).trans h.2.2.2.1, (c _ _ (by omega)).trans h.2.2.2.2.1, fun j hj => (c _ _ (by omega)).trans (h.2.2.2.2.2 j hj)⟩
variable {Q : Int32 × sv_V → Prop} {kk : Int32 → Int32 → Int32 → sv_V → Option (Int32 × sv_V)}
def HKK (d : Nat → Int32) (n b e k : Nat) (Q : Int32 × sv_V → Prop) (kk : Int32 → Int32 → Int32 → sv_V → Option (Int32 × sv_V)) : Prop := ∀ (s : Int32) (U : sv_V), CSx d n b e (k + 1) (k + 1) U → (s = 0 ∧ nI (g2 d n (pos d n b k)) &&& 32 = 0) ∨ (s = 1 ∧ ¬ nI (g2 d n (pos d n b k)) &&& 32 = 0) → Pt Q (kk (nI (pos d n b (k + 1))) s (nI (g2 d n (pos d n b k))) U)
theorem c468 {P s1 s2 : _} (hk : k < 8) (hP : P + 2 * pS (g2 d n (pos d n b k)) = pos d n b (k + 1)) (H : HKK d n b e k Q kk) (h : CSx d n b e k (k + 1) V) : Pt Q (B_X12_composed_468 N kk (nI P) (nI (g2 d n (pos d n b k))) (nI (pS (g2 d n (pos d n b k)))) s1 s2 V) := by
  unfold B_X12_composed_468
  refine pt_g fun _ => pt_let fun V2 e2 => pt_let fun x3 e3 => pt_let fun V4 e4 => ?_
  have h2 := CSx_w h e2 (by omega)
  rw [show (2 : Int32) * nI (pS (g2 d n (pos d n b k))) = nI (2 * pS (g2 d n (pos d n b k))) from pk_mul 2 _, nI_add, hP] at e3
  subst e3
  rw [h2.2.2.2.2.1, nI_1] at e4
  have h4 : CSx d n b e (k + 1) (k + 1) V4 := by
    subst e4
    exact ⟨FR_I h2.1 ⟨Or.inr (by decide), by decide⟩, h2.2.1, h2.2.2.1, h2.2.2.2.1, rfl, fun j hj => (vI_cell _ _ _ _ (by decide)).trans (h2.2.2.2.2.2 j hj)⟩
  refine pt_ite (fun q => ?_) (fun q => ?_)
  · unfold B_X12_composed_498
    exact H 0 V4 h4 (Or.inl ⟨rfl, q⟩)
  · unfold B_X12_composed_498
    exact H 1 V4 h4 (Or.inr ⟨rfl, q⟩)
theorem c440 {P l4 s1 s2 : _} (hk : k < 8) (hP : P + 2 * pS (g2 d n (pos d n b k)) = pos d n b (k + 1)) (H : HKK d n b e k Q kk) (h : CSx d n b e k (k + 1) V) : Pt Q (B_X12_composed_440 N kk (nI P) (nI (g2 d n (pos d n b k))) l4 (nI (pS (g2 d n (pos d n b k)))) s1 s2 V) := by
  unfold B_X12_composed_440
  refine pt_g fun _ => pt_let fun V2 e2 => ?_
  have h2 := CSx_w h e2 (by omega)
  refine pt_ite (fun _ => pt_b fun z hz => ?_) (fun _ => c468 hk hP H h2)
  obtain ⟨x, U⟩ := z
  exact c468 hk hP H (CSx_e h2 (fun a i => (m_X12_s2 sv_sub_rf hz a i rfl).1))
theorem c412 {P l4 s1 s2 : _} (hk : k < 8) (hP : P + 2 * pS (g2 d n (pos d n b k)) = pos d n b (k + 1)) (H : HKK d n b e k Q kk) (h : CSx d n b e k (k + 1) V) : Pt Q (B_X12_composed_412 N kk (nI P) (nI (g2 d n (pos d n b k))) l4 (nI (pS (g2 d n (pos d n b k)))) s1 s2 V) := by
  unfold B_X12_composed_412
  refine pt_g fun _ => pt_let fun V2 e2 => ?_
  have h2 := CSx_w h e2 (by omega)
  refine pt_ite (fun _ => pt_b fun z hz => ?_) (fun _ => c440 hk hP H h2)
  obtain ⟨x, U⟩ := z
  exact c440 hk hP H (CSx_e h2 (fun a i => (m_X12_s2 sv_sub_rf hz a i rfl).1))
theorem c352 {P l4 s1 s2 : _} (hk : k < 8) (hP : P + 2 * pS (g2 d n (pos d n b k)) = pos d n b (k + 1)) (H : HKK d n b e k Q kk) (h : CSx d n b e k (k + 1) V) : Pt Q (B_X12_composed_352 N kk (nI P) (nI (g2 d n (pos d n b k))) l4 (nI (pS (g2 d n (pos d n b k)))) s1 s2 V) := by
  unfold B_X12_composed_352
  refine pt_g fun _ => pt_let fun V2 e2 => ?_
  have h2 := CSx_w h e2 (by omega)
  refine pt_ite (fun _ => c412 hk hP H h2) (fun _ => pt_ite (fun _ => pt_b fun z hz => ?_) (fun _ => pt_ite (fun _ => pt_b fun z hz => ?_) (fun _ => pt_b fun z hz => ?_)))
  · obtain ⟨x, U⟩ := z
    exact c412 hk hP H (CSx_e h2 (fun a i => (m_X12_s2 sv_sub_rf hz a i rfl).1))
  · obtain ⟨x, U⟩ := z
    exact c412 hk hP H (CSx_e h2 (fun a i => (m_X12_s2 sv_sub_rf hz a i rfl).1))
  · obtain ⟨x, U⟩ := z
    exact c412 hk hP H (CSx_e h2 (fun a i => (m_X12_s2 sv_sub_rf hz a i rfl).1))
theorem c298 {P w : Nat} {l4 : Int32} (hk : k < 8) (hP : P + w + 2 * pS (g2 d n (pos d n b k)) = pos d n b (k + 1)) (H : HKK d n b e k Q kk) (h : CSx d n b e k (k + 1) V) : Pt Q (B_X12_composed_298 N kk (nI (g2 d n (pos d n b k))) l4 (nI (pS (g2 d n (pos d n b k)))) (nI P) (nI w) V) := by
  unfold B_X12_composed_298
  refine pt_let fun x40 e40 => ?_
  rw [nI_add] at e40
  subst e40
  refine pt_l6 (I := fun a1 a3 a4 a7 _ U => a1 = nI (P + w) ∧ a3 = nI (g2 d n (pos d n b k)) ∧ a4 = l4 ∧ a7 = nI (pS (g2 d n (pos d n b k))) ∧ CSx d n b e k (k + 1) U) ?_ N _ _ _ _ _ V ⟨rfl, rfl, rfl, rfl, h⟩
  rintro k2 ih a1 a3 a4 a7 a8 U ⟨rfl, rfl, rfl, rfl, hU⟩
  unfold B_X12_composed_303
  refine pt_ite (fun _ => pt_ite (fun _ => c352 hk hP H hU) (fun _ => pt_b fun z hz => ?_)) (fun _ => pt_g fun _ => pt_let fun V38 e38 => pt_let fun x39 _ => ih _ _ _ _ _ _ ⟨rfl, rfl, rfl, rfl, CSx_w hU e38 (by omega)⟩)
  obtain ⟨x, X⟩ := z
  exact c352 hk hP H (CSx_e hU (fun a i => (m_X12_s2 sv_sub_rf hz a i rfl).1))
theorem c286 {P : Nat} {l4 l5 s1 s2 : Int32} (hk : k < 8) (hl : (l5 = 0 ∧ pW (g2 d n (pos d n b k)) = 2) ∨ (l5 = 1 ∧ pW (g2 d n (pos d n b k)) = 4)) (hP : P + pW (g2 d n (pos d n b k)) + 2 * pS (g2 d n (pos d n b k)) = pos d n b (k + 1)) (H : HKK d n b e k Q kk) (h : CSx d n b e k (k + 1) V) : Pt Q (B_X12_composed_286 N kk (nI P) (nI (g2 d n (pos d n b k))) l4 l5 (nI (pS (g2 d n (pos d n b k)))) s1 s2 V) := by
  unfold B_X12_composed_286
  refine pt_g fun _ => pt_let fun V2 e2 => ?_
  have h2 := CSx_w h e2 (by omega)
  refine pt_ite (fun q => ?_) (fun q => ?_)
  · have ew : pW (g2 d n (pos d n b k)) = 2 := by
      rcases hl with z | z
      · exact z.2
      · rw [z.1] at q
        exact absurd q (by decide)
    rw [ew] at hP
    exact c298 (w := 2) hk hP H h2
  · have ew : pW (g2 d n (pos d n b k)) = 4 := by
      rcases hl with z | z
      · exact absurd z.1 q
      · exact z.2
    rw [ew] at hP
    exact c298 (w := 4) hk hP H h2
theorem c227 {P : Nat} {l4 l5 l6 s1 s2 : Int32} (hk : k < 8) (hl : (l5 = 0 ∧ pW (g2 d n (pos d n b k)) = 2) ∨ (l5 = 1 ∧ pW (g2 d n (pos d n b k)) = 4)) (hP : P + pW (g2 d n (pos d n b k)) + 2 * pS (g2 d n (pos d n b k)) = pos d n b (k + 1)) (H : HKK d n b e k Q kk) (h : CSx d n b e k (k + 1) V) : Pt Q (B_X12_composed_227 N kk (nI P) (nI (g2 d n (pos d n b k))) l4 l5 l6 (nI (pS (g2 d n (pos d n b k)))) s1 s2 V) := by
  unfold B_X12_composed_227
  refine pt_g fun _ => pt_let fun V2 e2 => ?_
  have h2 := CSx_w h e2 (by omega)
  refine pt_ite (fun _ => pt_ite (fun _ => pt_b fun z hz => ?_) (fun _ => pt_b fun z hz => ?_)) (fun _ => pt_ite (fun _ => pt_b fun z hz => ?_) (fun _ => pt_b fun z hz => ?_))
  · obtain ⟨x, U⟩ := z
    exact c286 hk hl hP H (CSx_e h2 (fun a i => (m_X12_u1 sv_sub_rf hz a i rfl).1))
  · obtain ⟨x, U⟩ := z
    exact c286 hk hl hP H (CSx_e h2 (fun a i => (m_X12_s1 sv_sub_rf hz a i rfl).1))
  · obtain ⟨x, U⟩ := z
    exact c286 hk hl hP H (CSx_e h2 (fun a i => (m_X12_u2 sv_sub_rf hz a i rfl).1))
  · obtain ⟨x, U⟩ := z
    exact c286 hk hl hP H (CSx_e h2 (fun a i => (m_X12_s2 sv_sub_rf hz a i rfl).1))
theorem c162 {P : Nat} {l4 l5 l6 s1 : Int32} (hk : k < 8) (hbig : P < 100000) (hee : e < 100000) (hl : (l5 = 0 ∧ pW (g2 d n (pos d n b k)) = 2) ∨ (l5 = 1 ∧ pW (g2 d n (pos d n b k)) = 4)) (hs : s1 = nI (pW (g2 d n (pos d n b k)))) (hP : P + pW (g2 d n (pos d n b k)) + 2 * pS (g2 d n (pos d n b k)) = pos d n b (k + 1)) (hno : ¬ pos d n b (k + 1) ≤ e → ∀ U, Q (0, U)) (H : pos d n b (k + 1) ≤ e → HKK d n b e k Q kk) (h : CSx d n b e k (k + 1) V) : Pt Q (B_X12_composed_162 N kk (nI P) (nI (g2 d n (pos d n b k))) l4 l5 l6 (nI (pS (g2 d n (pos d n b k)))) (nI P) s1 V) := by
  subst hs
  have w := pW_b (f := g2 d n (pos d n b k))
  have s := pS_b (f := g2 d n (pos d n b k))
  unfold B_X12_composed_162
  rw [nI_add, show (2 : Int32) * nI (pS (g2 d n (pos d n b k))) = nI (2 * pS (g2 d n (pos d n b k))) from pk_mul 2 _, nI_add, hP, h.2.2.1]
  refine pt_ite (fun q => ?_) (fun q => pt_some (hno (fun z => q (nI_le z (by omega))) _))
  have q' := (nI_leI (by omega) (by omega)).mp q
  have H' := H q'
  refine pt_ite (fun _ => pt_ite (fun _ => pt_b fun z hz => ?_) (fun _ => pt_b fun z hz => ?_)) (fun _ => pt_ite (fun _ => pt_b fun z hz => ?_) (fun _ => pt_b fun z hz => ?_))
  · obtain ⟨x, U⟩ := z
    exact c227 hk hl hP H' (CSx_e h (fun a i => (m_X12_u1 sv_sub_rf hz a i rfl).1))
  · obtain ⟨x, U⟩ := z
    exact c227 hk hl hP H' (CSx_e h (fun a i => (m_X12_s1 sv_sub_rf hz a i rfl).1))
  · obtain ⟨x, U⟩ := z
    exact c227 hk hl hP H' (CSx_e h (fun a i => (m_X12_u2 sv_sub_rf hz a i rfl).1))
  · obtain ⟨x, U⟩ := z
    exact c227 hk hl hP H' (CSx_e h (fun a i => (m_X12_s2 sv_sub_rf hz a i rfl).1))
theorem comp_r (h : FR d n V) (he : e ≤ n) (hb : b + 10 ≤ e) (gl2 : glO d n ≤ 200) (h26 : V.1 146 26 = nI b) (h27 : V.1 146 27 = nI e) (h12 : V.1 146 12 = nI (glO d n)) (h30 : V.1 146 30 = 0) (h32 : V.1 146 32 = 0) : Pt (fun q : Int32 × sv_V => IB q.1 (CPv d n b e) ∧ (q.1 = 1 → ∃ m, CPn d n b e m ∧ q.2.1 146 30 = nI m ∧ q.2.1 146 32 = nI (if nI (g2 d n (pos d n b (m - 1))) &&& 256 = 0 then 0 else g2 d n (pos d n b m)) ∧ ∀ k, k < m → q.2.1 158 k = nI (g2 d n (pos d n b k + 2)))) (F_X12_composed N V) := by
  have hn := h.1
  have no : ∀ U, ¬ CPv d n b e → Pt (fun q : Int32 × sv_V => IB q.1 (CPv d n b e) ∧ (q.1 = 1 → ∃ m, CPn d n b e m ∧ q.2.1 146 30 = nI m ∧ q.2.1 146 32 = nI (if nI (g2 d n (pos d n b (m - 1))) &&& 256 = 0 then 0 else g2 d n (pos d n b m)) ∧ ∀ k, k < m → q.2.1 158 k = nI (g2 d n (pos d n b k + 2)))) (some (0, U)) := fun U z => pt_some ⟨Or.inr ⟨rfl, z⟩, fun e => absurd e (show ¬ (0 : Int32) = 1 by decide)⟩
  unfold F_X12_composed
  refine pt_let fun x109 e109 => ?_
  rw [h26, show nI b + (10 : Int32) = nI (b + 10) from nI_add b 10] at e109
  subst e109
  refine pt_l4 (I := fun a1 a2 a3 W => (a2 = 1 ∧ ∃ k, k ≤ 8 ∧ a1 = nI (pos d n b k) ∧ CSx d n b e k k W ∧ ∀ j, j < k → CPk d n b e j ∧ ¬ nI (g2 d n (pos d n b j)) &&& 32 = 0) ∨ (a2 = 0 ∧ ∃ m, CPn d n b e m ∧ a1 = nI (pos d n b m) ∧ a3 = nI (g2 d n (pos d n b (m - 1))) ∧ CSx d n b e m m W)) ?_ N _ _ _ V (Or.inl ⟨rfl, 0, by decide, rfl, ⟨h, h12, h27, h32, h30, fun j hj => by omega⟩, fun j hj => by omega⟩)
  rintro kk ih a1 a2 a3 W (⟨rfl, k, k8, rfl, hC, hj⟩ | ⟨rfl, m, cpn, rfl, rfl, hC⟩)
  rotate_left
  · unfold B_X12_composed_12
    refine pt_ite (fun _ => ?_) (fun z => absurd rfl z)
    have p8 := pos_le (d := d) (n := n) (b := b) m
    have m8 := cpn.2.1
    have a0 := g2_lt (d := d) (n := n) (P := pos d n b m)
    refine pt_ite (fun q => pt_some ⟨Or.inl ⟨rfl, m, cpn, Or.inl q⟩, fun _ => ⟨m, cpn, hC.2.2.2.2.1, ?_, hC.2.2.2.2.2⟩⟩) (fun q => ?_)
    · show W.1 146 32 = _
      rw [if_pos q]
      exact hC.2.2.2.1
    have nq : ¬ (pos d n b m + 2 ≤ e ∧ g2 d n (pos d n b m) ≤ 400 ∧ pos d n b m + 2 + g2 d n (pos d n b m) ≤ e) → ¬ CPv d n b e := fun z y => by
      obtain ⟨m', y1, y2⟩ := y
      have em := CPn_u y1 cpn
      subst em
      exact z (y2.resolve_left q)
    rw [show nI (pos d n b m) + (2 : Int32) = nI (pos d n b m + 2) from nI_add _ 2, hC.2.2.1]
    refine pt_ite (fun q1 => ?_) (fun q1 => no _ (nq fun z => q1 (nI_le z.1 (by omega))))
    have q1' := (nI_leI (by omega) (by omega)).mp q1
    rw [u2_r hC.1 (by omega), Option.bind_some]
    dsimp only
    refine pt_let fun V90 e90 => pt_let fun V91 e91 => ?_
    have r32 : V91.1 146 32 = nI (g2 d n (pos d n b m)) := by rw [e91, e90]; rfl
    have r31 : V91.1 146 31 = nI (pos d n b m + 2) := by rw [e91]; rfl
    have r27 : V91.1 146 27 = nI e := by rw [e91, e90]; exact hC.2.2.1
    have r30 : V91.1 146 30 = nI m := by rw [e91, e90]; exact hC.2.2.2.2.1
    have r158 : ∀ j, V91.1 158 j = W.1 158 j := fun j => by rw [e91, e90, vI_cell _ _ _ _ (by decide), vI_cell _ _ _ _ (by decide)]
    rw [r32, r31, r27, nI_add]
    refine pt_ite (fun q2 => no _ (nq fun z => ?_)) (fun q2 => pt_ite (fun q3 => ?_) (fun q3 => no _ (nq fun z => q3 (nI_le z.2.2 (by omega)))))
    · have := (nI_ltI (a := 400) (by decide) (by omega)).mp q2
      omega
    · have q2' := nI_nlt2 (a := 400) (b := g2 d n (pos d n b m)) q2 (by omega)
      have q3' := (nI_leI (by omega) (by omega)).mp q3
      refine pt_some ⟨Or.inl ⟨rfl, m, cpn, Or.inr ⟨q1', q2', q3'⟩⟩, fun _ => ⟨m, cpn, r30, ?_, fun j hj => (r158 j).trans (hC.2.2.2.2.2 j hj)⟩⟩
      rw [if_neg q]
      exact r32
  have most : ∀ m, CPn d n b e m → k < m := fun m z => by
    rcases Nat.lt_or_ge k m with y | y
    · exact y
    · exact absurd z.2.2.2.2 (hj (m - 1) (by have := z.1; omega)).2
  have p8 := pos_le (d := d) (n := n) (b := b) k
  unfold B_X12_composed_12
  refine pt_ite (fun z => absurd z (show ¬ (1 : Int32) = 0 by decide)) (fun _ => ?_)
  rw [hC.2.2.2.2.1]
  refine pt_ite (fun q => no _ (fun z => ?_)) (fun q => ?_)
  · have ek := (nI_eq (b := 8) (by omega) (by decide)).mp q
    obtain ⟨m, z1, -⟩ := z
    have := most m z1
    have := z1.2.1
    omega
  have hk8 : k < 8 := by
    have : ¬ k = 8 := fun z => q (by rw [z]; rfl)
    omega
  have w := pW_b (f := g2 d n (pos d n b k))
  have nk : ¬ CPk d n b e k → ¬ CPv d n b e := fun z y => by
    obtain ⟨m, y1, -⟩ := y
    exact z (y1.2.2.1 k (most m y1))
  rw [show nI (pos d n b k) + (4 : Int32) = nI (pos d n b k + 4) from nI_add _ 4, hC.2.2.1]
  refine pt_ite (fun q1 => ?_) (fun q1 => no _ (nk fun z => q1 (nI_le (by have := z.2; rw [pos_s] at this; omega) (by omega))))
  have q1' := (nI_leI (by omega) (by omega)).mp q1
  rw [u2_r hC.1 (by omega), Option.bind_some]
  dsimp only
  rw [hC.2.2.2.2.1]
  refine pt_let fun x99 e99 => ?_
  subst e99
  rw [nI_clamp (by omega)]
  refine pt_g fun _ => pt_let fun V101 e101 => ?_
  have h101 := CSx_w hC e101 (by omega)
  rw [show nI (pos d n b k) + (2 : Int32) = nI (pos d n b k + 2) from nI_add _ 2, u2_r h101.1 (by omega), Option.bind_some]
  dsimp only
  refine pt_g fun _ => pt_let fun V106 e106 => pt_let fun x107 e107 => ?_
  subst e107
  have h106 : CSx d n b e k (k + 1) V106 := by
    subst e106
    have c : ∀ c j, c ≠ 158 → (sv_I V101 158 k (nI (g2 d n (pos d n b k + 2)))).1 c j = V101.1 c j := fun c j hc => vI_cell _ _ _ _ hc
    refine ⟨⟨h101.1.1, (c _ _ (by decide)).trans h101.1.2.1, fun j hj => (c _ _ (by decide)).trans (h101.1.2.2 j hj)⟩, (c _ _ (by decide)).trans h101.2.1, (c _ _ (by decide)).trans h101.2.2.1, (c _ _ (by decide)).trans h101.2.2.2.1, (c _ _ (by decide)).trans h101.2.2.2.2.1, fun j hj => ?_⟩
    by_cases z : j = k
    · rw [z, vI_same]
    · rw [vI_place _ _ _ z]
      exact h101.2.2.2.2.2 j (by omega)
  clear e106 h101 e101
  have a2 := g2_lt (d := d) (n := n) (P := pos d n b k + 2)
  have g135 : ∀ l5 l6 : Int32, (l5 = 0 ∧ pW (g2 d n (pos d n b k)) = 2) ∨ (l5 = 1 ∧ pW (g2 d n (pos d n b k)) = 4) → ∀ s, s = nI (pS (g2 d n (pos d n b k))) → Pt (fun q : Int32 × sv_V => IB q.1 (CPv d n b e) ∧ (q.1 = 1 → ∃ m, CPn d n b e m ∧ q.2.1 146 30 = nI m ∧ q.2.1 146 32 = nI (if nI (g2 d n (pos d n b (m - 1))) &&& 256 = 0 then 0 else g2 d n (pos d n b m)) ∧ ∀ k, k < m → q.2.1 158 k = nI (g2 d n (pos d n b k + 2)))) (B_X12_composed_135 N kk (nI (pos d n b k + 4)) (nI (g2 d n (pos d n b k))) (nI k) l5 l6 s V106) := fun l5 l6 hl s hs => by
    subst hs
    unfold B_X12_composed_135
    rw [h106.2.1, nI_clamp (by omega), h106.2.2.2.2.2 k (by omega)]
    refine pt_g fun _ => pt_ite (fun q2 => no _ (nk fun z => ?_)) (fun q2 => ?_)
    · have := (nI_leI (by omega) (by omega)).mp q2
      have := z.1
      omega
    have q2' : g2 d n (pos d n b k + 2) < glO d n := nI_nle2 q2 (by omega)
    have HH : pos d n b (k + 1) ≤ e → HKK d n b e k (fun q : Int32 × sv_V => IB q.1 (CPv d n b e) ∧ (q.1 = 1 → ∃ m, CPn d n b e m ∧ q.2.1 146 30 = nI m ∧ q.2.1 146 32 = nI (if nI (g2 d n (pos d n b (m - 1))) &&& 256 = 0 then 0 else g2 d n (pos d n b m)) ∧ ∀ k, k < m → q.2.1 158 k = nI (g2 d n (pos d n b k + 2)))) kk := fun hpe s U hU hs => by
      rcases hs with ⟨rfl, hs⟩ | ⟨rfl, hs⟩
      · exact ih _ _ _ _ (Or.inr ⟨rfl, k + 1, ⟨by omega, by omega, fun j hj' => by
          rcases Nat.lt_or_ge j k with y | y
          · exact (hj j y).1
          · have ej : j = k := by omega
            subst ej
            exact ⟨q2', hpe⟩, fun j hj' => (hj j (by omega)).2, hs⟩, rfl, rfl, hU⟩)
      · refine ih _ _ _ _ (Or.inl ⟨rfl, k + 1, by omega, rfl, hU, fun j hj' => ?_⟩)
        rcases Nat.lt_or_ge j k with y | y
        · exact hj j y
        · have ej : j = k := by omega
          subst ej
          exact ⟨⟨q2', hpe⟩, hs⟩
    have hno : ¬ pos d n b (k + 1) ≤ e → ∀ U, (fun q : Int32 × sv_V => IB q.1 (CPv d n b e) ∧ (q.1 = 1 → ∃ m, CPn d n b e m ∧ q.2.1 146 30 = nI m ∧ q.2.1 146 32 = nI (if nI (g2 d n (pos d n b (m - 1))) &&& 256 = 0 then 0 else g2 d n (pos d n b m)) ∧ ∀ k, k < m → q.2.1 158 k = nI (g2 d n (pos d n b k + 2)))) (0, U) := fun z U => ⟨Or.inr ⟨rfl, nk fun y => z y.2⟩, fun e => absurd e (show ¬ (0 : Int32) = 1 by decide)⟩
    refine pt_ite (fun q3 => ?_) (fun q3 => ?_)
    · have ew : pW (g2 d n (pos d n b k)) = 2 := by
        rcases hl with z | z
        · exact z.2
        · rw [z.1] at q3
          exact absurd q3 (by decide)
      exact c162 hk8 (by omega) (by omega) hl (by rw [ew]; rfl) rfl hno HH h106
    · have ew : pW (g2 d n (pos d n b k)) = 4 := by
        rcases hl with z | z
        · exact absurd z.1 q3
        · exact z.2
      exact c162 hk8 (by omega) (by omega) hl (by rw [ew]; rfl) rfl hno HH h106
  have g98 : ∀ l5 l6 : Int32, (l5 = 0 ∧ pW (g2 d n (pos d n b k)) = 2) ∨ (l5 = 1 ∧ pW (g2 d n (pos d n b k)) = 4) → Pt (fun q : Int32 × sv_V => IB q.1 (CPv d n b e) ∧ (q.1 = 1 → ∃ m, CPn d n b e m ∧ q.2.1 146 30 = nI m ∧ q.2.1 146 32 = nI (if nI (g2 d n (pos d n b (m - 1))) &&& 256 = 0 then 0 else g2 d n (pos d n b m)) ∧ ∀ k, k < m → q.2.1 158 k = nI (g2 d n (pos d n b k + 2)))) (B_X12_composed_98 N kk (nI (pos d n b k + 4)) (nI (g2 d n (pos d n b k))) (nI k) l5 l6 V106) := fun l5 l6 hl => by
    unfold B_X12_composed_98
    refine pt_ite (fun q2 => pt_ite (fun q3 => pt_ite (fun q4 => g135 _ _ hl _ ?_) (fun q4 => g135 _ _ hl _ ?_)) (fun q3 => g135 _ _ hl _ ?_)) (fun q2 => g135 _ _ hl _ ?_)
    · unfold pS
      rw [if_pos q2, if_pos q3, if_pos q4]
      rfl
    · unfold pS
      rw [if_pos q2, if_pos q3, if_neg q4]
      rfl
    · unfold pS
      rw [if_pos q2, if_neg q3]
      rfl
    · unfold pS
      rw [if_neg q2]
      rfl
  have g85 : ∀ l5 : Int32, (l5 = 0 ∧ pW (g2 d n (pos d n b k)) = 2) ∨ (l5 = 1 ∧ pW (g2 d n (pos d n b k)) = 4) → Pt (fun q : Int32 × sv_V => IB q.1 (CPv d n b e) ∧ (q.1 = 1 → ∃ m, CPn d n b e m ∧ q.2.1 146 30 = nI m ∧ q.2.1 146 32 = nI (if nI (g2 d n (pos d n b (m - 1))) &&& 256 = 0 then 0 else g2 d n (pos d n b m)) ∧ ∀ k, k < m → q.2.1 158 k = nI (g2 d n (pos d n b k + 2)))) (B_X12_composed_85 N kk (nI (pos d n b k + 4)) (nI (g2 d n (pos d n b k))) (nI k) l5 V106) := fun l5 hl => by
    unfold B_X12_composed_85
    exact pt_ite (fun _ => g98 _ _ hl) (fun _ => g98 _ _ hl)
  exact pt_ite (fun q2 => g85 0 (Or.inl ⟨rfl, if_pos q2⟩)) (fun q2 => g85 1 (Or.inr ⟨rfl, if_neg q2⟩))
end RC
end
section
/-! 11 GLYPHS: the reference's isGlyph and areWithin -/
def GFr (d : Nat → Int32) (n g : Nat) (W : sv_V) : Prop := W.1 146 26 = nI (GB d n g) ∧ W.1 146 27 = nI (GB d n (g + 1)) ∧ ((GB d n g = GB d n (g + 1) ∧ W.1 146 28 = 0 ∧ W.1 146 29 = 0 ∧ W.1 146 30 = 0 ∧ W.1 146 32 = 0) ∨ (GB d n g + 10 ≤ GB d n (g + 1) ∧ g2 d n (GB d n g) ≤ 12 ∧ W.1 146 28 = nI (g2 d n (GB d n g)) ∧ W.1 146 29 = nI (gM d n (GB d n g) (g2 d n (GB d n g))) ∧ W.1 146 30 = 0 ∧ W.1 146 32 = nI (g2 d n (GB d n g + 10 + 2 * g2 d n (GB d n g)))) ∨ (GB d n g + 10 ≤ GB d n (g + 1) ∧ g2 d n (GB d n g) = 65535 ∧ W.1 146 28 = -1 ∧ W.1 146 29 = 0 ∧ ∃ m, CPn d n (GB d n g) (GB d n (g + 1)) m ∧ W.1 146 30 = nI m ∧ W.1 146 32 = nI (if nI (g2 d n (pos d n (GB d n g) (m - 1))) &&& 256 = 0 then 0 else g2 d n (pos d n (GB d n g) m)) ∧ ∀ k, k < m → W.1 158 k = nI (g2 d n (pos d n (GB d n g) k + 2))))
section IG
variable {d : Nat → Int32} {n N g : Nat} {V : sv_V}
theorem RG_fr {md : List (Nat × Option Nat)} {W : sv_V} (h : RG d n V) (f : sv_eq md V W) (c : md.all (fun q => !(q.1 == 148 || q.1 == 149 || q.1 == 150 || q.1 == 151 || q.1 == 152 || (q.1 == 146 && (q.2 == none || q.2 == some 3 || q.2 == some 5)))) = true) (c11 : sv_hit md 146 11 = false) (c12 : sv_hit md 146 12 = false) : RG d n W := ⟨RB_fr h.1 f c, (f _ _ c11).1.trans h.2.1, (f _ _ c12).1.trans h.2.2⟩
theorem isg_r (h : RG d n V) (h1 : K1 d n) (h3 : K3 d n) (h10 : K10 d n) (hg : g < glO d n) (gl2 : glO d n ≤ 200) : Pt (fun q : Int32 × sv_V => IB q.1 (GH d n g) ∧ (q.1 = 1 → GFr d n g q.2)) (F_X12_isGlyph N (nI g) V) := by
  have hn := h.1.1.1
  obtain ⟨een, ele⟩ := GB_le h3 h10 hg
  have no : ∀ U, ¬ GH d n g → Pt (fun q : Int32 × sv_V => IB q.1 (GH d n g) ∧ (q.1 = 1 → GFr d n g q.2)) (some (0, U)) := fun U z => pt_some ⟨Or.inr ⟨rfl, z⟩, fun e => absurd e (show ¬ (0 : Int32) = 1 by decide)⟩
  unfold F_X12_isGlyph
  refine pt_bb (bytes_r h h1 h3 h10 hg gl2) ?_
  intro V1 ⟨hV1, r26, r27, r28, r29, r30, r32⟩
  rw [r26, r27]
  refine pt_ite (fun q => ?_) (fun q => ?_)
  · have q' := (nI_eq (by omega) (by omega)).mp q
    rw [if_pos q'] at r28
    exact pt_some ⟨Or.inl ⟨rfl, Or.inl q'⟩, fun _ => ⟨r26, r27, Or.inl ⟨q', r28, r29, r30, r32⟩⟩⟩
  have n0 : ¬ GB d n g = GB d n (g + 1) := fun z => q (by rw [z])
  rw [if_neg n0] at r28
  rw [pk_sub ele]
  refine pt_ite (fun q1 => ?_) (fun q1 => no _ (fun z => ?_))
  rotate_left
  · rcases z with z | ⟨z, -⟩
    · exact n0 z
    · exact q1 (nI_le (a := 10) (by omega) (by omega))
  have h10' : GB d n g + 10 ≤ GB d n (g + 1) := by
    have := (nI_leI (a := 10) (by decide) (by omega)).mp q1
    omega
  have a0 := g2_lt (d := d) (n := n) (P := GB d n g)
  have ghb : GH d n g ↔ ((g2 d n (GB d n g) ≤ 12 ∧ SPv d n (GB d n g) (GB d n (g + 1)) (g2 d n (GB d n g))) ∨ (g2 d n (GB d n g) = 65535 ∧ CPv d n (GB d n g) (GB d n (g + 1)))) := by
    unfold GH
    constructor
    · rintro (z | z)
      · exact absurd z n0
      · exact z.2
    · exact fun z => Or.inr ⟨h10', z⟩
  rw [r28, in16 (x := 0) (y := 12) (a := 0) (b := 12) a0 (by decide) (by decide) rfl rfl, Option.bind_some]
  dsimp only
  refine pt_ite (fun q2 => ?_) (fun q2 => ?_)
  · have q2' := ite_z.mp q2
    rw [r28]
    refine pt_ite (fun q3 => ?_) (fun q3 => no _ (fun y => ?_))
    · have c65 := (s16_m1 a0).mp q3
      refine pt_b fun z hz => ?_
      obtain ⟨x12, V10⟩ := z
      obtain ⟨hx, hy⟩ := comp_r hV1.1.1 een h10' gl2 r26 r27 hV1.2.2 r30 r32 _ hz
      have mm := m_X12_composed sv_sub_rf hz
      dsimp only at hx hy ⊢
      refine pt_ite (fun q4 => no _ (fun y => ?_)) (fun q4 => ?_)
      · rcases ghb.mp y with y | y
        · omega
        · exact hx.n q4 y.2
      · obtain ⟨m, m1, m2, m3, m4⟩ := hy (hx.o q4)
        exact pt_some ⟨Or.inl ⟨rfl, ghb.mpr (Or.inr ⟨c65, hx.y q4⟩)⟩, fun _ => ⟨(mm 146 26 rfl).1.trans r26, (mm 146 27 rfl).1.trans r27, Or.inr (Or.inr ⟨h10', c65, (mm 146 28 rfl).1.trans (r28.trans q3), (mm 146 29 rfl).1.trans r29, m, m1, m2, m3, m4⟩)⟩⟩
    · rcases ghb.mp y with y | y
      · exact q2' ⟨Nat.zero_le _, y.1⟩
      · exact q3 ((s16_m1 a0).mpr y.1)
  · have q2' := nnx (fun z => q2 (ite_z.mpr z))
    rw [s16_n (by omega)] at r28
    refine pt_b fun z hz => ?_
    obtain ⟨x16, V14⟩ := z
    obtain ⟨hx, hy⟩ := simple_r hV1.1.1 een h10' q2'.2 r26 r27 r28 _ hz
    have mm := m_X12_simple sv_sub_rf hz
    dsimp only at hx hy ⊢
    refine pt_g fun _ => pt_some ⟨?_, fun e => ?_⟩
    · rcases hx with ⟨e, z⟩ | ⟨e, z⟩
      · exact Or.inl ⟨e, ghb.mpr (Or.inl ⟨q2'.2, z⟩)⟩
      · refine Or.inr ⟨e, fun y => ?_⟩
        rcases ghb.mp y with y | y
        · exact z y.2
        · omega
    · obtain ⟨y1, y2⟩ := hy e
      exact ⟨(mm 146 26 rfl).1.trans r26, (mm 146 27 rfl).1.trans r27, Or.inr (Or.inl ⟨h10', q2'.2, (mm 146 28 rfl).1.trans r28, y1, (mm 146 30 rfl).1.trans r30, y2⟩)⟩
theorem GFr_p (h : GFr d n g V) : (¬ cmpd d n g ∧ ¬ V.1 146 28 = -1 ∧ V.1 146 30 = 0) ∨ (cmpd d n g ∧ V.1 146 28 = -1 ∧ ∃ m, CPn d n (GB d n g) (GB d n (g + 1)) m ∧ V.1 146 30 = nI m ∧ ∀ k, k < m → V.1 158 k = nI (g2 d n (pos d n (GB d n g) k + 2))) := by
  obtain ⟨-, -, ⟨z, e28, -, e30, -⟩ | ⟨z, z2, e28, -, e30, -⟩ | ⟨z, z2, e28, -, m, m1, m2, -, m3⟩⟩ := h
  · exact Or.inl ⟨fun x => x.1 z, by rw [e28]; decide, e30⟩
  · refine Or.inl ⟨fun x => by have := x.2; omega, fun y => ?_, e30⟩
    rw [e28] at y
    have := nI_md.mp (show nI _ = nI 4294967295 from y)
    omega
  · exact Or.inr ⟨⟨by omega, z2⟩, e28, m, m1, m2, m3⟩
theorem IB_1 {P : Prop} (h : P) : IB 1 P := Or.inl ⟨rfl, h⟩
theorem IB_0 {P : Prop} (h : ¬ P) : IB 0 P := Or.inr ⟨rfl, h⟩
theorem IB_i {x : Int32} {P R : Prop} (h : IB x P) (e : P ↔ R) : IB x R := by
  rcases h with ⟨a, b⟩ | ⟨a, b⟩
  · exact Or.inl ⟨a, e.mp b⟩
  · exact Or.inr ⟨a, fun z => b (e.mpr z)⟩
theorem within_r (h : RG d n V) (h1 : K1 d n) (h3 : K3 d n) (h10 : K10 d n) (gl2 : glO d n ≤ 200) (h19 : V.1 146 19 = nI (deO d n)) (de4 : deO d n ≤ 4) (hG : ∀ g, g < glO d n → GH d n g) : Pt (fun q : Int32 × sv_V => IB q.1 (DH d n)) (F_X12_areWithin N V) := by
  unfold F_X12_areWithin
  refine pt_l2 (I := fun a1 W => RG d n W ∧ W.1 146 19 = nI (deO d n) ∧ ∃ l, a1 = nI l ∧ l ≤ deO d n + 1 ∧ ∀ x, x < glO d n → 1 ≤ l → IB (W.1 162 x) (wI d n (l - 1) x)) ?_ N _ V ⟨h, h19, 0, rfl, Nat.zero_le _, fun x _ z => by omega⟩
  rintro kk ih a1 W ⟨hW, w19, l, rfl, ll, hX⟩
  unfold B_X12_areWithin_2
  rw [w19]
  refine pt_ite (fun q => ?_) (fun q => ?_)
  · have q' := (nI_ltI (by omega) (by omega)).mp q
    have el : l = deO d n + 1 := by omega
    subst el
    refine pt_l2 (I := fun a1 U => U = W ∧ ∃ g, a1 = nI g ∧ g ≤ glO d n ∧ ∀ x, x < g → wI d n (deO d n) x) ?_ N _ W ⟨rfl, 0, rfl, Nat.zero_le _, fun x hx => by omega⟩
    rintro k2 ih2 a1 U ⟨rfl, g, rfl, gl, hw⟩
    unfold B_X12_areWithin_152
    rw [hW.2.2]
    refine pt_ite (fun q1 => ?_) (fun q1 => ?_)
    · have eg : g = glO d n := by
        have := (nI_leI (by omega) (by omega)).mp q1
        omega
      subst eg
      exact pt_some (IB_1 hw)
    have hgl : g < glO d n := nI_nle2 q1 (by omega)
    have hx := hX g hgl (by omega)
    rw [nI_clamp (by omega)]
    refine pt_g fun _ => pt_ite (fun q2 => pt_some (IB_0 fun z => hx.n q2 (z g hgl))) (fun q2 => pt_let fun x32 hx32 => ih2 _ _ ⟨rfl, g + 1, by rw [hx32, nI_1], hgl, fun x hx' => ?_⟩)
    rcases Nat.lt_or_ge x g with y | y
    · exact hw x y
    · rw [show x = g by omega]
      exact hx.y q2
  have q' := nI_nlt2 q (by omega)
  refine pt_l3 (I := fun a1 a2 U => a1 = nI l ∧ RG d n U ∧ U.1 146 19 = nI (deO d n) ∧ (∀ x, U.1 162 x = W.1 162 x) ∧ ∃ g, a2 = nI g ∧ g ≤ glO d n ∧ ∀ x, x < g → IB (U.1 163 x) (wI d n l x)) ?_ N _ _ W ⟨rfl, hW, w19, fun _ => rfl, 0, rfl, Nat.zero_le _, fun x hx => by omega⟩
  rintro k2 ih2 a1 a2 U ⟨rfl, hU, u19, u162, g, rfl, gl, hw⟩
  unfold B_X12_areWithin_12
  rw [hU.2.2]
  refine pt_ite (fun q1 => ?_) (fun q1 => ?_)
  · have eg : g = glO d n := by
      have := (nI_leI (by omega) (by omega)).mp q1
      omega
    subst eg
    refine pt_l3 (I := fun a1 a2 X => a1 = nI l ∧ RG d n X ∧ X.1 146 19 = nI (deO d n) ∧ (∀ x, X.1 163 x = U.1 163 x) ∧ ∃ g, a2 = nI g ∧ g ≤ glO d n ∧ ∀ x, x < g → X.1 162 x = U.1 163 x) ?_ N _ _ U ⟨rfl, hU, u19, fun _ => rfl, 0, rfl, Nat.zero_le _, fun x hx => by omega⟩
    rintro k3 ih3 a1 a2 X ⟨rfl, hXX, x19, x163, g, rfl, gl, hc⟩
    unfold B_X12_areWithin_118
    rw [hXX.2.2]
    refine pt_ite (fun q2 => ?_) (fun q2 => ?_)
    · have eg : g = glO d n := by
        have := (nI_leI (by omega) (by omega)).mp q2
        omega
      subst eg
      refine pt_let fun x17 hx => ih _ _ ⟨hXX, x19, l + 1, by rw [hx, nI_1], by omega, fun x hx' _ => ?_⟩
      rw [hc x hx', Nat.add_sub_cancel]
      exact hw x hx'
    have hgl : g < glO d n := nI_nle2 q2 (by omega)
    rw [nI_clamp (by omega)]
    refine pt_g fun _ => pt_g fun _ => pt_g fun _ => pt_let fun V21 e21 => pt_let fun x22 hx => ih3 _ _ _ ⟨rfl, by rw [e21]; exact RG_A hXX (by decide), by rw [e21]; exact x19, fun x => ?_, g + 1, by rw [hx, nI_1], hgl, fun x hx' => ?_⟩
    · rw [e21, vI_cell _ _ _ _ (by decide)]
      exact x163 x
    · rw [e21]
      by_cases z : x = g
      · rw [z, vI_same]
        exact x163 g
      · rw [vI_place _ _ _ z]
        exact hc x (by omega)
  have hgl : g < glO d n := nI_nle2 q1 (by omega)
  refine pt_b fun z hz => ?_
  obtain ⟨x26, V24⟩ := z
  obtain ⟨hx, hf⟩ := isg_r hU h1 h3 h10 hgl gl2 _ hz
  have mm := m_X12_isGlyph sv_sub_rf hz
  dsimp only at hx hf ⊢
  have hy : x26 = 1 := hx.elim (fun y => y.1) (fun y => absurd (hG g hgl) y.2)
  have hF := GFr_p (hf hy)
  have h24 : RG d n V24 := RG_fr hU mm rfl rfl rfl
  have v19 : V24.1 146 19 = nI (deO d n) := (mm 146 19 rfl).1.trans u19
  have v162 : ∀ x, V24.1 162 x = W.1 162 x := fun x => (mm 162 x rfl).1.trans (u162 x)
  have v163 : ∀ x, V24.1 163 x = U.1 163 x := fun x => (mm 163 x rfl).1
  have g110 : ∀ X, RG d n X → X.1 146 19 = nI (deO d n) → (∀ x, X.1 162 x = W.1 162 x) → (∀ x, x < g → X.1 163 x = U.1 163 x) → IB (X.1 163 g) (wI d n l g) → Pt (fun q : Int32 × sv_V => IB q.1 (DH d n)) (B_X12_areWithin_110 N kk k2 (nI l) (nI g) X) := fun X x1 x2 x3 x4 x5 => by
    unfold B_X12_areWithin_110
    refine pt_let fun x5' hx5 => ih2 _ _ _ ⟨rfl, x1, x2, x3, g + 1, by rw [hx5, nI_1], hgl, fun x hx' => ?_⟩
    rcases Nat.lt_or_ge x g with y | y
    · rw [x4 x y]
      exact hw x y
    · rw [show x = g by omega]
      exact x5
  have g48 : ∀ s : Int32, (cmpd d n g → IB s (1 ≤ l)) → (¬ cmpd d n g → s = 1) → Pt (fun q : Int32 × sv_V => IB q.1 (DH d n)) (B_X12_areWithin_48 N kk k2 (nI l) (nI g) (nI g) s V24) := fun s hs hs1 => by
    unfold B_X12_areWithin_48
    rw [nI_clamp (by omega)]
    refine pt_g fun _ => pt_g fun _ => pt_let fun V15 e15 => ?_
    refine pt_l4 (I := fun a1 a2 a4 X => a1 = nI l ∧ a2 = nI g ∧ RG d n X ∧ X.1 146 19 = nI (deO d n) ∧ (∀ x, X.1 162 x = W.1 162 x) ∧ (∀ x, x < g → X.1 163 x = U.1 163 x) ∧ (∀ a i, a ≠ 163 → X.1 a i = V24.1 a i) ∧ ∃ k, a4 = nI k ∧ (¬ cmpd d n g → X.1 163 g = 1 ∧ k = 0) ∧ (cmpd d n g → ∀ m, CPn d n (GB d n g) (GB d n (g + 1)) m → k ≤ m ∧ IB (X.1 163 g) (1 ≤ l ∧ ∀ j, j < k → wI d n (l - 1) (g2 d n (pos d n (GB d n g) j + 2))))) ?_ N _ _ _ V15 ⟨rfl, rfl, by rw [e15]; exact RG_A h24 (by decide), by rw [e15]; exact v19, fun x => by rw [e15, vI_cell _ _ _ _ (by decide)]; exact v162 x, fun x hx => by rw [e15, vI_place _ _ _ (by omega)]; exact v163 x, fun a i z => by rw [e15, vI_cell _ _ _ _ z], 0, rfl, fun c => ⟨by rw [e15, vI_same]; exact hs1 c, rfl⟩, fun c m _ => ⟨Nat.zero_le _, by rw [e15, vI_same]; exact IB_i (hs c) ⟨fun z => ⟨z, fun j hj => by omega⟩, fun z => z.1⟩⟩⟩
    rintro k3 ih3 a1 a2 a4 X ⟨rfl, rfl, hXX, x19, x162, x163, xK, k, rfl, hnc, hcc⟩
    unfold B_X12_areWithin_52
    rw [xK 146 30 (by decide), xK 146 28 (by decide)]
    rcases hF with ⟨c, e28, e30⟩ | ⟨c, e28, m, m1, e30, e158⟩
    · obtain ⟨y1, y2⟩ := hnc c
      rw [e30]
      refine pt_ite (fun _ => g110 X hXX x19 x162 x163 (by rw [y1]; exact IB_1 (wI_n c))) (fun z => absurd (nI_pos' (by omega)) z)
    · obtain ⟨km, y2⟩ := hcc c m m1
      have m8 := m1.2.1
      rw [e30]
      have wl : wI d n l g ↔ (1 ≤ l ∧ ∀ j, j < m → wI d n (l - 1) (g2 d n (pos d n (GB d n g) j + 2))) := by
        match l with
        | 0 => exact ⟨fun z => absurd c z, fun z => by omega⟩
        | l + 1 =>
          constructor
          · exact fun z => ⟨by omega, fun j hj => z _ ⟨c, m, j, m1, hj, rfl⟩⟩
          · rintro ⟨-, z⟩ x ⟨-, m', j, y1, y2, rfl⟩
            exact z j (by rw [← CPn_u y1 m1]; exact y2)
      refine pt_ite (fun q2 => ?_) (fun q2 => ?_)
      · have ek : k = m := by
          have := (nI_leI (by omega) (by omega)).mp q2
          omega
        subst ek
        exact g110 X hXX x19 x162 x163 (IB_i y2 wl.symm)
      have hkm : k < m := nI_nle2 q2 (by omega)
      have g103 : ∀ s : Int32, IB s (1 ≤ l ∧ ∀ j, j < k + 1 → wI d n (l - 1) (g2 d n (pos d n (GB d n g) j + 2))) → Pt (fun q : Int32 × sv_V => IB q.1 (DH d n)) (B_X12_areWithin_103 N kk k2 k3 (nI l) (nI g) (nI k) (nI g) s X) := fun s hs => by
        unfold B_X12_areWithin_103
        rw [nI_clamp (by omega)]
        refine pt_g fun _ => pt_g fun _ => pt_let fun V3 e3 => pt_let fun x4 hx4 => ih3 _ _ _ _ ⟨rfl, rfl, by rw [e3]; exact RG_A hXX (by decide), by rw [e3]; exact x19, fun x => by rw [e3, vI_cell _ _ _ _ (by decide)]; exact x162 x, fun x hx => by rw [e3, vI_place _ _ _ (by omega)]; exact x163 x hx, fun a i z => by rw [e3, vI_cell _ _ _ _ z]; exact xK a i z, k + 1, by rw [hx4, nI_1], fun z => absurd c z, fun _ m' m2 => ⟨by rw [CPn_u m2 m1]; exact hkm, by rw [e3, vI_same]; exact hs⟩⟩
      refine pt_ite (fun _ => ?_) (fun z => absurd e28 z)
      rw [nI_clamp (by omega)]
      refine pt_g fun _ => pt_ite (fun q3 => ?_) (fun q3 => ?_)
      · unfold B_X12_areWithin_102
        exact g103 0 (IB_0 fun z => y2.n q3 ⟨z.1, fun j hj => z.2 j (by omega)⟩)
      have y3 := y2.y q3
      have xl := (m1.2.2.1 k hkm).1
      rw [nI_clamp (by omega), (xK 158 k (by decide)).trans (e158 k hkm), nI_clamp (by omega), x162]
      have hx2 := hX _ xl y3.1
      refine pt_g fun _ => pt_g fun _ => pt_ite (fun q4 => ?_) (fun q4 => ?_)
      · unfold B_X12_areWithin_102
        exact g103 0 (IB_0 fun z => hx2.n q4 (z.2 k (by omega)))
      · refine g103 1 (IB_1 ⟨y3.1, fun j hj => ?_⟩)
        rcases Nat.lt_or_ge j k with y | y
        · exact y3.2 j y
        · rw [show j = k by omega]
          exact hx2.y q4
  have g43 : (cmpd d n g → 1 ≤ l) → Pt (fun q : Int32 × sv_V => IB q.1 (DH d n)) (B_X12_areWithin_43 N kk k2 (nI l) (nI g) (nI g) V24) := fun z => by
    unfold B_X12_areWithin_43
    exact g48 1 (fun c => IB_1 (z c)) (fun _ => rfl)
  refine pt_ite (fun q2 => pt_ite (fun q3 => ?_) (fun q3 => g43 (fun _ => ?_))) (fun q2 => g43 (fun c => ?_))
  · have l0 : l = 0 := by
      rcases Nat.eq_zero_or_pos l with y | y
      · exact y
      · exact absurd q3 (nI_nle y (by omega))
    refine g48 0 (fun _ => IB_0 (by omega)) (fun c => ?_)
    rcases hF with ⟨-, e28, -⟩ | ⟨c', -⟩
    · exact absurd q2 e28
    · exact absurd c' c
  · rcases Nat.eq_zero_or_pos l with y | y
    · exact absurd (by rw [y]; decide) q3
    · exact y
  · rcases hF with ⟨c', -⟩ | ⟨-, e28, -⟩
    · exact absurd c c'
    · exact absurd e28 q2
end IG
end
section
/-! THE FAULT (the reference) -/
def RF (d : Nat → Int32) (n : Nat) (V : sv_V) : Prop := RG d n V ∧ V.1 146 10 = nI (unO d n) ∧ V.1 146 20 = nI (meO d n) ∧ RMF d n V ∧ V.1 146 24 = nI (paO d n) ∧ V.1 146 25 = nI (lO d n 1668707360 / 2)
def PF (d : Nat → Int32) (n : Nat) (q : Int32 × sv_V) : Prop := FT (KL d n) 1 q.1 ∧ (q.1 = 0 → RF d n q.2)
section CK
variable {d : Nat → Int32} {n N : Nat} {V : sv_V}
theorem tR_neg {t : Nat} (h1 : K1 d n) : tR d n t < 0 ↔ tO d n t = none := by
  have h2 := h1.2.2.2.1
  unfold tR
  cases c : tO d n t with
  | none => exact iff_of_true (show (-1 : Int32) < 0 by decide) rfl
  | some k =>
    have := (tO_s c).1
    exact iff_of_false (nI_pos (by omega)) (fun z => by cases z)
theorem chk_gl (h : RG d n V) (h1 : K1 d n) (h3 : K3 d n) (h7 : K7 d n) (h10 : K10 d n) (r10 : V.1 146 10 = nI (unO d n)) (r19 : V.1 146 19 = nI (deO d n)) (r20 : V.1 146 20 = nI (meO d n)) (up : ∀ {x}, FT [K11 d n, K12 d n, K13 d n, K14 d n] 11 x → FT (KL d n) 1 x) : Pt (PF d n) (sx_lp2 (B_X12_checkGlyphs_90 N) N 0 V) := by
  have gl2 := h7.2.2.1.2
  have de4 : deO d n ≤ 4 := (h7.2.2.2.1 6 (by decide)).2
  have b1 := bO_le (t := 1668707360) h3
  have b2 := bO_le (t := 1718642541) h3
  have b3 := bO_le (t := 1886545264) h3
  have hn := h.1.1.1
  have bad : ∀ (i : Nat) (U : sv_V) {x : Int32}, x = nI i → 0 < i → i < 15 → FT (KL d n) 1 x → Pt (PF d n) (some (x, U)) := fun i U x ex h0 hi hf => pt_some ⟨hf, fun e => absurd (ex.symm.trans e) (nI_ne0 h0 (by omega))⟩
  refine pt_l2 (I := fun a1 W => RG d n W ∧ W.1 146 10 = nI (unO d n) ∧ W.1 146 19 = nI (deO d n) ∧ W.1 146 20 = nI (meO d n) ∧ ∃ g, a1 = nI g ∧ g ≤ glO d n ∧ ∀ i, i < g → GH d n i) ?_ N _ V ⟨h, r10, r19, r20, 0, rfl, Nat.zero_le _, fun i hi => by omega⟩
  rintro kk ih a1 W ⟨hW, w10, w19, w20, g, rfl, gl, hg⟩
  unfold B_X12_checkGlyphs_90
  rw [hW.2.2]
  refine pt_ite (fun q => ?_) (fun q => ?_)
  rotate_left
  · have hgl : g < glO d n := nI_nle2 q (by omega)
    refine pt_b fun z hz => ?_
    obtain ⟨x30, V28⟩ := z
    obtain ⟨hx, -⟩ := isg_r hW h1 h3 h10 hgl gl2 _ hz
    have mm := m_X12_isGlyph sv_sub_rf hz
    dsimp only at hx ⊢
    refine pt_ite (fun q1 => bad 11 _ rfl (by decide) (by decide) (up (Or.inl ⟨fun z => hx.n q1 (z.1 g hgl), rfl⟩))) (fun q1 => pt_let fun x32 hx32 => ih _ _ ⟨RG_fr hW mm rfl rfl rfl, (mm 146 10 rfl).1.trans w10, (mm 146 19 rfl).1.trans w19, (mm 146 20 rfl).1.trans w20, g + 1, by rw [hx32, nI_1], hgl, fun i hi => ?_⟩)
    rcases Nat.lt_or_ge i g with y | y
    · exact hg i y
    · rw [show i = g by omega]
      exact hx.y q1
  have eg : g = glO d n := by
    have := (nI_leI (by omega) (by omega)).mp q
    omega
  subst eg
  refine pt_b fun z hz => ?_
  obtain ⟨x4, V2⟩ := z
  have i11 : IB x4 (DH d n) := within_r hW h1 h3 h10 gl2 w19 de4 hg _ hz
  have mm := m_X12_areWithin sv_sub_rf hz
  dsimp only
  refine pt_ite (fun q1 => bad 11 _ rfl (by decide) (by decide) (up (Or.inl ⟨fun z => i11.n q1 z.2, rfl⟩))) (fun q1 => ?_)
  have k11 : K11 d n := ⟨hg, i11.y q1⟩
  have h2 : RG d n V2 := RG_fr hW mm rfl rfl rfl
  refine pt_b fun z hz2 => ?_
  obtain ⟨x8, V6⟩ := z
  obtain ⟨i12, f12⟩ := map_r h2.1 h1 h3 _ hz2
  have mm2 := m_X12_map sv_sub_rf hz2
  dsimp only at i12 f12 ⊢
  refine pt_ite (fun q2 => bad 12 _ rfl (by decide) (by decide) (up (Or.inr ⟨k11, Or.inl ⟨i12.n q2, rfl⟩⟩))) (fun q2 => ?_)
  have k12 := i12.y q2
  have h6 : RG d n V6 := RG_fr h2 mm2 rfl rfl rfl
  refine pt_b fun z hz3 => ?_
  obtain ⟨x12, V10⟩ := z
  obtain ⟨i13, f13⟩ := kern_r h6.1 h1 h3 _ hz3
  have mm3 := m_X12_kerns sv_sub_rf hz3
  dsimp only at i13 f13 ⊢
  refine pt_ite (fun q3 => bad 13 _ rfl (by decide) (by decide) (up (Or.inr ⟨k11, Or.inr ⟨k12, Or.inl ⟨i13.n q3, rfl⟩⟩⟩))) (fun q3 => ?_)
  have k13 := i13.y q3
  have hV10 : RG d n V10 := RG_fr h6 mm3 rfl rfl rfl
  have no14 : ∀ U, ¬ K14 d n → Pt (PF d n) (some (14, U)) := fun U z => bad 14 _ rfl (by decide) (by decide) (up (Or.inr ⟨k11, Or.inr ⟨k12, Or.inr ⟨k13, Or.inl ⟨z, rfl⟩⟩⟩⟩))
  refine pt_bb (lengthOf_r (t := 1668707360) hV10.1 h1 (by decide)) ?_
  rintro _ rfl
  dsimp only
  rw [show nI (lO d n 1668707360) - nI (lO d n 1668707360) / (2 : Int32) * (2 : Int32) = nI (lO d n 1668707360 % 2) from pk_rem (d := 2) (by omega) (by decide) (by decide), show nI (lO d n 1668707360) / (2 : Int32) = nI (lO d n 1668707360 / 2) from pk_div (d := 2) (by omega) (by decide) (by decide)]
  refine pt_ite (fun q4 => pt_ite (fun q5 => no14 _ (fun z => ?_)) (fun q5 => ?_)) (fun q4 => no14 _ (fun z => q4 (by rw [z.1]; rfl)))
  · have := (nI_ltI (a := 512) (by decide) (by omega)).mp q5
    have := z.2.1
    omega
  refine pt_bb (lengthOf_r (t := 1718642541) hV10.1 h1 (by decide)) ?_
  rintro _ rfl
  dsimp only
  refine pt_ite (fun q6 => no14 _ (fun z => ?_)) (fun q6 => ?_)
  · have := (nI_ltI (a := 2000) (by decide) (by omega)).mp q6
    have := z.2.2.1
    omega
  refine pt_bb (lengthOf_r (t := 1886545264) hV10.1 h1 (by decide)) ?_
  rintro _ rfl
  dsimp only
  refine pt_ite (fun q7 => pt_let fun V27 e27 => ?_) (fun q7 => no14 _ (fun z => q7 (nI_le (b := 2000) z.2.2.2 (by decide))))
  have k14 : K14 d n := ⟨(nI_eq (b := 0) (by omega) (by decide)).mp q4, nI_nlt2 (a := 512) (b := lO d n 1668707360) q5 (by omega), nI_nlt2 (a := 2000) (b := lO d n 1718642541) q6 (by omega), (nI_leI (b := 2000) (by omega) (by decide)).mp q7⟩
  refine pt_some ⟨up (Or.inr ⟨k11, Or.inr ⟨k12, Or.inr ⟨k13, Or.inr ⟨k14, rfl⟩⟩⟩⟩), fun _ => ?_⟩
  obtain ⟨fo, at', len, cnt, z1, z2, z3, z4⟩ := f12 (i12.o q2)
  have u24 := f13 (i13.o q3)
  rw [e27]
  refine ⟨RG_I hV10 (by decide), ?_, ?_, ⟨fo, at', len, cnt, z1, ?_, ?_, ?_⟩, ?_, vI_same _ _ _ _⟩
  · exact (vI_place _ _ _ (by decide)).trans ((mm3 146 10 rfl).1.trans ((mm2 146 10 rfl).1.trans ((mm 146 10 rfl).1.trans w10)))
  · exact (vI_place _ _ _ (by decide)).trans ((mm3 146 20 rfl).1.trans ((mm2 146 20 rfl).1.trans ((mm 146 20 rfl).1.trans w20)))
  · exact (vI_place _ _ _ (by decide)).trans ((mm3 146 22 rfl).1.trans z2)
  · exact (vI_place _ _ _ (by decide)).trans ((mm3 146 21 rfl).1.trans z3)
  · exact (vI_place _ _ _ (by decide)).trans ((mm3 146 23 rfl).1.trans z4)
  · exact (vI_place _ _ _ (by decide)).trans u24
theorem chk_rest (h : RB d n V) (h1 : K1 d n) (h2 : K2 d n) (h3 : K3 d n) (h4 : K4 d n) {kk : Int32 → sv_V → Option (Int32 × sv_V)} : Pt (PF d n) (B_X12_check_250 N kk (nI (tbl d n)) V) := by
  have hn := h.1.1
  have tl := h1.2.2.2.1
  have bad : ∀ (i : Nat) (U : sv_V) {x : Int32}, x = nI i → 0 < i → i < 15 → FT (KL d n) 1 x → Pt (PF d n) (some (x, U)) := fun i U x ex h0 hi hf => pt_some ⟨hf, fun e => absurd (ex.symm.trans e) (nI_ne0 h0 (by omega))⟩
  have up4 : ∀ {x}, FT [K5 d n, K6 d n, K7 d n, K8 d n, K9 d n, K10 d n, K11 d n, K12 d n, K13 d n, K14 d n] 5 x → FT (KL d n) 1 x := fun z => Or.inr ⟨h1, Or.inr ⟨h2, Or.inr ⟨h3, Or.inr ⟨h4, z⟩⟩⟩⟩
  have no5 : ∀ i, i < 7 → ∀ U, tO d n (tg i) = none → Pt (PF d n) (some (5, U)) := fun i hi U z => bad 5 _ rfl (by decide) (by decide) (up4 (Or.inl ⟨fun y => y i hi z, rfl⟩))
  unfold B_X12_check_250
  rw [h.2.1, if_pos (Int32.le_refl _)]
  refine pt_bb (tableOf_r (t := 1668112752) h h1 (by decide)) ?_
  rintro _ rfl
  refine pt_ite (fun q => no5 0 (by decide) _ ((tR_neg h1).mp q)) (fun q0 => ?_)
  refine pt_bb (tableOf_r (t := 1735162214) h h1 (by decide)) ?_
  rintro _ rfl
  refine pt_ite (fun q => no5 1 (by decide) _ ((tR_neg h1).mp q)) (fun q1 => ?_)
  refine pt_bb (tableOf_r (t := 1751474532) h h1 (by decide)) ?_
  rintro _ rfl
  refine pt_ite (fun q => no5 2 (by decide) _ ((tR_neg h1).mp q)) (fun q2 => ?_)
  refine pt_bb (tableOf_r (t := 1751672161) h h1 (by decide)) ?_
  rintro _ rfl
  refine pt_ite (fun q => no5 3 (by decide) _ ((tR_neg h1).mp q)) (fun q3 => ?_)
  refine pt_bb (tableOf_r (t := 1752003704) h h1 (by decide)) ?_
  rintro _ rfl
  refine pt_ite (fun q => no5 4 (by decide) _ ((tR_neg h1).mp q)) (fun q4 => ?_)
  refine pt_bb (tableOf_r (t := 1819239265) h h1 (by decide)) ?_
  rintro _ rfl
  refine pt_ite (fun q => no5 5 (by decide) _ ((tR_neg h1).mp q)) (fun q5 => ?_)
  refine pt_bb (tableOf_r (t := 1835104368) h h1 (by decide)) ?_
  rintro _ rfl
  refine pt_ite (fun q6 => ?_) (fun q => no5 6 (by decide) _ ((tR_neg h1).mp (Int32.not_le.mp q)))
  have k5 : K5 d n := fun i hi => by
    have nn : ∀ t, ¬ tR d n t < 0 → tO d n t ≠ none := fun t z y => z ((tR_neg h1).mpr y)
    match i, hi with
    | 0, _ => exact nn _ q0
    | 1, _ => exact nn _ q1
    | 2, _ => exact nn _ q2
    | 3, _ => exact nn _ q3
    | 4, _ => exact nn _ q4
    | 5, _ => exact nn _ q5
    | 6, _ => exact nn _ (Int32.not_lt.mpr q6)
    | i + 7, hi => omega
  refine pt_b fun z hz => ?_
  obtain ⟨x56, V54⟩ := z
  obtain ⟨i6, f6⟩ := head_r h h1 h3 (k5 2 (by decide)) _ hz
  have mm := m_X12_head sv_sub_rf hz
  dsimp only at i6 f6 ⊢
  refine pt_ite (fun q => bad 6 _ rfl (by decide) (by decide) (up4 (Or.inr ⟨k5, Or.inl ⟨i6.n q, rfl⟩⟩))) (fun q => ?_)
  have k6 := i6.y q
  obtain ⟨u10, u11⟩ := f6 (i6.o q)
  have h54 : RB d n V54 := RB_fr h mm rfl
  refine pt_b fun z hz2 => ?_
  obtain ⟨x60, V58⟩ := z
  obtain ⟨i7, f7⟩ := maxp_r h54 h1 h3 _ hz2
  have mm2 := m_X12_maxp sv_sub_rf hz2
  dsimp only at i7 f7 ⊢
  refine pt_ite (fun q => bad 7 _ rfl (by decide) (by decide) (up4 (Or.inr ⟨k5, Or.inr ⟨k6, Or.inl ⟨i7.n q, rfl⟩⟩⟩))) (fun q => ?_)
  have k7 := i7.y q
  obtain ⟨u12, u19⟩ := f7 (i7.o q)
  have h58 : RG d n V58 := ⟨RB_fr h54 mm2 rfl, (mm2 146 11 rfl).1.trans u11, u12⟩
  have v10 : V58.1 146 10 = nI (unO d n) := (mm2 146 10 rfl).1.trans u10
  have bl := bO_le (t := 1751672161) h3
  have bm := bO_le (t := 1752003704) h3
  refine pt_bb (beginOf_r (t := 1751672161) h58.1 h1 (by decide)) ?_
  rintro _ rfl
  dsimp only
  rw [show nI (bO d n 1751672161) + (34 : Int32) = nI (bO d n 1751672161 + 34) from nI_add _ 34, u2_r h58.1.1 (by omega), Option.bind_some]
  dsimp only
  refine pt_let fun V68 e68 => ?_
  have h68 : RG d n V68 := by rw [e68]; exact RG_I h58 (by decide)
  have w20 : V68.1 146 20 = nI (meO d n) := by rw [e68]; rfl
  have w10 : V68.1 146 10 = nI (unO d n) := by rw [e68]; exact v10
  have w19 : V68.1 146 19 = nI (deO d n) := by rw [e68]; exact u19
  clear e68
  have am : meO d n < 65536 := g2_lt
  have gl := k7.2.2.1
  refine pt_bb (lengthOf_r (t := 1751672161) h68.1 h1 (by decide)) ?_
  rintro _ rfl
  dsimp only
  refine pt_ite (fun q8 => ?_) (fun q8 => bad 8 _ rfl (by decide) (by decide) (up4 (Or.inr ⟨k5, Or.inr ⟨k6, Or.inr ⟨k7, Or.inl ⟨fun z => q8 (by rw [z.1]; rfl), rfl⟩⟩⟩⟩)))
  have l36 := (nI_eq (b := 36) (by omega) (by decide)).mp q8
  rw [w20, h68.2.2, F_inN (x := 1) (y := (nI (glO d n)).toInt64) (a := 1) (b := glO d n) (by omega) (by decide) (by omega) rfl (nI_l (by omega)), Option.bind_some]
  dsimp only
  refine pt_ite (fun q9 => bad 8 _ rfl (by decide) (by decide) (up4 (Or.inr ⟨k5, Or.inr ⟨k6, Or.inr ⟨k7, Or.inl ⟨fun z => (ite_z.mp q9) z.2, rfl⟩⟩⟩⟩))) (fun q9 => ?_)
  have k8 : K8 d n := ⟨l36, nnx (fun z => q9 (ite_z.mpr z))⟩
  have me := k8.2
  refine pt_bb (lengthOf_r (t := 1752003704) h68.1 h1 (by decide)) ?_
  rintro _ rfl
  dsimp only
  rw [w20, h68.2.2, show (4 : Int32) * nI (meO d n) = nI (4 * meO d n) from pk_mul 4 _, pk_sub me.2, show (2 : Int32) * nI (glO d n - meO d n) = nI (2 * (glO d n - meO d n)) from pk_mul 2 _, nI_add]
  refine pt_ite (fun q10 => ?_) (fun q10 => bad 9 _ rfl (by decide) (by decide) (up4 (Or.inr ⟨k5, Or.inr ⟨k6, Or.inr ⟨k7, Or.inr ⟨k8, Or.inl ⟨fun z => q10 (nI_le z (by omega)), rfl⟩⟩⟩⟩⟩)))
  have k9 : K9 d n := (nI_leI (by omega) (by omega)).mp q10
  have up9 : ∀ {x}, FT [K10 d n, K11 d n, K12 d n, K13 d n, K14 d n] 10 x → FT (KL d n) 1 x := fun z => up4 (Or.inr ⟨k5, Or.inr ⟨k6, Or.inr ⟨k7, Or.inr ⟨k8, Or.inr ⟨k9, z⟩⟩⟩⟩⟩)
  refine pt_bb (chk_loca (Q := PF d n) h68.1 h1 h3 gl.2 h68.2.2 h68.2.1 (fun k10 => chk_gl h68 h1 h3 k7 k10 w10 w19 w20 (fun z => up9 (Or.inr ⟨k10, z⟩))) (fun z => ⟨up9 (Or.inl ⟨z, rfl⟩), fun e => absurd e (show ¬ (10 : Int32) = 0 by decide)⟩)) ?_
  rintro ⟨x83, V81⟩ hx
  exact pt_some hx
theorem check_r (hN : 5 ≤ N) (h : FR d n V) : Pt (PF d n) (F_X12_check N V) := by
  have bad : ∀ (i : Nat) (U : sv_V) {x : Int32}, x = nI i → 0 < i → i < 15 → FT (KL d n) 1 x → PF d n (x, U) := fun i U x ex h0 hi hf => ⟨hf, fun e => absurd (ex.symm.trans e) (nI_ne0 h0 (by omega))⟩
  unfold F_X12_check
  refine pt_b fun z hz => ?_
  obtain ⟨x104, V102⟩ := z
  obtain ⟨i1, f1⟩ := dir_r hN h _ hz
  have mm := m_X12_directory sv_sub_rf hz
  dsimp only at i1 f1 ⊢
  refine pt_ite (fun q => pt_some (bad 1 _ rfl (by decide) (by decide) (Or.inl ⟨i1.n q, rfl⟩))) (fun q => ?_)
  have k1 := i1.y q
  obtain ⟨r5, hT⟩ := f1 (i1.o q)
  have hB : RB d n V102 := ⟨⟨h.1, (mm 146 3 rfl).1.trans h.2.1, fun j hj => (mm 148 j rfl).1.trans (h.2.2 j hj)⟩, r5, hT⟩
  exact chk_11 hB k1 (fun k2 => chk_57 hB k1 (fun k3 => chk_250 hB k1 k3 (fun k4 kk => chk_rest hB k1 k2 k3 k4) (fun z => bad 4 _ rfl (by decide) (by decide) (Or.inr ⟨k1, Or.inr ⟨k2, Or.inr ⟨k3, Or.inl ⟨z, rfl⟩⟩⟩⟩))) (fun z => bad 3 _ rfl (by decide) (by decide) (Or.inr ⟨k1, Or.inr ⟨k2, Or.inl ⟨z, rfl⟩⟩⟩))) (fun z => bad 2 _ rfl (by decide) (by decide) (Or.inr ⟨k1, Or.inl ⟨z, rfl⟩⟩))
end CK
end
section
/-! LOAD: the class and the reference alike -/
/-- load's answer, by the FAULT -/
def ldA (d : Nat → Int32) (n : Nat) (f : Int32) : Int32 := if f = 0 then nI (glO d n) else (-100 : Int32) - f
/-- the bytes fed, as load takes them -/
def ldD (V : sv_V) (n j : Nat) : Int32 := if j < n then V.1 1 j else 0
theorem FT_v {Ks : List Prop} {r : Int32} : ∀ {i : Nat}, FT Ks i r → r = 0 ∨ ∃ k, i ≤ k ∧ k < i + Ks.length ∧ r = nI k := by
  induction Ks with
  | nil => intro i h; exact Or.inl h
  | cons K L ih =>
    intro i h
    rcases h with ⟨-, b⟩ | ⟨-, b⟩
    · exact Or.inr ⟨i, Nat.le_refl _, by simp, b⟩
    · rcases ih b with c | ⟨k, c1, c2, c3⟩
      · exact Or.inl c
      · exact Or.inr ⟨k, by omega, by simp only [List.length_cons]; omega, c3⟩
section LA
variable {N : Nat} {V : sv_V}
theorem load_c (hN : 300 ≤ N) {n : Nat} (hn : n ≤ 12000) (c1 : V.1 0 1 = nI n) (hb : ∀ j, j < n → (V.1 1 j).toInt8.toInt32 = V.1 1 j) (hs : SC V) : Pt (fun q : Int32 × sv_V => ∃ f, FT (KL (ldD V n) n) 1 f ∧ q.1 = ldA (ldD V n) n f ∧ (q.2.1 2 2 = if f = 0 then 1 else 0) ∧ (f = 0 → CF (ldD V n) n q.2)) (F_X11_load N V) := by
  have hd : DB (ldD V n) := fun j => by
    unfold ldD
    split
    · rename_i z
      exact hb j z
    · rfl
  unfold F_X11_load
  refine pt_b fun V4 e4 => ?_
  have m4 := m_X6_forgetAll sv_sub_rf e4
  refine pt_b fun V6 e6 => ?_
  have m6 := m_X2_take sv_sub_rf e6
  rw [(m4 0 1 rfl).1, c1] at e6
  have r1 : V6.1 2 1 = nI n ∧ ∀ j, j < n → V6.1 3 j = V4.1 1 j := by
    unfold F_X2_take at e6
    obtain ⟨n1, g1, h⟩ := sx_bnd e6
    obtain ⟨g3, h⟩ := sx_grd h
    obtain ⟨g4, h⟩ := sx_grd h
    obtain ⟨g5, h⟩ := sx_grd h
    obtain ⟨W6, hW6, h⟩ := sx_letX h
    obtain ⟨W7, hW7, h⟩ := sx_letX h
    obtain ⟨W8, hW8, h⟩ := sx_letX h
    cases h
    refine ⟨by rw [hW8, hW7]; rfl, fun j hj => ?_⟩
    rw [hW8, vI_cell _ _ _ _ (by decide), hW7, vI_cell _ _ _ _ (by decide), hW6, nI_clamp (by omega)]
    show va_cpy (V4.1 1) (V4.1 3) 0 0 n j = _
    rw [pk_cpy_in (Nat.zero_le _) (by omega), show 0 + (j - 0) = j by omega]
  have fc : FC (ldD V n) n V6 := ⟨hn, r1.1, fun j hj => by
    rw [r1.2 j hj, (m4 1 j rfl).1]
    unfold ldD
    rw [if_pos hj]⟩
  have s6 : SC V6 := ⟨fun j hj => (m6 1001 j rfl).1.trans ((m4 1001 j rfl).1.trans (hs.1 j hj)), fun j hj => (m6 1002 j rfl).1.trans ((m4 1002 j rfl).1.trans (hs.2.1 j hj)), fun j hj => (m6 1004 j rfl).1.trans ((m4 1004 j rfl).1.trans (hs.2.2.1 j hj)), fun j hj => (m6 1005 j rfl).1.trans ((m4 1005 j rfl).1.trans (hs.2.2.2 j hj))⟩
  refine pt_bb (fault_c hN hd fc s6) ?_
  rintro ⟨f, V8⟩ ⟨hf, hc⟩
  dsimp only at hf hc ⊢
  have g43 : ∀ s : Int32, (s = if f = 0 then 1 else 0) → Pt (fun q : Int32 × sv_V => ∃ f, FT (KL (ldD V n) n) 1 f ∧ q.1 = ldA (ldD V n) n f ∧ (q.2.1 2 2 = if f = 0 then 1 else 0) ∧ (f = 0 → CF (ldD V n) n q.2)) (B_X11_load_43 N f s V8) := fun s hs' => by
    unfold B_X11_load_43
    refine pt_g fun _ => pt_let fun V2 e2 => ?_
    have r22 : V2.1 2 2 = if f = 0 then 1 else 0 := by rw [e2, vI_same]; exact hs'
    have cf2 : f = 0 → CF (ldD V n) n V2 := fun z => by
      obtain ⟨a, b, c, e, g, h, ⟨fo, at', len, cnt, z1, z2, z3, z4, z5⟩, j⟩ := hc z
      rw [e2]
      refine ⟨CB_I a (by omega), b, c, e, g, h, ⟨fo, at', len, cnt, z1, z2, z3, z4, z5⟩, fun i hi => ⟨⟨(vI_cell _ _ _ _ (by decide)).trans (j i hi).1.1, (vI_cell _ _ _ _ (by decide)).trans (j i hi).1.2⟩, ?_⟩⟩
      have f' := (j i hi).2
      unfold GFc at f' ⊢
      rw [vI_cell _ _ _ _ (by decide), vI_cell _ _ _ _ (by decide), vI_cell _ _ _ _ (by decide), vI_cell _ _ _ _ (by decide), vI_cell _ _ _ _ (by decide)]
      exact f'
    refine pt_ite (fun q => pt_some ⟨f, hf, ?_, r22, cf2⟩) (fun q => pt_some ⟨f, hf, ?_, r22, cf2⟩)
    · unfold ldA
      rw [if_pos q]
      exact (cf2 q).2.2.1
    · unfold ldA
      rw [if_neg q]
  exact pt_ite (fun q => g43 1 (by rw [if_pos q])) (fun q => g43 0 (by rw [if_neg q]))
theorem load_r (hN : 300 ≤ N) {n : Nat} {d : Nat → Int32} (hn : n ≤ 12000) (c1 : V.1 146 1 = nI n) (hb : ∀ j, j < n → V.1 147 j = d j) (hd : DB d) : Pt (fun q : Int32 × sv_V => ∃ f, FT (KL d n) 1 f ∧ q.1 = ldA d n f ∧ (q.2.1 146 4 = if f = 0 then 1 else 0) ∧ (f = 0 → RF d n q.2)) (F_X12_load N V) := by
  unfold F_X12_load
  rw [c1]
  refine pt_let fun V17 e17 => ?_
  have r3 : V17.1 146 3 = nI n := by rw [e17]; exact vI_same _ _ _ _
  have r147 : ∀ j, j < n → V17.1 147 j = d j := fun j hj => by rw [e17, vI_cell _ _ _ _ (by decide)]; exact hb j hj
  refine pt_l2 (I := fun a1 W => W.1 146 3 = nI n ∧ (∀ j, j < n → W.1 147 j = d j) ∧ ∃ k, a1 = nI k ∧ k ≤ n ∧ ∀ j, j < k → W.1 148 j = d j) ?_ N _ V17 ⟨r3, r147, 0, rfl, Nat.zero_le _, fun j hj => by omega⟩
  rintro kk ih a1 W ⟨w3, w147, k, rfl, kl, hk⟩
  unfold B_X12_load_10
  rw [w3]
  refine pt_ite (fun q => ?_) (fun q => ?_)
  rotate_left
  · have hkn : k < n := nI_nle2 q (by omega)
    rw [nI_clamp (by omega), w147 k hkn, hd k]
    refine pt_g fun _ => pt_g fun _ => pt_let fun V15 e15 => pt_let fun x16 hx => ih _ _ ⟨by rw [e15, vI_cell _ _ _ _ (by decide)]; exact w3, fun j hj => by rw [e15, vI_cell _ _ _ _ (by decide)]; exact w147 j hj, k + 1, by rw [hx, nI_1], hkn, fun j hj => ?_⟩
    rw [e15]
    by_cases z : j = k
    · rw [z, vI_same]
    · rw [vI_place _ _ _ z]
      exact hk j (by omega)
  have ek : k = n := by
    have := (nI_leI (by omega) (by omega)).mp q
    omega
  subst ek
  refine pt_let fun V2 e2 => pt_let fun V3 e3 => pt_let fun V4 e4 => pt_let fun V5 e5 => pt_let fun V6 e6 => pt_let fun V7 e7 => ?_
  have fr : FR d k V7 := by
    have c : ∀ j, V7.1 148 j = W.1 148 j := fun j => by rw [e7, vI_cell _ _ _ _ (by decide), e6, vI_cell _ _ _ _ (by decide), e5, vI_cell _ _ _ _ (by decide), e4, vI_cell _ _ _ _ (by decide), e3, vI_cell _ _ _ _ (by decide), e2, vI_cell _ _ _ _ (by decide)]
    refine ⟨hn, ?_, fun j hj => (c j).trans (hk j hj)⟩
    rw [e7, e6, e5, e4, e3, e2]
    exact w3
  have r4 : V7.1 146 4 = 0 := by rw [e7, e6, e5, e4]; rfl
  refine pt_b fun z hz => ?_
  obtain ⟨f, V8⟩ := z
  obtain ⟨hf, hr⟩ := check_r (by omega) fr _ hz
  have mm := m_X12_check sv_sub_rf hz
  dsimp only at hf hr ⊢
  have f0 : f ≤ 0 ↔ f = 0 := by
    rcases FT_v hf with c | ⟨i, c1, c2, c3⟩
    · rw [c]
      exact iff_of_true (by decide) rfl
    · have i15 : i < 15 := c2
      rw [c3]
      exact iff_of_false (nI_nle (by omega) (by omega)) (nI_ne0 (by omega) (by omega))
  refine pt_ite (fun q1 => pt_let fun V12 e12 => pt_some ⟨f, hf, ?_, ?_, fun z => ?_⟩) (fun q1 => pt_some ⟨f, hf, ?_, ?_, hr⟩)
  · have q1' := f0.mp q1
    unfold ldA
    rw [if_pos q1', e12]
    exact (hr q1').1.2.2
  · rw [if_pos (f0.mp q1), e12]
    exact vI_same _ _ _ _
  · obtain ⟨a, b, c, ⟨fo, at', len, cnt, z1, z2, z3, z4⟩, e, g⟩ := hr z
    rw [e12]
    exact ⟨RG_I a (by decide), b, c, ⟨fo, at', len, cnt, z1, z2, z3, z4⟩, e, g⟩
  · unfold ldA
    rw [if_neg (fun z => q1 (f0.mpr z))]
  · rw [if_neg (fun z => q1 (f0.mpr z))]
    exact (mm 146 4 rfl).1.trans r4
/-- both hold the same font, or none -/
def LD (V : sv_V) : Prop := (V.1 2 2 = 0 ∧ V.1 146 4 = 0) ∨ (V.1 2 2 = 1 ∧ V.1 146 4 = 1 ∧ ∃ d n, DB d ∧ FT (KL d n) 1 0 ∧ CF d n V ∧ RF d n V)
theorem CF_fr {d : Nat → Int32} {n : Nat} {V W : sv_V} (h : CF d n V) (k : ∀ a i, (2 ≤ a ∧ a ≤ 5) ∨ (8 ≤ a ∧ a ≤ 13) ∨ a = 15 ∨ (1000 < a ∧ a < 1006) → W.1 a i = V.1 a i) : CF d n W := by
  obtain ⟨⟨⟨c1, c2, c3⟩, c4, ⟨s1, s2, s3, s4⟩, c6⟩, b, c, e, g, h', ⟨fo, at', len, cnt, z1, z2, z3, z4, z5⟩, j⟩ := h
  refine ⟨⟨⟨c1, (k 2 1 (by omega)).trans c2, fun j hj => (k 3 j (by omega)).trans (c3 j hj)⟩, (k 2 5 (by omega)).trans c4, ⟨fun j hj => (k _ j (by omega)).trans (s1 j hj), fun j hj => (k _ j (by omega)).trans (s2 j hj), fun j hj => (k _ j (by omega)).trans (s3 j hj), fun j hj => (k _ j (by omega)).trans (s4 j hj)⟩, fun i hi => ⟨(k 4 i (by omega)).trans (c6 i hi).1, (k 5 i (by omega)).trans (c6 i hi).2⟩⟩, (k _ _ (by omega)).trans b, (k _ _ (by omega)).trans c, (k _ _ (by omega)).trans e, (k _ _ (by omega)).trans g, (k _ _ (by omega)).trans h', ⟨fo, at', len, cnt, z1, (k _ _ (by omega)).trans z2, (k _ _ (by omega)).trans z3, (k _ _ (by omega)).trans z4, (k _ _ (by omega)).trans z5⟩, fun i hi => ⟨⟨(k _ _ (by omega)).trans (j i hi).1.1, (k _ _ (by omega)).trans (j i hi).1.2⟩, ?_⟩⟩
  have f' := (j i hi).2
  unfold GFc at f' ⊢
  rw [k 10 i (by omega), k 11 i (by omega), k 12 i (by omega), k 13 i (by omega), k 15 i (by omega)]
  exact f'
/-- load, twice -/
theorem load_alike (hN : 300 ≤ N) {x y : Int32} {V1 V2 : sv_V} (hI : I_feed V) (hs : SC V) (e1 : F_X11_load N V = some (x, V1)) (e2 : F_X12_load N V1 = some (y, V2)) : x = y ∧ LD V2 := by
  obtain ⟨n, hn, c1, c2, hb⟩ := hI
  have m1 := m_X11_load sv_sub_rf e1
  have m2 := m_X12_load sv_sub_rf e2
  obtain ⟨f, f1, f2, f3, f4⟩ := load_c hN hn c1 (fun j hj => (hb j hj).2) hs _ e1
  have hd : DB (ldD V n) := fun j => by
    unfold ldD
    split
    · rename_i z
      exact (hb j z).2
    · rfl
  obtain ⟨f', g1, g2, g3, g4⟩ := load_r (d := ldD V n) hN hn ((m1 146 1 rfl).1.trans c2) (fun j hj => by
    rw [(m1 147 j rfl).1, (hb j hj).1]
    unfold ldD
    rw [if_pos hj]) hd _ e2
  have e := FT_u f1 g1
  subst e
  refine ⟨f2.trans g2.symm, ?_⟩
  have k : ∀ a i, (2 ≤ a ∧ a ≤ 5) ∨ (8 ≤ a ∧ a ≤ 13) ∨ a = 15 ∨ (1000 < a ∧ a < 1006) → V2.1 a i = V1.1 a i := fun a i ha => (m2 a i (by
    cases c : sv_hit md_X12_load a i with
    | false => rfl
    | true =>
      exfalso
      simp [sv_hit, md_X12_load] at c
      omega)).1
  dsimp only at f3 f4 g3 g4
  by_cases z : f = 0
  · rw [if_pos z] at f3 g3
    exact Or.inr ⟨(k 2 2 (by omega)).trans f3, g3, ldD V n, n, hd, z ▸ f1, CF_fr (f4 z) k, g4 z⟩
  · rw [if_neg z] at f3 g3
    exact Or.inl ⟨(k 2 2 (by omega)).trans f3, g3⟩
end LA
end
section
/-! WHAT IS KEPT BETWEEN TWO CALLS: the font -/
/-- what the class holds of a font, without what it noted of glyphs -/
def CE (d : Nat → Int32) (n : Nat) (V : sv_V) : Prop := CB d n V ∧ V.1 2 6 = nI (unO d n) ∧ V.1 2 7 = nI (glO d n) ∧ V.1 2 8 = nI (meO d n) ∧ V.1 2 9 = nI (foO d n) ∧ V.1 2 15 = nI (paO d n) ∧ CMF d n V
def LX (d : Nat → Int32) (n : Nat) (V : sv_V) : Prop := V.1 2 2 = 1 ∧ V.1 146 4 = 1 ∧ CE d n V ∧ RF d n V
def LE (V : sv_V) : Prop := (V.1 2 2 = 0 ∧ V.1 146 4 = 0) ∨ ∃ d n, DB d ∧ FT (KL d n) 1 0 ∧ LX d n V
/-- a list that names no place of a font -/
def okq (q : Nat × Option Nat) : Bool := !((decide (2 ≤ q.1) && decide (q.1 ≤ 5)) || (decide (1000 < q.1) && decide (q.1 < 1006)) || (decide (148 ≤ q.1) && decide (q.1 ≤ 152)) || (q.1 == 146 && (q.2 == none || q.2 == some 3 || q.2 == some 4 || q.2 == some 5 || q.2 == some 10 || q.2 == some 11 || q.2 == some 12 || q.2 == some 20 || q.2 == some 21 || q.2 == some 22 || q.2 == some 23 || q.2 == some 24 || q.2 == some 25)))
def prt (a i : Nat) : Prop := (2 ≤ a ∧ a ≤ 5) ∨ (1000 < a ∧ a < 1006) ∨ (148 ≤ a ∧ a ≤ 152) ∨ (a = 146 ∧ (i = 3 ∨ i = 4 ∨ i = 5 ∨ i = 10 ∨ i = 11 ∨ i = 12 ∨ i = 20 ∨ i = 21 ∨ i = 22 ∨ i = 23 ∨ i = 24 ∨ i = 25))
theorem okq_h {md : List (Nat × Option Nat)} (c : md.all okq = true) {a i : Nat} (h : prt a i) : sv_hit md a i = false := by
  cases e : sv_hit md a i with
  | false => rfl
  | true =>
    exfalso
    unfold sv_hit at e
    rw [List.any_eq_true] at e
    obtain ⟨⟨b, o⟩, hq, e⟩ := e
    have z := List.all_eq_true.mp c _ hq
    simp only [Bool.and_eq_true, beq_iff_eq, Bool.or_eq_true] at e
    obtain ⟨e1, e2⟩ := e
    subst e1
    unfold okq at z
    simp only [Bool.not_eq_true', Bool.or_eq_false_iff, Bool.and_eq_false_iff, decide_eq_false_iff_not, beq_eq_false_iff_ne] at z
    obtain ⟨⟨⟨z1, z2⟩, z3⟩, z4⟩ := z
    rcases h with h | h | h | ⟨h, k⟩
    · omega
    · omega
    · omega
    · rcases z4 with z4 | z4
      · exact z4 h
      · rcases e2 with e2 | e2
        · exact z4.1.1.1.1.1.1.1.1.1.1.1.1 e2
        · obtain ⟨⟨⟨⟨⟨⟨⟨⟨⟨⟨⟨⟨y0, y1⟩, y2⟩, y3⟩, y4⟩, y5⟩, y6⟩, y7⟩, y8⟩, y9⟩, y10⟩, y11⟩, y12⟩ := z4
          rcases k with k | k | k | k | k | k | k | k | k | k | k | k <;> subst k
          · exact y1 e2
          · exact y2 e2
          · exact y3 e2
          · exact y4 e2
          · exact y5 e2
          · exact y6 e2
          · exact y7 e2
          · exact y8 e2
          · exact y9 e2
          · exact y10 e2
          · exact y11 e2
          · exact y12 e2
theorem LX_fr {d : Nat → Int32} {n : Nat} {V W : sv_V} (h : LX d n V) (k : ∀ a i, prt a i → W.1 a i = V.1 a i ∧ W.2.1 a i = V.2.1 a i) : LX d n W := by
  have k1 : ∀ a i, prt a i → W.1 a i = V.1 a i := fun a i z => (k a i z).1
  obtain ⟨f1, f2, ⟨⟨⟨c1, c2, c3⟩, c4, ⟨s1, s2, s3, s4⟩, c6⟩, b, c, e, g, h', ⟨fo, at', len, cnt, z1, z2, z3, z4, z5⟩⟩, ⟨⟨⟨⟨r1, r2, r3⟩, r4, r5⟩, r6, r7⟩, r8, r9, ⟨fo', at2, len', cnt', y1, y2, y3, y4⟩, r10, r11⟩⟩ := h
  have p2 : ∀ i, prt 2 i := fun i => Or.inl (by omega)
  have pc : ∀ a i, 2 ≤ a → a ≤ 5 → prt a i := fun a i x y => Or.inl (by omega)
  have ps : ∀ a i, 1000 < a → a < 1006 → prt a i := fun a i x y => Or.inr (Or.inl (by omega))
  have pa : ∀ a i, 148 ≤ a → a ≤ 152 → prt a i := fun a i x y => Or.inr (Or.inr (Or.inl (by omega)))
  have pr : ∀ i, (i = 3 ∨ i = 4 ∨ i = 5 ∨ i = 10 ∨ i = 11 ∨ i = 12 ∨ i = 20 ∨ i = 21 ∨ i = 22 ∨ i = 23 ∨ i = 24 ∨ i = 25) → prt 146 i := fun i x => Or.inr (Or.inr (Or.inr ⟨rfl, x⟩))
  refine ⟨(k1 _ _ (p2 _)).trans f1, (k1 _ _ (pr 4 (by omega))).trans f2, ⟨⟨⟨c1, (k1 _ _ (p2 _)).trans c2, fun j hj => (k1 _ _ (pc 3 j (by decide) (by decide))).trans (c3 j hj)⟩, (k1 _ _ (p2 _)).trans c4, ⟨fun j hj => (k1 _ _ (ps _ _ (by decide) (by decide))).trans (s1 j hj), fun j hj => (k1 _ _ (ps _ _ (by decide) (by decide))).trans (s2 j hj), fun j hj => (k1 _ _ (ps _ _ (by decide) (by decide))).trans (s3 j hj), fun j hj => (k1 _ _ (ps _ _ (by decide) (by decide))).trans (s4 j hj)⟩, fun i hi => ⟨(k1 _ _ (pc 4 i (by decide) (by decide))).trans (c6 i hi).1, (k1 _ _ (pc 5 i (by decide) (by decide))).trans (c6 i hi).2⟩⟩, (k1 _ _ (p2 _)).trans b, (k1 _ _ (p2 _)).trans c, (k1 _ _ (p2 _)).trans e, (k1 _ _ (p2 _)).trans g, (k1 _ _ (p2 _)).trans h', ⟨fo, at', len, cnt, z1, (k1 _ _ (p2 _)).trans z2, (k1 _ _ (p2 _)).trans z3, (k1 _ _ (p2 _)).trans z4, (k1 _ _ (p2 _)).trans z5⟩⟩, ⟨⟨⟨⟨r1, (k1 _ _ (pr 3 (by omega))).trans r2, fun j hj => (k1 _ _ (pa 148 j (by decide) (by decide))).trans (r3 j hj)⟩, (k1 _ _ (pr 5 (by omega))).trans r4, fun j hj => ?_⟩, (k1 _ _ (pr 11 (by omega))).trans r6, (k1 _ _ (pr 12 (by omega))).trans r7⟩, (k1 _ _ (pr 10 (by omega))).trans r8, (k1 _ _ (pr 20 (by omega))).trans r9, ⟨fo', at2, len', cnt', y1, (k1 _ _ (pr 22 (by omega))).trans y2, (k1 _ _ (pr 21 (by omega))).trans y3, (k1 _ _ (pr 23 (by omega))).trans y4⟩, (k1 _ _ (pr 24 (by omega))).trans r10, (k1 _ _ (pr 25 (by omega))).trans r11⟩⟩
  obtain ⟨t0, t1, t2, t3⟩ := r5 j hj
  exact ⟨(k1 _ _ (pa 149 j (by decide) (by decide))).trans t0, (k _ _ (pa 150 j (by decide) (by decide))).2.trans t1, (k _ _ (pa 151 j (by decide) (by decide))).2.trans t2, (k _ _ (pa 152 j (by decide) (by decide))).2.trans t3⟩
theorem LX_md {d : Nat → Int32} {n : Nat} {md : List (Nat × Option Nat)} {V W : sv_V} (h : LX d n V) (f : sv_eq md V W) (c : md.all okq = true) : LX d n W := LX_fr h (fun a i z => ⟨(f a i (okq_h c z)).1, (f a i (okq_h c z)).2.1⟩)
/-- the arrays of constants, the font -/
def KE (V : sv_V) : Prop := SC V ∧ LE V
theorem KE_md {md : List (Nat × Option Nat)} {V W : sv_V} (h : KE V) (f : sv_eq md V W) (c : md.all okq = true) : KE W := by
  have k1 : ∀ a i, prt a i → W.1 a i = V.1 a i := fun a i z => (f a i (okq_h c z)).1
  obtain ⟨⟨s1, s2, s3, s4⟩, h⟩ := h
  have ps : ∀ a i, 1000 < a → a < 1006 → prt a i := fun a i x y => Or.inr (Or.inl (by omega))
  refine ⟨⟨fun j hj => (k1 _ _ (ps _ _ (by decide) (by decide))).trans (s1 j hj), fun j hj => (k1 _ _ (ps _ _ (by decide) (by decide))).trans (s2 j hj), fun j hj => (k1 _ _ (ps _ _ (by decide) (by decide))).trans (s3 j hj), fun j hj => (k1 _ _ (ps _ _ (by decide) (by decide))).trans (s4 j hj)⟩, ?_⟩
  rcases h with ⟨a, b⟩ | ⟨d, n, hd, hf, hx⟩
  · exact Or.inl ⟨(k1 2 2 (Or.inl (by omega))).trans a, (k1 146 4 (Or.inr (Or.inr (Or.inr ⟨rfl, by omega⟩)))).trans b⟩
  · exact Or.inr ⟨d, n, hd, hf, LX_md hx f c⟩
theorem LD_LE {V : sv_V} (h : LD V) : LE V := by
  rcases h with h | ⟨a, b, d, n, hd, hf, ⟨c1, c2, c3, c4, c5, c6, c7, -⟩, hr⟩
  · exact Or.inl h
  · exact Or.inr ⟨d, n, hd, hf, a, b, ⟨c1, c2, c3, c4, c5, c6, c7⟩, hr⟩
def BK (N : Nat) (V : sv_V) : Prop := BI N V ∧ KE V
theorem o3_load {N : Nat} (hN : 8589934592 ≤ N) {V : sv_V} (B : BK N V) : ∃ x V1 V2, F_X11_load N V = some (x, V1) ∧ F_X12_load N V1 = some (x, V2) ∧ BK N V2 ∧ V1.1 1000 = V.1 1000 := by
  obtain ⟨x, y, V1, V2, e1, e2, b, s⟩ := o2_load hN B.1
  obtain ⟨exy, hl⟩ := load_alike (by omega) B.1.1 B.2.1 e1 e2
  subst exy
  have m1 := m_X11_load sv_sub_rf e1
  have m2 := m_X12_load sv_sub_rf e2
  obtain ⟨s1, s2, s3, s4⟩ := B.2.1
  exact ⟨x, V1, V2, e1, e2, ⟨b, ⟨fun j hj => (m2 1001 j rfl).1.trans ((m1 1001 j rfl).1.trans (s1 j hj)), fun j hj => (m2 1002 j rfl).1.trans ((m1 1002 j rfl).1.trans (s2 j hj)), fun j hj => (m2 1004 j rfl).1.trans ((m1 1004 j rfl).1.trans (s3 j hj)), fun j hj => (m2 1005 j rfl).1.trans ((m1 1005 j rfl).1.trans (s4 j hj))⟩, LD_LE hl⟩, s⟩
theorem o3_font {N : Nat} (hN : 8589934592 ≤ N) {V : sv_V} (B : BK N V) (a : Int32) : ∃ x y V1 V2, F_X11_font a V = some (x, V1) ∧ F_X12_font a V1 = some (y, V2) ∧ BK N V2 ∧ V1.1 1000 = V.1 1000 := by
  obtain ⟨x, y, V1, V2, e1, e2, z, s⟩ := o2_font hN B.1 a
  exact ⟨x, y, V1, V2, e1, e2, ⟨z, KE_md (KE_md B.2 (m_X11_font sv_sub_rf e1) (by decide +kernel)) (m_X12_font sv_sub_rf e2) (by decide +kernel)⟩, s⟩
theorem o3_table {N : Nat} (hN : 8589934592 ≤ N) {V : sv_V} (B : BK N V) (a b : Int32) : ∃ x y V1 V2, F_X11_table a b V = some (x, V1) ∧ F_X12_table a b V1 = some (y, V2) ∧ BK N V2 ∧ V1.1 1000 = V.1 1000 := by
  obtain ⟨x, y, V1, V2, e1, e2, z, s⟩ := o2_table hN B.1 a b
  exact ⟨x, y, V1, V2, e1, e2, ⟨z, KE_md (KE_md B.2 (m_X11_table sv_sub_rf e1) (by decide +kernel)) (m_X12_table sv_sub_rf e2) (by decide +kernel)⟩, s⟩
theorem o3_glyphOf {N : Nat} (hN : 8589934592 ≤ N) {V : sv_V} (B : BK N V) (a : Int32) : ∃ x y V1 V2, F_X11_glyphOf N a V = some (x, V1) ∧ F_X12_glyphOf N a V1 = some (y, V2) ∧ BK N V2 ∧ V1.1 1000 = V.1 1000 := by
  obtain ⟨x, y, V1, V2, e1, e2, z, s⟩ := o2_glyphOf hN B.1 a
  exact ⟨x, y, V1, V2, e1, e2, ⟨z, KE_md (KE_md B.2 (m_X11_glyphOf sv_sub_rf e1) (by decide +kernel)) (m_X12_glyphOf sv_sub_rf e2) (by decide +kernel)⟩, s⟩
theorem o3_glyph {N : Nat} (hN : 8589934592 ≤ N) {V : sv_V} (B : BK N V) (a b : Int32) : ∃ x y V1 V2, F_X11_glyph a b V = some (x, V1) ∧ F_X12_glyph N a b V1 = some (y, V2) ∧ BK N V2 ∧ V1.1 1000 = V.1 1000 := by
  obtain ⟨x, y, V1, V2, e1, e2, z, s⟩ := o2_glyph hN B.1 a b
  exact ⟨x, y, V1, V2, e1, e2, ⟨z, KE_md (KE_md B.2 (m_X11_glyph sv_sub_rf e1) (by decide +kernel)) (m_X12_glyph sv_sub_rf e2) (by decide +kernel)⟩, s⟩
theorem o3_kern {N : Nat} (hN : 8589934592 ≤ N) {V : sv_V} (B : BK N V) (a b : Int32) : ∃ x y V1 V2, F_X11_kern N a b V = some (x, V1) ∧ F_X12_kern N a b V1 = some (y, V2) ∧ BK N V2 ∧ V1.1 1000 = V.1 1000 := by
  obtain ⟨x, y, V1, V2, e1, e2, z, s⟩ := o2_kern hN B.1 a b
  exact ⟨x, y, V1, V2, e1, e2, ⟨z, KE_md (KE_md B.2 (m_X11_kern sv_sub_rf e1) (by decide +kernel)) (m_X12_kern sv_sub_rf e2) (by decide +kernel)⟩, s⟩
theorem o3_size {N : Nat} (hN : 8589934592 ≤ N) {V : sv_V} (B : BK N V) (a : Int32) : ∃ x y V1 V2, F_X11_size N a V = some (x, V1) ∧ F_X12_size N a V1 = some (y, V2) ∧ BK N V2 ∧ V1.1 1000 = V.1 1000 := by
  obtain ⟨x, y, V1, V2, e1, e2, z, s⟩ := o2_size hN B.1 a
  exact ⟨x, y, V1, V2, e1, e2, ⟨z, KE_md (KE_md B.2 (m_X11_size sv_sub_rf e1) (by decide +kernel)) (m_X12_size sv_sub_rf e2) (by decide +kernel)⟩, s⟩
theorem o3_make {N : Nat} (hN : 8589934592 ≤ N) {V : sv_V} (B : BK N V) (a : Int32) : ∃ x y V1 V2, F_X11_make N a V = some (x, V1) ∧ F_X12_make N a V1 = some (y, V2) ∧ BK N V2 ∧ V1.1 1000 = V.1 1000 := by
  obtain ⟨x, y, V1, V2, e1, e2, z, s⟩ := o2_make hN B.1 a
  exact ⟨x, y, V1, V2, e1, e2, ⟨z, KE_md (KE_md B.2 (m_X11_make sv_sub_rf e1) (by decide +kernel)) (m_X12_make sv_sub_rf e2) (by decide +kernel)⟩, s⟩
theorem o3_point {N : Nat} (hN : 8589934592 ≤ N) {V : sv_V} (B : BK N V) (a b : Int32) : ∃ x y V1 V2, F_X11_point N a b V = some (x, V1) ∧ F_X12_point N a b V1 = some (y, V2) ∧ BK N V2 ∧ V1.1 1000 = V.1 1000 := by
  obtain ⟨x, y, V1, V2, e1, e2, z, s⟩ := o2_point hN B.1 a b
  exact ⟨x, y, V1, V2, e1, e2, ⟨z, KE_md (KE_md B.2 (m_X11_point sv_sub_rf e1) (by decide +kernel)) (m_X12_point sv_sub_rf e2) (by decide +kernel)⟩, s⟩
theorem o3_told {N : Nat} (hN : 8589934592 ≤ N) {V : sv_V} (B : BK N V) (a : Int32) : ∃ x y V1 V2, F_X11_told a V = some (x, V1) ∧ F_X12_told a V1 = some (y, V2) ∧ BK N V2 ∧ V1.1 1000 = V.1 1000 := by
  obtain ⟨x, y, V1, V2, e1, e2, z, s⟩ := o2_told hN B.1 a
  exact ⟨x, y, V1, V2, e1, e2, ⟨z, KE_md (KE_md B.2 (m_X11_told sv_sub_rf e1) (by decide +kernel)) (m_X12_told sv_sub_rf e2) (by decide +kernel)⟩, s⟩
theorem o3_held {N : Nat} (hN : 8589934592 ≤ N) {V : sv_V} (B : BK N V) (a b : Int32) : ∃ x y V1 V2, F_X11_held a b V = some (x, V1) ∧ F_X12_held a b V1 = some (y, V2) ∧ BK N V2 ∧ V1.1 1000 = V.1 1000 := by
  obtain ⟨x, y, V1, V2, e1, e2, z, s⟩ := o2_held hN B.1 a b
  exact ⟨x, y, V1, V2, e1, e2, ⟨z, KE_md (KE_md B.2 (m_X11_held sv_sub_rf e1) (by decide +kernel)) (m_X12_held sv_sub_rf e2) (by decide +kernel)⟩, s⟩
theorem o3_isIn {N : Nat} (hN : 8589934592 ≤ N) {V : sv_V} (B : BK N V) (a b : Int32) : ∃ x y V1 V2, F_X11_isIn N a b V = some (x, V1) ∧ F_X12_isIn N a b V1 = some (y, V2) ∧ BK N V2 ∧ V1.1 1000 = V.1 1000 := by
  obtain ⟨x, y, V1, V2, e1, e2, z, s⟩ := o2_isIn hN B.1 a b
  exact ⟨x, y, V1, V2, e1, e2, ⟨z, KE_md (KE_md B.2 (m_X11_isIn sv_sub_rf e1) (by decide +kernel)) (m_X12_isIn sv_sub_rf e2) (by decide +kernel)⟩, s⟩
theorem o3_canvas {N : Nat} (hN : 8589934592 ≤ N) {V : sv_V} (B : BK N V) (a b : Int32) : ∃ x y V1 V2, F_X11_canvas N a b V = some (x, V1) ∧ F_X12_canvas N a b V1 = some (y, V2) ∧ BK N V2 ∧ V1.1 1000 = V.1 1000 := by
  obtain ⟨x, y, V1, V2, e1, e2, z, s⟩ := o2_canvas hN B.1 a b
  exact ⟨x, y, V1, V2, e1, e2, ⟨z, KE_md (KE_md B.2 (m_X11_canvas sv_sub_rf e1) (by decide +kernel)) (m_X12_canvas sv_sub_rf e2) (by decide +kernel)⟩, s⟩
theorem o3_draw {N : Nat} (hN : 8589934592 ≤ N) {V : sv_V} (B : BK N V) (a b : Int32) : ∃ x y V1 V2, F_X11_draw N a b V = some (x, V1) ∧ F_X12_draw N a b V1 = some (y, V2) ∧ BK N V2 ∧ V1.1 1000 = V.1 1000 := by
  obtain ⟨x, y, V1, V2, e1, e2, z, s⟩ := o2_draw hN B.1 a b
  exact ⟨x, y, V1, V2, e1, e2, ⟨z, KE_md (KE_md B.2 (m_X11_draw sv_sub_rf e1) (by decide +kernel)) (m_X12_draw sv_sub_rf e2) (by decide +kernel)⟩, s⟩
theorem o3_pixel {N : Nat} (hN : 8589934592 ≤ N) {V : sv_V} (B : BK N V) (a b : Int32) : ∃ x y V1 V2, F_X11_pixel a b V = some (x, V1) ∧ F_X12_pixel a b V1 = some (y, V2) ∧ BK N V2 ∧ V1.1 1000 = V.1 1000 := by
  obtain ⟨x, y, V1, V2, e1, e2, z, s⟩ := o2_pixel hN B.1 a b
  exact ⟨x, y, V1, V2, e1, e2, ⟨z, KE_md (KE_md B.2 (m_X11_pixel sv_sub_rf e1) (by decide +kernel)) (m_X12_pixel sv_sub_rf e2) (by decide +kernel)⟩, s⟩
theorem o3_type {N : Nat} (hN : 8589934592 ≤ N) {V : sv_V} (B : BK N V) (a : Int32) : ∃ x y V1 V2, F_X11_type a V = some (x, V1) ∧ F_X12_type a V1 = some (y, V2) ∧ BK N V2 ∧ V1.1 1000 = V.1 1000 := by
  obtain ⟨x, y, V1, V2, e1, e2, z, s⟩ := o2_type hN B.1 a
  exact ⟨x, y, V1, V2, e1, e2, ⟨z, KE_md (KE_md B.2 (m_X11_type sv_sub_rf e1) (by decide +kernel)) (m_X12_type sv_sub_rf e2) (by decide +kernel)⟩, s⟩
theorem o3_line {N : Nat} (hN : 8589934592 ≤ N) {V : sv_V} (B : BK N V) (a b : Int32) : ∃ x y V1 V2, F_X11_line N a b V = some (x, V1) ∧ F_X12_line N a b V1 = some (y, V2) ∧ BK N V2 ∧ V1.1 1000 = V.1 1000 := by
  obtain ⟨x, y, V1, V2, e1, e2, z, s⟩ := o2_line hN B.1 a b
  exact ⟨x, y, V1, V2, e1, e2, ⟨z, KE_md (KE_md B.2 (m_X11_line sv_sub_rf e1) (by decide +kernel)) (m_X12_line sv_sub_rf e2) (by decide +kernel)⟩, s⟩
theorem o3_feed {N : Nat} (hN : 8589934592 ≤ N) {V : sv_V} (B : BK N V) (a : Int32) (b : Int64) : ∃ x y V1 V2, F_X11_feed N a b V = some (x, V1) ∧ F_X12_feed N a b V1 = some (y, V2) ∧ BK N V2 ∧ V1.1 1000 = V.1 1000 := by
  obtain ⟨x, y, V1, V2, e1, e2, z, s⟩ := o2_feed hN B.1 a b
  exact ⟨x, y, V1, V2, e1, e2, ⟨z, KE_md (KE_md B.2 (m_X11_feed sv_sub_rf e1) (by decide +kernel)) (m_X12_feed sv_sub_rf e2) (by decide +kernel)⟩, s⟩
theorem o3_wipe {N : Nat} {V : sv_V} (B : BK N V)  : ∃ x y V1 V2, F_X11_wipe  V = some (x, V1) ∧ F_X12_wipe  V1 = some (y, V2) ∧ BK N V2 ∧ V1.1 1000 = V.1 1000 := by
  obtain ⟨x, y, V1, V2, e1, e2, z, s⟩ := o2_wipe B.1 
  exact ⟨x, y, V1, V2, e1, e2, ⟨z, KE_md (KE_md B.2 (m_X11_wipe sv_sub_rf e1) (by decide +kernel)) (m_X12_wipe sv_sub_rf e2) (by decide +kernel)⟩, s⟩
end
section
/-! font, table, kern: the class and the reference alike -/
theorem ite_so {A : Type} {c : Prop} [Decidable c] {x y : A} {V : sv_V} {o : Option (A × sv_V)} (h : o = some (y, V)) : (if c then some (x, V) else o) = some ((if c then x else y), V) := by
  by_cases z : c
  · rw [if_pos z, if_pos z]
  · rw [if_neg z, if_neg z]
    exact h
def fntA (d : Nat → Int32) (n fo cnt : Nat) (a : Int32) : Int32 := if a = 0 then nI (unO d n) else if a = 1 then nI (glO d n) else if a = 2 then nI (meO d n) else if a = 3 then nI (foO d n) else if a = 4 then nI (tbl d n) else if a = 5 then nI fo else if a = 6 then nI (paO d n) else if a = 7 then nI (lO d n 1668707360 / 2) else if a = 8 then nI cnt else if a = 9 then nI n else -2
section FN
variable {d : Nat → Int32} {n N : Nat} {V V1 : sv_V}
/-- what a font that is LOADED fulfils -/
theorem FT_all (h : FT (KL d n) 1 0) : K1 d n ∧ K2 d n ∧ K3 d n ∧ K4 d n ∧ K5 d n ∧ K6 d n ∧ K7 d n ∧ K8 d n ∧ K9 d n ∧ K10 d n ∧ K11 d n ∧ K12 d n ∧ K13 d n ∧ K14 d n := by
  have nz : ∀ i : Nat, 0 < i → i < 20 → ¬ (0 : Int32) = nI i := fun i h0 h1 z => nI_ne0 h0 (by omega) z.symm
  rcases h with ⟨-, z⟩ | ⟨k1, h⟩
  · exact absurd z (nz 1 (by decide) (by decide))
  rcases h with ⟨-, z⟩ | ⟨k2, h⟩
  · exact absurd z (nz 2 (by decide) (by decide))
  rcases h with ⟨-, z⟩ | ⟨k3, h⟩
  · exact absurd z (nz 3 (by decide) (by decide))
  rcases h with ⟨-, z⟩ | ⟨k4, h⟩
  · exact absurd z (nz 4 (by decide) (by decide))
  rcases h with ⟨-, z⟩ | ⟨k5, h⟩
  · exact absurd z (nz 5 (by decide) (by decide))
  rcases h with ⟨-, z⟩ | ⟨k6, h⟩
  · exact absurd z (nz 6 (by decide) (by decide))
  rcases h with ⟨-, z⟩ | ⟨k7, h⟩
  · exact absurd z (nz 7 (by decide) (by decide))
  rcases h with ⟨-, z⟩ | ⟨k8, h⟩
  · exact absurd z (nz 8 (by decide) (by decide))
  rcases h with ⟨-, z⟩ | ⟨k9, h⟩
  · exact absurd z (nz 9 (by decide) (by decide))
  rcases h with ⟨-, z⟩ | ⟨k10, h⟩
  · exact absurd z (nz 10 (by decide) (by decide))
  rcases h with ⟨-, z⟩ | ⟨k11, h⟩
  · exact absurd z (nz 11 (by decide) (by decide))
  rcases h with ⟨-, z⟩ | ⟨k12, h⟩
  · exact absurd z (nz 12 (by decide) (by decide))
  rcases h with ⟨-, z⟩ | ⟨k13, h⟩
  · exact absurd z (nz 13 (by decide) (by decide))
  rcases h with ⟨-, z⟩ | ⟨k14, h⟩
  · exact absurd z (nz 14 (by decide) (by decide))
  exact ⟨k1, k2, k3, k4, k5, k6, k7, k8, k9, k10, k11, k12, k13, k14⟩
/-- the MAP, as both hold it -/
theorem LX_map (h : LX d n V) : ∃ fo at' len cnt, MPF d n fo at' len cnt ∧ (V.1 2 11 = nI fo ∧ V.1 2 12 = nI at' ∧ V.1 2 13 = nI len ∧ V.1 2 14 = nI cnt) ∧ V.1 146 22 = nI fo ∧ V.1 146 21 = nI at' ∧ V.1 146 23 = nI cnt := by
  obtain ⟨-, -, ⟨-, -, -, -, -, -, ⟨fo, at', len, cnt, z1, z2, z3, z4, z5⟩⟩, ⟨-, -, -, ⟨fo2, at2, len2, cnt2, y1, y2, y3, y4⟩, -, -⟩⟩ := h
  obtain ⟨e1, e2, e3, e4⟩ := MPF_u z1 y1
  subst e1 e2 e3 e4
  exact ⟨fo, at', len, cnt, z1, ⟨z2, z3, z4, z5⟩, y2, y3, y4⟩
theorem font_x {fo at' len cnt : Nat} (h : LX d n V) (hm : MPF d n fo at' len cnt) (h3 : K3 d n) (a : Int32) : F_X11_font a V = some (fntA d n fo cnt a, V) ∧ F_X12_font a V = some (fntA d n fo cnt a, V) := by
  obtain ⟨fo2, at2, len2, cnt2, m2, ⟨c11, -, -, c14⟩, r22, -, r23⟩ := LX_map h
  obtain ⟨e1, e2, e3, e4⟩ := MPF_u hm m2
  subst e1 e2 e3 e4
  obtain ⟨f1, f2, ⟨cb, c6, c7, c8, c9, c15, -⟩, ⟨⟨⟨⟨r1, r3, -⟩, r5, -⟩, r11, r12⟩, r10, r20, -, r24, r25⟩⟩ := h
  have c5 : V.1 5 (8 : Int32).toNatClampNeg = nI (lO d n 1668707360) := (cb.2.2.2 8 (by decide)).2
  have b1 := bO_le (t := 1668707360) h3
  constructor
  · unfold F_X11_font fntA
    rw [if_neg (by rw [f1]; decide), c6, c7, c8, c9, cb.2.1, c11, c15, c5, c14, cb.1.2.1, show nI (lO d n 1668707360) / (2 : Int32) = nI (lO d n 1668707360 / 2) from pk_div (d := 2) (by omega) (by decide) (by decide)]
    exact ite_so (ite_so (ite_so (ite_so (ite_so (ite_so (ite_so (ite_so (ite_so (ite_so rfl)))))))))
  · unfold F_X12_font fntA
    rw [if_neg (by rw [f2]; decide), r10, r12, r20, r11, r5, r22, r24, r25, r23, r3]
    exact ite_so (ite_so (ite_so (ite_so (ite_so (ite_so (ite_so (ite_so (ite_so (ite_so rfl)))))))))
/-- two calls that answer by the font alone -/
theorem two_alike {A : Type} {f g : sv_V → Option (A × sv_V)} {md : List (Nat × Option Nat)} {x y : A} {V1 V2 : sv_V} {no : A} (hE : LE V) (e1 : f V = some (x, V1)) (e2 : g V1 = some (y, V2)) (m : sv_eq md V V1) (c : md.all okq = true) (n1 : V.1 2 2 = 0 → Pt (fun q : A × sv_V => q.1 = no) (f V)) (n2 : V1.1 146 4 = 0 → Pt (fun q : A × sv_V => q.1 = no) (g V1)) (h : ∀ d n, DB d → FT (KL d n) 1 0 → LX d n V → LX d n V1 → ∃ z, Pt (fun q : A × sv_V => q.1 = z) (f V) ∧ Pt (fun q : A × sv_V => q.1 = z) (g V1)) : x = y := by
  rcases hE with ⟨a, b⟩ | ⟨d, n, hd, hf, hx⟩
  · have b1 : V1.1 146 4 = 0 := (m 146 4 (okq_h c (Or.inr (Or.inr (Or.inr ⟨rfl, by omega⟩))))).1.trans b
    exact (n1 a _ e1).trans (n2 b1 _ e2).symm
  · obtain ⟨z, p, q⟩ := h d n hd hf hx (LX_md hx m c)
    exact (p _ e1).trans (q _ e2).symm
theorem pt_e {A : Type} {x : A} {o : Option (A × sv_V)} (h : o = some (x, V)) : Pt (fun q : A × sv_V => q.1 = x) o := fun a e => by
  rw [h] at e
  cases e
  rfl
theorem al_font (hN : 8589934592 ≤ N) (B : BK N V) (a : Int32) : ∃ x V1 V2, F_X11_font a V = some (x, V1) ∧ F_X12_font a V1 = some (x, V2) ∧ BK N V2 ∧ V1.1 1000 = V.1 1000 := by
  obtain ⟨x, y, V1, V2, e1, e2, z, s⟩ := o3_font hN B a
  have exy : x = y := two_alike (no := -3) B.2.2 e1 e2 (m_X11_font sv_sub_rf e1) rfl (fun q => by unfold F_X11_font; rw [if_pos q]; exact pt_some rfl) (fun q => by unfold F_X12_font; rw [if_pos q]; exact pt_some rfl) (fun d n hd hf h1 h2 => by
    obtain ⟨fo, at', len, cnt, m, -⟩ := LX_map h1
    have k3 := (FT_all hf).2.2.1
    exact ⟨_, pt_e (font_x h1 m k3 a).1, pt_e (font_x h2 m k3 a).2⟩)
  subst exy
  exact ⟨x, V1, V2, e1, e2, z, s⟩
theorem in_0 {T : Nat} (h1 : 1 ≤ T) (h2 : T < 2 ^ 31) (a : Int32) : F_X12_in a.toInt64 0 ((nI T - 1).toInt64) V = some (if 0 ≤ a ∧ a < nI T then 1 else 0, V) := by
  rw [F_in]
  have e : ((0 : Int64) ≤ a.toInt64 ∧ a.toInt64 ≤ (nI T - 1).toInt64) ↔ (0 ≤ a ∧ a < nI T) := by
    rw [show nI T - (1 : Int32) = nI (T - 1) from pk_sub (b := 1) h1, show (0 : Int64) = (0 : Int32).toInt64 from rfl, toI64_le, toI64_le, Int32.le_iff_toInt_le, Int32.le_iff_toInt_le, Int32.lt_iff_toInt_lt, nI_toInt h2, nI_toInt (by omega)]
    omega
  by_cases c : 0 ≤ a ∧ a < nI T
  · rw [if_pos c, if_pos (e.mpr c)]
  · rw [if_neg c, if_neg (fun z => c (e.mp z))]
def tblA (d : Nat → Int32) (n : Nat) (a b : Int32) : Int64 := if 0 ≤ a ∧ a < nI (tbl d n) then (if 0 ≤ b ∧ b ≤ 3 then lN (en d n a.toNatClampNeg b.toNatClampNeg) else -2) else -1
theorem table_c (h : LX d n V) (h1 : K1 d n) (a b : Int32) : Pt (fun q : Int64 × sv_V => q.1 = tblA d n a b) (F_X11_table a b V) := by
  obtain ⟨-, -, t1, t2, -, -, -, ee⟩ := h1
  unfold F_X11_table tblA
  rw [if_neg (show ¬ V.1 2 2 = 0 by rw [h.1]; decide), h.2.2.1.1.2.1]
  refine pt_ite (fun q => pt_some ?_) (fun q => pt_ite (fun q1 => pt_ite (fun q2 => pt_some ?_) (fun q2 => pt_ite (fun q3 => ?_) (fun q3 => pt_some ?_))) (fun q1 => pt_some ?_))
  · rw [if_neg (fun z => absurd z.1 (Int32.not_le.mpr q))]
  · rw [if_pos ⟨Int32.not_lt.mp q, q1⟩, if_neg (fun z => absurd z.1 (Int32.not_le.mpr q2))]
  · rw [if_pos ⟨Int32.not_lt.mp q, q1⟩, if_pos ⟨Int32.not_lt.mp q2, q3⟩]
    obtain ⟨k, hk, rfl⟩ := nI_of q
    obtain ⟨w, hw, rfl⟩ := nI_of q2
    have k1 := (nI_ltI hk (by omega)).mp q1
    have w1 := (nI_leI (b := 3) hw (by decide)).mp q3
    rw [nI_clamp hk, nI_clamp hw, show (16 : Int32) * nI k = nI (16 * k) from pk_mul 16 _, show (12 : Int32) + nI (16 * k) = nI (12 + 16 * k) from nI_add 12 _, show (4 : Int32) * nI w = nI (4 * w) from pk_mul 4 _, nI_add, u4_c h.2.2.1.1.1 (by omega), Option.bind_some, c4_g (by omega)]
    exact pt_some rfl
  · rw [if_pos ⟨Int32.not_lt.mp q, q1⟩, if_neg (fun z => q3 z.2)]
  · rw [if_neg (fun z => q1 z.2)]
theorem table_r (h : LX d n V) (h1 : K1 d n) (a b : Int32) : Pt (fun q : Int64 × sv_V => q.1 = tblA d n a b) (F_X12_table a b V) := by
  obtain ⟨-, -, t1, t2, -, -, -, ee⟩ := h1
  have rb := h.2.2.2.1.1
  unfold F_X12_table
  rw [if_neg (show ¬ V.1 146 4 = 0 by rw [h.2.1]; decide), rb.2.1, in_0 t1 (by omega), Option.bind_some]
  dsimp only
  refine pt_ite (fun q => pt_some ?_) (fun q => ?_)
  · unfold tblA
    rw [if_neg (ite_z.mp q)]
  have q' := nnx (fun z => q (ite_z.mpr z))
  obtain ⟨k, hk, rfl⟩ := nI_of (Int32.not_lt.mpr q'.1)
  have k1 := (nI_ltI hk (by omega)).mp q'.2
  obtain ⟨e0, e1, e2, e3⟩ := rb.2.2 k k1
  have l0 := en_lt (d := d) (n := n) (k := k) (w := 0)
  have ta : tblA d n (nI k) b = if 0 ≤ b ∧ b ≤ 3 then lN (en d n k b.toNatClampNeg) else -2 := by
    unfold tblA
    rw [if_pos q', nI_clamp hk]
  rw [nI_clamp hk, e0, e1, e2, e3, tag_and l0, ta]
  refine pt_ite (fun z => pt_g fun _ => pt_some ?_) (fun z0 => pt_ite (fun z => pt_g fun _ => pt_some ?_) (fun z1 => pt_ite (fun z => pt_g fun _ => pt_some ?_) (fun z2 => pt_ite (fun z => pt_g fun _ => pt_some ?_) (fun z3 => pt_some ?_))))
  · subst z
    rfl
  · subst z
    rfl
  · subst z
    rfl
  · subst z
    rfl
  · rw [if_neg (fun z => ?_)]
    obtain ⟨w, hw, e⟩ := nI_of (Int32.not_lt.mpr z.1)
    subst e
    have w1 := (nI_leI (b := 3) hw (by decide)).mp z.2
    match w, w1 with
    | 0, _ => exact z0 rfl
    | 1, _ => exact z1 rfl
    | 2, _ => exact z2 rfl
    | 3, _ => exact z3 rfl
    | w + 4, w1 => omega
theorem al_table (hN : 8589934592 ≤ N) (B : BK N V) (a b : Int32) : ∃ x V1 V2, F_X11_table a b V = some (x, V1) ∧ F_X12_table a b V1 = some (x, V2) ∧ BK N V2 ∧ V1.1 1000 = V.1 1000 := by
  obtain ⟨x, y, V1, V2, e1, e2, z, s⟩ := o3_table hN B a b
  have exy : x = y := two_alike (no := -3) B.2.2 e1 e2 (m_X11_table sv_sub_rf e1) rfl (fun q => by unfold F_X11_table; rw [if_pos q]; exact pt_some rfl) (fun q => by unfold F_X12_table; rw [if_pos q]; exact pt_some rfl) (fun d n hd hf h1 h2 => ⟨_, table_c h1 (FT_all hf).1 a b, table_r h2 (FT_all hf).1 a b⟩)
  subst exy
  exact ⟨x, V1, V2, e1, e2, z, s⟩
def kF (d : Nat → Int32) (n l r f k : Nat) : Int32 := match f with
  | 0 => 0
  | f + 1 => if g2 d n (bO d n 1801810542 + 18 + 6 * k) = l ∧ g2 d n (bO d n 1801810542 + 20 + 6 * k) = r then s16 (g2 d n (bO d n 1801810542 + 22 + 6 * k)) else kF d n l r f (k + 1)
theorem kern_in (h3 : K3 d n) (h13 : K13 d n) {k : Nat} (hk : k < paO d n) : bO d n 1801810542 + 24 + 6 * k ≤ n ∧ k < 500 := by
  have b := bO_le (t := 1801810542) h3
  unfold paO at hk
  split at hk
  · omega
  · rename_i c
    have z := h13.resolve_left c
    have z1 := z.2.2.2.2.1
    have z2 := z.2.2.2.2.2.1
    omega
theorem kernOf_c {l r : Nat} (hd : DB d) (h : LX d n V) (h3 : K3 d n) (h13 : K13 d n) (hl : l < 65536) (hr : r < 65536) : Pt (fun q : Int32 × sv_V => q.1 = kF d n l r (paO d n) 0) (F_X2_kernOf N (nI l) (nI r) V) := by
  have fc := h.2.2.1.1.1
  have hn := fc.1
  have c15 := h.2.2.1.2.2.2.2.2.1
  have cb : V.1 4 (7 : Int32).toNatClampNeg = nI (bO d n 1801810542) := (h.2.2.1.1.2.2.2 7 (by decide)).1
  have pl : paO d n < 65536 := by
    unfold paO
    split
    · decide
    · exact g2_lt
  unfold F_X2_kernOf
  refine pt_l4 (I := fun a1 a2 a3 W => W = V ∧ a1 = nI l ∧ a2 = nI r ∧ ∃ k, a3 = nI k ∧ k ≤ paO d n ∧ kF d n l r (paO d n - k) k = kF d n l r (paO d n) 0) ?_ N _ _ _ V ⟨rfl, rfl, rfl, 0, rfl, Nat.zero_le _, rfl⟩
  rintro kk ih a1 a2 a3 W ⟨rfl, rfl, rfl, k, rfl, kl, hk⟩
  unfold B_X2_kernOf_2
  rw [c15]
  refine pt_ite (fun q => ?_) (fun q => ?_)
  · have e : k = paO d n := by
      have := (nI_leI (by omega) (by omega)).mp q
      omega
    rw [e, Nat.sub_self] at hk
    exact pt_some hk
  have hkp : k < paO d n := nI_nle2 q (by omega)
  obtain ⟨i1, i2⟩ := kern_in h3 h13 hkp
  obtain ⟨m, hm⟩ : ∃ m, paO d n - k = m + 1 := ⟨paO d n - k - 1, by omega⟩
  rw [hm] at hk
  rw [show kF d n l r (m + 1) k = (if g2 d n (bO d n 1801810542 + 18 + 6 * k) = l ∧ g2 d n (bO d n 1801810542 + 20 + 6 * k) = r then s16 (g2 d n (bO d n 1801810542 + 22 + 6 * k)) else kF d n l r m (k + 1)) from rfl] at hk
  have a1 := g2_lt (d := d) (n := n) (P := bO d n 1801810542 + 18 + 6 * k)
  have a2 := g2_lt (d := d) (n := n) (P := bO d n 1801810542 + 20 + 6 * k)
  refine pt_let fun x3 e3 => ?_
  rw [cb, show nI (bO d n 1801810542) + (18 : Int32) = nI (bO d n 1801810542 + 18) from nI_add _ 18, show (6 : Int32) * nI k = nI (6 * k) from pk_mul 6 _, nI_add] at e3
  subst e3
  have g58 : ¬ (g2 d n (bO d n 1801810542 + 18 + 6 * k) = l ∧ g2 d n (bO d n 1801810542 + 20 + 6 * k) = r) → Pt (fun q : Int32 × sv_V => q.1 = kF d n l r (paO d n) 0) (B_X2_kernOf_58 N kk (nI l) (nI r) (nI k) W) := fun z => by
    unfold B_X2_kernOf_58
    rw [if_neg z] at hk
    exact pt_let fun x1 hx => ih _ _ _ _ ⟨rfl, rfl, rfl, k + 1, by rw [hx, nI_1], hkp, by rw [show paO d n - (k + 1) = m by omega]; exact hk⟩
  rw [u2_c fc (by omega), Option.bind_some, c2_g (by omega)]
  dsimp only
  refine pt_ite (fun q1 => ?_) (fun q1 => g58 (fun z => q1 (by rw [z.1])))
  rw [show nI (bO d n 1801810542 + 18 + 6 * k) + (2 : Int32) = nI (bO d n 1801810542 + 20 + 6 * k) by rw [show bO d n 1801810542 + 20 + 6 * k = bO d n 1801810542 + 18 + 6 * k + 2 by omega]; exact nI_add _ 2, u2_c fc (by omega), Option.bind_some, c2_g (by omega)]
  dsimp only
  refine pt_ite (fun q2 => ?_) (fun q2 => g58 (fun z => q2 (by rw [z.2])))
  rw [if_pos ⟨(nI_eq (by omega) (by omega)).mp q1, (nI_eq (by omega) (by omega)).mp q2⟩] at hk
  rw [show nI (bO d n 1801810542 + 18 + 6 * k) + (4 : Int32) = nI (bO d n 1801810542 + 22 + 6 * k) by rw [show bO d n 1801810542 + 22 + 6 * k = bO d n 1801810542 + 18 + 6 * k + 4 by omega]; exact nI_add _ 4, s2_c hd fc (by omega), Option.bind_some, c2_g (by omega)]
  exact pt_some hk
theorem kernOf_r {l r : Nat} (h : LX d n V) (h1 : K1 d n) (h3 : K3 d n) (h13 : K13 d n) (hl : l < 65536) (hr : r < 65536) : Pt (fun q : Int32 × sv_V => q.1 = kF d n l r (paO d n) 0) (F_X12_kernOf N (nI l) (nI r) V) := by
  have rb := h.2.2.2.1.1
  have fr := rb.1
  have hn := fr.1
  have r24 := h.2.2.2.2.2.2.2.1
  have pl : paO d n < 65536 := by
    unfold paO
    split
    · decide
    · exact g2_lt
  unfold F_X12_kernOf
  refine pt_bb (beginOf_r (t := 1801810542) rb h1 (by decide)) ?_
  rintro _ rfl
  dsimp only
  refine pt_l5 (I := fun a1 a2 a3 a4 W => W = V ∧ a1 = nI l ∧ a2 = nI r ∧ a3 = nI (bO d n 1801810542) ∧ ∃ k, a4 = nI k ∧ k ≤ paO d n ∧ kF d n l r (paO d n - k) k = kF d n l r (paO d n) 0) ?_ N _ _ _ _ V ⟨rfl, rfl, rfl, rfl, 0, rfl, Nat.zero_le _, rfl⟩
  rintro kk ih a1 a2 a3 a4 W ⟨rfl, rfl, rfl, rfl, k, rfl, kl, hk⟩
  unfold B_X12_kernOf_11
  rw [r24]
  refine pt_ite (fun q => ?_) (fun q => ?_)
  · have e : k = paO d n := by
      have := (nI_leI (by omega) (by omega)).mp q
      omega
    rw [e, Nat.sub_self] at hk
    exact pt_some hk
  have hkp : k < paO d n := nI_nle2 q (by omega)
  obtain ⟨i1, i2⟩ := kern_in h3 h13 hkp
  obtain ⟨m, hm⟩ : ∃ m, paO d n - k = m + 1 := ⟨paO d n - k - 1, by omega⟩
  rw [hm] at hk
  rw [show kF d n l r (m + 1) k = (if g2 d n (bO d n 1801810542 + 18 + 6 * k) = l ∧ g2 d n (bO d n 1801810542 + 20 + 6 * k) = r then s16 (g2 d n (bO d n 1801810542 + 22 + 6 * k)) else kF d n l r m (k + 1)) from rfl] at hk
  have a1 := g2_lt (d := d) (n := n) (P := bO d n 1801810542 + 18 + 6 * k)
  have a2 := g2_lt (d := d) (n := n) (P := bO d n 1801810542 + 20 + 6 * k)
  refine pt_let fun x3 e3 => ?_
  rw [show nI (bO d n 1801810542) + (18 : Int32) = nI (bO d n 1801810542 + 18) from nI_add _ 18, show (6 : Int32) * nI k = nI (6 * k) from pk_mul 6 _, nI_add] at e3
  subst e3
  have g63 : ¬ (g2 d n (bO d n 1801810542 + 18 + 6 * k) = l ∧ g2 d n (bO d n 1801810542 + 20 + 6 * k) = r) → Pt (fun q : Int32 × sv_V => q.1 = kF d n l r (paO d n) 0) (B_X12_kernOf_63 N kk (nI l) (nI r) (nI (bO d n 1801810542)) (nI k) W) := fun z => by
    unfold B_X12_kernOf_63
    rw [if_neg z] at hk
    exact pt_let fun x1 hx => ih _ _ _ _ _ ⟨rfl, rfl, rfl, rfl, k + 1, by rw [hx, nI_1], hkp, by rw [show paO d n - (k + 1) = m by omega]; exact hk⟩
  rw [u2_r fr (by omega), Option.bind_some]
  dsimp only
  refine pt_ite (fun q1 => ?_) (fun q1 => g63 (fun z => q1 (by rw [z.1])))
  rw [show nI (bO d n 1801810542 + 18 + 6 * k) + (2 : Int32) = nI (bO d n 1801810542 + 20 + 6 * k) by rw [show bO d n 1801810542 + 20 + 6 * k = bO d n 1801810542 + 18 + 6 * k + 2 by omega]; exact nI_add _ 2, u2_r fr (by omega), Option.bind_some]
  dsimp only
  refine pt_ite (fun q2 => ?_) (fun q2 => g63 (fun z => q2 (by rw [z.2])))
  rw [if_pos ⟨(nI_eq (by omega) (by omega)).mp q1, (nI_eq (by omega) (by omega)).mp q2⟩] at hk
  rw [show nI (bO d n 1801810542 + 18 + 6 * k) + (4 : Int32) = nI (bO d n 1801810542 + 22 + 6 * k) by rw [show bO d n 1801810542 + 22 + 6 * k = bO d n 1801810542 + 18 + 6 * k + 4 by omega]; exact nI_add _ 4, s2_r fr (by omega), Option.bind_some]
  exact pt_some hk
theorem hasG (h : V.1 2 7 = nI (glO d n)) (a : Int32) : F_X2_hasGlyph a V = some (if 0 ≤ a ∧ a < nI (glO d n) then 1 else 0, V) := by
  unfold F_X2_hasGlyph
  rw [h]
  by_cases q : a < 0
  · rw [if_pos q, if_neg (fun z => absurd z.1 (Int32.not_le.mpr q))]
  · rw [if_neg q]
    by_cases q1 : nI (glO d n) ≤ a
    · rw [if_pos q1, if_neg (fun z => absurd z.2 (Int32.not_lt.mpr q1))]
    · rw [if_neg q1, if_pos ⟨Int32.not_lt.mp q, Int32.not_le.mp q1⟩]
def krnA (d : Nat → Int32) (n : Nat) (a b : Int32) : Int32 := if 0 ≤ a ∧ a < nI (glO d n) then (if 0 ≤ b ∧ b < nI (glO d n) then kF d n a.toNatClampNeg b.toNatClampNeg (paO d n) 0 else -1) else -1
theorem kern_x1 (hd : DB d) (h : LX d n V) (h3 : K3 d n) (h7 : glO d n ≤ 200) (h13 : K13 d n) (a b : Int32) : Pt (fun q : Int32 × sv_V => q.1 = krnA d n a b) (F_X11_kern N a b V) := by
  have g := h.2.2.1.2.2.1
  unfold F_X11_kern
  rw [if_neg (show ¬ V.1 2 2 = 0 by rw [h.1]; decide), hasG g, Option.bind_some]
  dsimp only
  refine pt_ite (fun q => pt_some ?_) (fun q => ?_)
  · unfold krnA
    rw [if_neg (ite_z.mp q)]
  have qa := nnx (fun z => q (ite_z.mpr z))
  rw [hasG g, Option.bind_some]
  dsimp only
  refine pt_ite (fun q1 => pt_some ?_) (fun q1 => ?_)
  · unfold krnA
    rw [if_pos qa, if_neg (ite_z.mp q1)]
  have qb := nnx (fun z => q1 (ite_z.mpr z))
  have ka : krnA d n a b = kF d n a.toNatClampNeg b.toNatClampNeg (paO d n) 0 := by
    unfold krnA
    rw [if_pos qa, if_pos qb]
  obtain ⟨i, hi, rfl⟩ := nI_of (Int32.not_lt.mpr qa.1)
  obtain ⟨j, hj, rfl⟩ := nI_of (Int32.not_lt.mpr qb.1)
  have i1 := (nI_ltI hi (by omega)).mp qa.2
  have j1 := (nI_ltI hj (by omega)).mp qb.2
  rw [nI_clamp hi, nI_clamp hj] at ka
  rw [ka]
  refine pt_bb (kernOf_c hd h h3 h13 (by omega) (by omega)) ?_
  rintro ⟨x, U⟩ hx
  exact pt_some hx
theorem kern_x2 (h : LX d n V) (h1 : K1 d n) (h3 : K3 d n) (h70 : 1 ≤ glO d n) (h7 : glO d n ≤ 200) (h13 : K13 d n) (a b : Int32) : Pt (fun q : Int32 × sv_V => q.1 = krnA d n a b) (F_X12_kern N a b V) := by
  have g := h.2.2.2.1.2.2
  unfold F_X12_kern
  rw [if_neg (show ¬ V.1 146 4 = 0 by rw [h.2.1]; decide), g, in_0 h70 (by omega), Option.bind_some]
  dsimp only
  refine pt_ite (fun q => pt_some ?_) (fun q => ?_)
  · unfold krnA
    rw [if_neg (ite_z.mp q)]
  have qa := nnx (fun z => q (ite_z.mpr z))
  rw [g, in_0 h70 (by omega), Option.bind_some]
  dsimp only
  refine pt_ite (fun q1 => pt_some ?_) (fun q1 => ?_)
  · unfold krnA
    rw [if_pos qa, if_neg (ite_z.mp q1)]
  have qb := nnx (fun z => q1 (ite_z.mpr z))
  have ka : krnA d n a b = kF d n a.toNatClampNeg b.toNatClampNeg (paO d n) 0 := by
    unfold krnA
    rw [if_pos qa, if_pos qb]
  obtain ⟨i, hi, rfl⟩ := nI_of (Int32.not_lt.mpr qa.1)
  obtain ⟨j, hj, rfl⟩ := nI_of (Int32.not_lt.mpr qb.1)
  have i1 := (nI_ltI hi (by omega)).mp qa.2
  have j1 := (nI_ltI hj (by omega)).mp qb.2
  rw [nI_clamp hi, nI_clamp hj] at ka
  rw [ka]
  refine pt_bb (kernOf_r h h1 h3 h13 (by omega) (by omega)) ?_
  rintro ⟨x, U⟩ hx
  exact pt_some hx
theorem al_kern (hN : 8589934592 ≤ N) (B : BK N V) (a b : Int32) : ∃ x V1 V2, F_X11_kern N a b V = some (x, V1) ∧ F_X12_kern N a b V1 = some (x, V2) ∧ BK N V2 ∧ V1.1 1000 = V.1 1000 := by
  obtain ⟨x, y, V1, V2, e1, e2, z, s⟩ := o3_kern hN B a b
  have exy : x = y := two_alike (no := -3) B.2.2 e1 e2 (m_X11_kern sv_sub_rf e1) rfl (fun q => by unfold F_X11_kern; rw [if_pos q]; exact pt_some rfl) (fun q => by unfold F_X12_kern; rw [if_pos q]; exact pt_some rfl) (fun d n hd hf h1 h2 => by
    obtain ⟨k1, -, k3, -, -, -, k7, -, -, -, -, -, k13, -⟩ := FT_all hf
    exact ⟨_, kern_x1 hd h1 k3 k7.2.2.1.2 k13 a b, kern_x2 h2 k1 k3 k7.2.2.1.1 k7.2.2.1.2 k13 a b⟩)
  subst exy
  exact ⟨x, V1, V2, e1, e2, z, s⟩
end FN
end
