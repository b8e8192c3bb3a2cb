/-! 11 GLYPHS: the reference reads parts -/
def CSx (d : Nat → Int32) (n b e k m : Nat) (W : sv_V) : Prop := FR d n W ∧ W.1 146 12 = nI (glO d n) ∧ W.1 146 27 = nI e ∧ W.1 146 32 = 0 ∧ W.1 146 30 = nI k ∧ ∀ j, j < m → W.1 158 j = nI (g2 d n (pos d n b j + 2))
section RC
variable {d : Nat → Int32} {n N b e k m : Nat} {V W : sv_V}
theorem CSx_e (h : CSx d n b e k m V) (q : ∀ a i, W.1 a i = V.1 a i) : CSx d n b e k m W := ⟨⟨h.1.1, (q _ _).trans h.1.2.1, fun j hj => (q _ _).trans (h.1.2.2 j hj)⟩, (q _ _).trans h.2.1, (q _ _).trans h.2.2.1, (q _ _).trans h.2.2.2.1, (q _ _).trans h.2.2.2.2.1, fun j hj => (q _ _).trans (h.2.2.2.2.2 j hj)⟩
theorem CSx_w (h : CSx d n b e k m V) {a i : Nat} {x : Int32} (q : W = sv_I V a i x) (ha : a = 157 ∨ a = 159 ∨ a = 160 ∨ a = 161) : CSx d n b e k m W := by
  subst q
  have c : ∀ c j, c = 146 ∨ c = 148 ∨ c = 158 → (sv_I V a i x).1 c j = V.1 c j := fun c j hc => vI_cell _ _ _ _ (by omega)
  exact ⟨⟨h.1.1, (c _ _ (by omega)).trans h.1.2.1, fun j hj => (c _ _ (by omega)).trans (h.1.2.2 j hj)⟩, (c _ _ (by omega)).trans h.2.1, (c _ _ (by omega)).trans h.2.2.1, (c _ _ (by omega)).trans h.2.2.2.1, (c _ _ (by omega)).trans h.2.2.2.2.1, fun j hj => (c _ _ (by omega)).trans (h.2.2.2.2.2 j hj)⟩
variable {Q : Int32 × sv_V → Prop} {kk : Int32 → Int32 → Int32 → sv_V → Option (Int32 × sv_V)}
def HKK (d : Nat → Int32) (n b e k : Nat) (Q : Int32 × sv_V → Prop) (kk : Int32 → Int32 → Int32 → sv_V → Option (Int32 × sv_V)) : Prop := ∀ (s : Int32) (U : sv_V), CSx d n b e (k + 1) (k + 1) U → (s = 0 ∧ nI (g2 d n (pos d n b k)) &&& 32 = 0) ∨ (s = 1 ∧ ¬ nI (g2 d n (pos d n b k)) &&& 32 = 0) → Pt Q (kk (nI (pos d n b (k + 1))) s (nI (g2 d n (pos d n b k))) U)
theorem c468 {P s1 s2 : _} (hk : k < 8) (hP : P + 2 * pS (g2 d n (pos d n b k)) = pos d n b (k + 1)) (H : HKK d n b e k Q kk) (h : CSx d n b e k (k + 1) V) : Pt Q (B_X12_composed_468 N kk (nI P) (nI (g2 d n (pos d n b k))) (nI (pS (g2 d n (pos d n b k)))) s1 s2 V) := by
  unfold B_X12_composed_468
  refine pt_g fun _ => pt_let fun V2 e2 => pt_let fun x3 e3 => pt_let fun V4 e4 => ?_
  have h2 := CSx_w h e2 (by omega)
  rw [show (2 : Int32) * nI (pS (g2 d n (pos d n b k))) = nI (2 * pS (g2 d n (pos d n b k))) from pk_mul 2 _, nI_add, hP] at e3
  subst e3
  rw [h2.2.2.2.2.1, nI_1] at e4
  have h4 : CSx d n b e (k + 1) (k + 1) V4 := by
    subst e4
    exact ⟨FR_I h2.1 ⟨Or.inr (by decide), by decide⟩, h2.2.1, h2.2.2.1, h2.2.2.2.1, rfl, fun j hj => (vI_cell _ _ _ _ (by decide)).trans (h2.2.2.2.2.2 j hj)⟩
  refine pt_ite (fun q => ?_) (fun q => ?_)
  · unfold B_X12_composed_498
    exact H 0 V4 h4 (Or.inl ⟨rfl, q⟩)
  · unfold B_X12_composed_498
    exact H 1 V4 h4 (Or.inr ⟨rfl, q⟩)
theorem c440 {P l4 s1 s2 : _} (hk : k < 8) (hP : P + 2 * pS (g2 d n (pos d n b k)) = pos d n b (k + 1)) (H : HKK d n b e k Q kk) (h : CSx d n b e k (k + 1) V) : Pt Q (B_X12_composed_440 N kk (nI P) (nI (g2 d n (pos d n b k))) l4 (nI (pS (g2 d n (pos d n b k)))) s1 s2 V) := by
  unfold B_X12_composed_440
  refine pt_g fun _ => pt_let fun V2 e2 => ?_
  have h2 := CSx_w h e2 (by omega)
  refine pt_ite (fun _ => pt_b fun z hz => ?_) (fun _ => c468 hk hP H h2)
  obtain ⟨x, U⟩ := z
  exact c468 hk hP H (CSx_e h2 (fun a i => (m_X12_s2 sv_sub_rf hz a i rfl).1))
theorem c412 {P l4 s1 s2 : _} (hk : k < 8) (hP : P + 2 * pS (g2 d n (pos d n b k)) = pos d n b (k + 1)) (H : HKK d n b e k Q kk) (h : CSx d n b e k (k + 1) V) : Pt Q (B_X12_composed_412 N kk (nI P) (nI (g2 d n (pos d n b k))) l4 (nI (pS (g2 d n (pos d n b k)))) s1 s2 V) := by
  unfold B_X12_composed_412
  refine pt_g fun _ => pt_let fun V2 e2 => ?_
  have h2 := CSx_w h e2 (by omega)
  refine pt_ite (fun _ => pt_b fun z hz => ?_) (fun _ => c440 hk hP H h2)
  obtain ⟨x, U⟩ := z
  exact c440 hk hP H (CSx_e h2 (fun a i => (m_X12_s2 sv_sub_rf hz a i rfl).1))
theorem c352 {P l4 s1 s2 : _} (hk : k < 8) (hP : P + 2 * pS (g2 d n (pos d n b k)) = pos d n b (k + 1)) (H : HKK d n b e k Q kk) (h : CSx d n b e k (k + 1) V) : Pt Q (B_X12_composed_352 N kk (nI P) (nI (g2 d n (pos d n b k))) l4 (nI (pS (g2 d n (pos d n b k)))) s1 s2 V) := by
  unfold B_X12_composed_352
  refine pt_g fun _ => pt_let fun V2 e2 => ?_
  have h2 := CSx_w h e2 (by omega)
  refine pt_ite (fun _ => c412 hk hP H h2) (fun _ => pt_ite (fun _ => pt_b fun z hz => ?_) (fun _ => pt_ite (fun _ => pt_b fun z hz => ?_) (fun _ => pt_b fun z hz => ?_)))
  · obtain ⟨x, U⟩ := z
    exact c412 hk hP H (CSx_e h2 (fun a i => (m_X12_s2 sv_sub_rf hz a i rfl).1))
  · obtain ⟨x, U⟩ := z
    exact c412 hk hP H (CSx_e h2 (fun a i => (m_X12_s2 sv_sub_rf hz a i rfl).1))
  · obtain ⟨x, U⟩ := z
    exact c412 hk hP H (CSx_e h2 (fun a i => (m_X12_s2 sv_sub_rf hz a i rfl).1))
theorem c298 {P w : Nat} {l4 : Int32} (hk : k < 8) (hP : P + w + 2 * pS (g2 d n (pos d n b k)) = pos d n b (k + 1)) (H : HKK d n b e k Q kk) (h : CSx d n b e k (k + 1) V) : Pt Q (B_X12_composed_298 N kk (nI (g2 d n (pos d n b k))) l4 (nI (pS (g2 d n (pos d n b k)))) (nI P) (nI w) V) := by
  unfold B_X12_composed_298
  refine pt_let fun x40 e40 => ?_
  rw [nI_add] at e40
  subst e40
  refine pt_l6 (I := fun a1 a3 a4 a7 _ U => a1 = nI (P + w) ∧ a3 = nI (g2 d n (pos d n b k)) ∧ a4 = l4 ∧ a7 = nI (pS (g2 d n (pos d n b k))) ∧ CSx d n b e k (k + 1) U) ?_ N _ _ _ _ _ V ⟨rfl, rfl, rfl, rfl, h⟩
  rintro k2 ih a1 a3 a4 a7 a8 U ⟨rfl, rfl, rfl, rfl, hU⟩
  unfold B_X12_composed_303
  refine pt_ite (fun _ => pt_ite (fun _ => c352 hk hP H hU) (fun _ => pt_b fun z hz => ?_)) (fun _ => pt_g fun _ => pt_let fun V38 e38 => pt_let fun x39 _ => ih _ _ _ _ _ _ ⟨rfl, rfl, rfl, rfl, CSx_w hU e38 (by omega)⟩)
  obtain ⟨x, X⟩ := z
  exact c352 hk hP H (CSx_e hU (fun a i => (m_X12_s2 sv_sub_rf hz a i rfl).1))
theorem c286 {P : Nat} {l4 l5 s1 s2 : Int32} (hk : k < 8) (hl : (l5 = 0 ∧ pW (g2 d n (pos d n b k)) = 2) ∨ (l5 = 1 ∧ pW (g2 d n (pos d n b k)) = 4)) (hP : P + pW (g2 d n (pos d n b k)) + 2 * pS (g2 d n (pos d n b k)) = pos d n b (k + 1)) (H : HKK d n b e k Q kk) (h : CSx d n b e k (k + 1) V) : Pt Q (B_X12_composed_286 N kk (nI P) (nI (g2 d n (pos d n b k))) l4 l5 (nI (pS (g2 d n (pos d n b k)))) s1 s2 V) := by
  unfold B_X12_composed_286
  refine pt_g fun _ => pt_let fun V2 e2 => ?_
  have h2 := CSx_w h e2 (by omega)
  refine pt_ite (fun q => ?_) (fun q => ?_)
  · have ew : pW (g2 d n (pos d n b k)) = 2 := by
      rcases hl with z | z
      · exact z.2
      · rw [z.1] at q
        exact absurd q (by decide)
    rw [ew] at hP
    exact c298 (w := 2) hk hP H h2
  · have ew : pW (g2 d n (pos d n b k)) = 4 := by
      rcases hl with z | z
      · exact absurd z.1 q
      · exact z.2
    rw [ew] at hP
    exact c298 (w := 4) hk hP H h2
theorem c227 {P : Nat} {l4 l5 l6 s1 s2 : Int32} (hk : k < 8) (hl : (l5 = 0 ∧ pW (g2 d n (pos d n b k)) = 2) ∨ (l5 = 1 ∧ pW (g2 d n (pos d n b k)) = 4)) (hP : P + pW (g2 d n (pos d n b k)) + 2 * pS (g2 d n (pos d n b k)) = pos d n b (k + 1)) (H : HKK d n b e k Q kk) (h : CSx d n b e k (k + 1) V) : Pt Q (B_X12_composed_227 N kk (nI P) (nI (g2 d n (pos d n b k))) l4 l5 l6 (nI (pS (g2 d n (pos d n b k)))) s1 s2 V) := by
  unfold B_X12_composed_227
  refine pt_g fun _ => pt_let fun V2 e2 => ?_
  have h2 := CSx_w h e2 (by omega)
  refine pt_ite (fun _ => pt_ite (fun _ => pt_b fun z hz => ?_) (fun _ => pt_b fun z hz => ?_)) (fun _ => pt_ite (fun _ => pt_b fun z hz => ?_) (fun _ => pt_b fun z hz => ?_))
  · obtain ⟨x, U⟩ := z
    exact c286 hk hl hP H (CSx_e h2 (fun a i => (m_X12_u1 sv_sub_rf hz a i rfl).1))
  · obtain ⟨x, U⟩ := z
    exact c286 hk hl hP H (CSx_e h2 (fun a i => (m_X12_s1 sv_sub_rf hz a i rfl).1))
  · obtain ⟨x, U⟩ := z
    exact c286 hk hl hP H (CSx_e h2 (fun a i => (m_X12_u2 sv_sub_rf hz a i rfl).1))
  · obtain ⟨x, U⟩ := z
    exact c286 hk hl hP H (CSx_e h2 (fun a i => (m_X12_s2 sv_sub_rf hz a i rfl).1))
theorem c162 {P : Nat} {l4 l5 l6 s1 : Int32} (hk : k < 8) (hbig : P < 100000) (hee : e < 100000) (hl : (l5 = 0 ∧ pW (g2 d n (pos d n b k)) = 2) ∨ (l5 = 1 ∧ pW (g2 d n (pos d n b k)) = 4)) (hs : s1 = nI (pW (g2 d n (pos d n b k)))) (hP : P + pW (g2 d n (pos d n b k)) + 2 * pS (g2 d n (pos d n b k)) = pos d n b (k + 1)) (hno : ¬ pos d n b (k + 1) ≤ e → ∀ U, Q (0, U)) (H : pos d n b (k + 1) ≤ e → HKK d n b e k Q kk) (h : CSx d n b e k (k + 1) V) : Pt Q (B_X12_composed_162 N kk (nI P) (nI (g2 d n (pos d n b k))) l4 l5 l6 (nI (pS (g2 d n (pos d n b k)))) (nI P) s1 V) := by
  subst hs
  have w := pW_b (f := g2 d n (pos d n b k))
  have s := pS_b (f := g2 d n (pos d n b k))
  unfold B_X12_composed_162
  rw [nI_add, show (2 : Int32) * nI (pS (g2 d n (pos d n b k))) = nI (2 * pS (g2 d n (pos d n b k))) from pk_mul 2 _, nI_add, hP, h.2.2.1]
  refine pt_ite (fun q => ?_) (fun q => pt_some (hno (fun z => q (nI_le z (by omega))) _))
  have q' := (nI_leI (by omega) (by omega)).mp q
  have H' := H q'
  refine pt_ite (fun _ => pt_ite (fun _ => pt_b fun z hz => ?_) (fun _ => pt_b fun z hz => ?_)) (fun _ => pt_ite (fun _ => pt_b fun z hz => ?_) (fun _ => pt_b fun z hz => ?_))
  · obtain ⟨x, U⟩ := z
    exact c227 hk hl hP H' (CSx_e h (fun a i => (m_X12_u1 sv_sub_rf hz a i rfl).1))
  · obtain ⟨x, U⟩ := z
    exact c227 hk hl hP H' (CSx_e h (fun a i => (m_X12_s1 sv_sub_rf hz a i rfl).1))
  · obtain ⟨x, U⟩ := z
    exact c227 hk hl hP H' (CSx_e h (fun a i => (m_X12_u2 sv_sub_rf hz a i rfl).1))
  · obtain ⟨x, U⟩ := z
    exact c227 hk hl hP H' (CSx_e h (fun a i => (m_X12_s2 sv_sub_rf hz a i rfl).1))
theorem comp_r (h : FR d n V) (he : e ≤ n) (hb : b + 10 ≤ e) (gl2 : glO d n ≤ 200) (h26 : V.1 146 26 = nI b) (h27 : V.1 146 27 = nI e) (h12 : V.1 146 12 = nI (glO d n)) (h30 : V.1 146 30 = 0) (h32 : V.1 146 32 = 0) : Pt (fun q : Int32 × sv_V => IB q.1 (CPv d n b e) ∧ (q.1 = 1 → ∃ m, CPn d n b e m ∧ q.2.1 146 30 = nI m ∧ q.2.1 146 32 = nI (if nI (g2 d n (pos d n b (m - 1))) &&& 256 = 0 then 0 else g2 d n (pos d n b m)) ∧ ∀ k, k < m → q.2.1 158 k = nI (g2 d n (pos d n b k + 2)))) (F_X12_composed N V) := by
  have hn := h.1
  have no : ∀ U, ¬ CPv d n b e → Pt (fun q : Int32 × sv_V => IB q.1 (CPv d n b e) ∧ (q.1 = 1 → ∃ m, CPn d n b e m ∧ q.2.1 146 30 = nI m ∧ q.2.1 146 32 = nI (if nI (g2 d n (pos d n b (m - 1))) &&& 256 = 0 then 0 else g2 d n (pos d n b m)) ∧ ∀ k, k < m → q.2.1 158 k = nI (g2 d n (pos d n b k + 2)))) (some (0, U)) := fun U z => pt_some ⟨Or.inr ⟨rfl, z⟩, fun e => absurd e (show ¬ (0 : Int32) = 1 by decide)⟩
  unfold F_X12_composed
  refine pt_let fun x109 e109 => ?_
  rw [h26, show nI b + (10 : Int32) = nI (b + 10) from nI_add b 10] at e109
  subst e109
  refine pt_l4 (I := fun a1 a2 a3 W => (a2 = 1 ∧ ∃ k, k ≤ 8 ∧ a1 = nI (pos d n b k) ∧ CSx d n b e k k W ∧ ∀ j, j < k → CPk d n b e j ∧ ¬ nI (g2 d n (pos d n b j)) &&& 32 = 0) ∨ (a2 = 0 ∧ ∃ m, CPn d n b e m ∧ a1 = nI (pos d n b m) ∧ a3 = nI (g2 d n (pos d n b (m - 1))) ∧ CSx d n b e m m W)) ?_ N _ _ _ V (Or.inl ⟨rfl, 0, by decide, rfl, ⟨h, h12, h27, h32, h30, fun j hj => by omega⟩, fun j hj => by omega⟩)
  rintro kk ih a1 a2 a3 W (⟨rfl, k, k8, rfl, hC, hj⟩ | ⟨rfl, m, cpn, rfl, rfl, hC⟩)
  rotate_left
  · unfold B_X12_composed_12
    refine pt_ite (fun _ => ?_) (fun z => absurd rfl z)
    have p8 := pos_le (d := d) (n := n) (b := b) m
    have m8 := cpn.2.1
    have a0 := g2_lt (d := d) (n := n) (P := pos d n b m)
    refine pt_ite (fun q => pt_some ⟨Or.inl ⟨rfl, m, cpn, Or.inl q⟩, fun _ => ⟨m, cpn, hC.2.2.2.2.1, ?_, hC.2.2.2.2.2⟩⟩) (fun q => ?_)
    · show W.1 146 32 = _
      rw [if_pos q]
      exact hC.2.2.2.1
    have nq : ¬ (pos d n b m + 2 ≤ e ∧ g2 d n (pos d n b m) ≤ 400 ∧ pos d n b m + 2 + g2 d n (pos d n b m) ≤ e) → ¬ CPv d n b e := fun z y => by
      obtain ⟨m', y1, y2⟩ := y
      have em := CPn_u y1 cpn
      subst em
      exact z (y2.resolve_left q)
    rw [show nI (pos d n b m) + (2 : Int32) = nI (pos d n b m + 2) from nI_add _ 2, hC.2.2.1]
    refine pt_ite (fun q1 => ?_) (fun q1 => no _ (nq fun z => q1 (nI_le z.1 (by omega))))
    have q1' := (nI_leI (by omega) (by omega)).mp q1
    rw [u2_r hC.1 (by omega), Option.bind_some]
    dsimp only
    refine pt_let fun V90 e90 => pt_let fun V91 e91 => ?_
    have r32 : V91.1 146 32 = nI (g2 d n (pos d n b m)) := by rw [e91, e90]; rfl
    have r31 : V91.1 146 31 = nI (pos d n b m + 2) := by rw [e91]; rfl
    have r27 : V91.1 146 27 = nI e := by rw [e91, e90]; exact hC.2.2.1
    have r30 : V91.1 146 30 = nI m := by rw [e91, e90]; exact hC.2.2.2.2.1
    have r158 : ∀ j, V91.1 158 j = W.1 158 j := fun j => by rw [e91, e90, vI_cell _ _ _ _ (by decide), vI_cell _ _ _ _ (by decide)]
    rw [r32, r31, r27, nI_add]
    refine pt_ite (fun q2 => no _ (nq fun z => ?_)) (fun q2 => pt_ite (fun q3 => ?_) (fun q3 => no _ (nq fun z => q3 (nI_le z.2.2 (by omega)))))
    · have := (nI_ltI (a := 400) (by decide) (by omega)).mp q2
      omega
    · have q2' := nI_nlt2 (a := 400) (b := g2 d n (pos d n b m)) q2 (by omega)
      have q3' := (nI_leI (by omega) (by omega)).mp q3
      refine pt_some ⟨Or.inl ⟨rfl, m, cpn, Or.inr ⟨q1', q2', q3'⟩⟩, fun _ => ⟨m, cpn, r30, ?_, fun j hj => (r158 j).trans (hC.2.2.2.2.2 j hj)⟩⟩
      rw [if_neg q]
      exact r32
  have most : ∀ m, CPn d n b e m → k < m := fun m z => by
    rcases Nat.lt_or_ge k m with y | y
    · exact y
    · exact absurd z.2.2.2.2 (hj (m - 1) (by have := z.1; omega)).2
  have p8 := pos_le (d := d) (n := n) (b := b) k
  unfold B_X12_composed_12
  refine pt_ite (fun z => absurd z (show ¬ (1 : Int32) = 0 by decide)) (fun _ => ?_)
  rw [hC.2.2.2.2.1]
  refine pt_ite (fun q => no _ (fun z => ?_)) (fun q => ?_)
  · have ek := (nI_eq (b := 8) (by omega) (by decide)).mp q
    obtain ⟨m, z1, -⟩ := z
    have := most m z1
    have := z1.2.1
    omega
  have hk8 : k < 8 := by
    have : ¬ k = 8 := fun z => q (by rw [z]; rfl)
    omega
  have w := pW_b (f := g2 d n (pos d n b k))
  have nk : ¬ CPk d n b e k → ¬ CPv d n b e := fun z y => by
    obtain ⟨m, y1, -⟩ := y
    exact z (y1.2.2.1 k (most m y1))
  rw [show nI (pos d n b k) + (4 : Int32) = nI (pos d n b k + 4) from nI_add _ 4, hC.2.2.1]
  refine pt_ite (fun q1 => ?_) (fun q1 => no _ (nk fun z => q1 (nI_le (by have := z.2; rw [pos_s] at this; omega) (by omega))))
  have q1' := (nI_leI (by omega) (by omega)).mp q1
  rw [u2_r hC.1 (by omega), Option.bind_some]
  dsimp only
  rw [hC.2.2.2.2.1]
  refine pt_let fun x99 e99 => ?_
  subst e99
  rw [nI_clamp (by omega)]
  refine pt_g fun _ => pt_let fun V101 e101 => ?_
  have h101 := CSx_w hC e101 (by omega)
  rw [show nI (pos d n b k) + (2 : Int32) = nI (pos d n b k + 2) from nI_add _ 2, u2_r h101.1 (by omega), Option.bind_some]
  dsimp only
  refine pt_g fun _ => pt_let fun V106 e106 => pt_let fun x107 e107 => ?_
  subst e107
  have h106 : CSx d n b e k (k + 1) V106 := by
    subst e106
    have c : ∀ c j, c ≠ 158 → (sv_I V101 158 k (nI (g2 d n (pos d n b k + 2)))).1 c j = V101.1 c j := fun c j hc => vI_cell _ _ _ _ hc
    refine ⟨⟨h101.1.1, (c _ _ (by decide)).trans h101.1.2.1, fun j hj => (c _ _ (by decide)).trans (h101.1.2.2 j hj)⟩, (c _ _ (by decide)).trans h101.2.1, (c _ _ (by decide)).trans h101.2.2.1, (c _ _ (by decide)).trans h101.2.2.2.1, (c _ _ (by decide)).trans h101.2.2.2.2.1, fun j hj => ?_⟩
    by_cases z : j = k
    · rw [z, vI_same]
    · rw [vI_place _ _ _ z]
      exact h101.2.2.2.2.2 j (by omega)
  clear e106 h101 e101
  have a2 := g2_lt (d := d) (n := n) (P := pos d n b k + 2)
  have g135 : ∀ l5 l6 : Int32, (l5 = 0 ∧ pW (g2 d n (pos d n b k)) = 2) ∨ (l5 = 1 ∧ pW (g2 d n (pos d n b k)) = 4) → ∀ s, s = nI (pS (g2 d n (pos d n b k))) → Pt (fun q : Int32 × sv_V => IB q.1 (CPv d n b e) ∧ (q.1 = 1 → ∃ m, CPn d n b e m ∧ q.2.1 146 30 = nI m ∧ q.2.1 146 32 = nI (if nI (g2 d n (pos d n b (m - 1))) &&& 256 = 0 then 0 else g2 d n (pos d n b m)) ∧ ∀ k, k < m → q.2.1 158 k = nI (g2 d n (pos d n b k + 2)))) (B_X12_composed_135 N kk (nI (pos d n b k + 4)) (nI (g2 d n (pos d n b k))) (nI k) l5 l6 s V106) := fun l5 l6 hl s hs => by
    subst hs
    unfold B_X12_composed_135
    rw [h106.2.1, nI_clamp (by omega), h106.2.2.2.2.2 k (by omega)]
    refine pt_g fun _ => pt_ite (fun q2 => no _ (nk fun z => ?_)) (fun q2 => ?_)
    · have := (nI_leI (by omega) (by omega)).mp q2
      have := z.1
      omega
    have q2' : g2 d n (pos d n b k + 2) < glO d n := nI_nle2 q2 (by omega)
    have HH : pos d n b (k + 1) ≤ e → HKK d n b e k (fun q : Int32 × sv_V => IB q.1 (CPv d n b e) ∧ (q.1 = 1 → ∃ m, CPn d n b e m ∧ q.2.1 146 30 = nI m ∧ q.2.1 146 32 = nI (if nI (g2 d n (pos d n b (m - 1))) &&& 256 = 0 then 0 else g2 d n (pos d n b m)) ∧ ∀ k, k < m → q.2.1 158 k = nI (g2 d n (pos d n b k + 2)))) kk := fun hpe s U hU hs => by
      rcases hs with ⟨rfl, hs⟩ | ⟨rfl, hs⟩
      · exact ih _ _ _ _ (Or.inr ⟨rfl, k + 1, ⟨by omega, by omega, fun j hj' => by
          rcases Nat.lt_or_ge j k with y | y
          · exact (hj j y).1
          · have ej : j = k := by omega
            subst ej
            exact ⟨q2', hpe⟩, fun j hj' => (hj j (by omega)).2, hs⟩, rfl, rfl, hU⟩)
      · refine ih _ _ _ _ (Or.inl ⟨rfl, k + 1, by omega, rfl, hU, fun j hj' => ?_⟩)
        rcases Nat.lt_or_ge j k with y | y
        · exact hj j y
        · have ej : j = k := by omega
          subst ej
          exact ⟨⟨q2', hpe⟩, hs⟩
    have hno : ¬ pos d n b (k + 1) ≤ e → ∀ U, (fun q : Int32 × sv_V => IB q.1 (CPv d n b e) ∧ (q.1 = 1 → ∃ m, CPn d n b e m ∧ q.2.1 146 30 = nI m ∧ q.2.1 146 32 = nI (if nI (g2 d n (pos d n b (m - 1))) &&& 256 = 0 then 0 else g2 d n (pos d n b m)) ∧ ∀ k, k < m → q.2.1 158 k = nI (g2 d n (pos d n b k + 2)))) (0, U) := fun z U => ⟨Or.inr ⟨rfl, nk fun y => z y.2⟩, fun e => absurd e (show ¬ (0 : Int32) = 1 by decide)⟩
    refine pt_ite (fun q3 => ?_) (fun q3 => ?_)
    · have ew : pW (g2 d n (pos d n b k)) = 2 := by
        rcases hl with z | z
        · exact z.2
        · rw [z.1] at q3
          exact absurd q3 (by decide)
      exact c162 hk8 (by omega) (by omega) hl (by rw [ew]; rfl) rfl hno HH h106
    · have ew : pW (g2 d n (pos d n b k)) = 4 := by
        rcases hl with z | z
        · exact absurd z.1 q3
        · exact z.2
      exact c162 hk8 (by omega) (by omega) hl (by rw [ew]; rfl) rfl hno HH h106
  have g98 : ∀ l5 l6 : Int32, (l5 = 0 ∧ pW (g2 d n (pos d n b k)) = 2) ∨ (l5 = 1 ∧ pW (g2 d n (pos d n b k)) = 4) → Pt (fun q : Int32 × sv_V => IB q.1 (CPv d n b e) ∧ (q.1 = 1 → ∃ m, CPn d n b e m ∧ q.2.1 146 30 = nI m ∧ q.2.1 146 32 = nI (if nI (g2 d n (pos d n b (m - 1))) &&& 256 = 0 then 0 else g2 d n (pos d n b m)) ∧ ∀ k, k < m → q.2.1 158 k = nI (g2 d n (pos d n b k + 2)))) (B_X12_composed_98 N kk (nI (pos d n b k + 4)) (nI (g2 d n (pos d n b k))) (nI k) l5 l6 V106) := fun l5 l6 hl => by
    unfold B_X12_composed_98
    refine pt_ite (fun q2 => pt_ite (fun q3 => pt_ite (fun q4 => g135 _ _ hl _ ?_) (fun q4 => g135 _ _ hl _ ?_)) (fun q3 => g135 _ _ hl _ ?_)) (fun q2 => g135 _ _ hl _ ?_)
    · unfold pS
      rw [if_pos q2, if_pos q3, if_pos q4]
      rfl
    · unfold pS
      rw [if_pos q2, if_pos q3, if_neg q4]
      rfl
    · unfold pS
      rw [if_pos q2, if_neg q3]
      rfl
    · unfold pS
      rw [if_neg q2]
      rfl
  have g85 : ∀ l5 : Int32, (l5 = 0 ∧ pW (g2 d n (pos d n b k)) = 2) ∨ (l5 = 1 ∧ pW (g2 d n (pos d n b k)) = 4) → Pt (fun q : Int32 × sv_V => IB q.1 (CPv d n b e) ∧ (q.1 = 1 → ∃ m, CPn d n b e m ∧ q.2.1 146 30 = nI m ∧ q.2.1 146 32 = nI (if nI (g2 d n (pos d n b (m - 1))) &&& 256 = 0 then 0 else g2 d n (pos d n b m)) ∧ ∀ k, k < m → q.2.1 158 k = nI (g2 d n (pos d n b k + 2)))) (B_X12_composed_85 N kk (nI (pos d n b k + 4)) (nI (g2 d n (pos d n b k))) (nI k) l5 V106) := fun l5 hl => by
    unfold B_X12_composed_85
    exact pt_ite (fun _ => g98 _ _ hl) (fun _ => g98 _ _ hl)
  exact pt_ite (fun q2 => g85 0 (Or.inl ⟨rfl, if_pos q2⟩)) (fun q2 => g85 1 (Or.inr ⟨rfl, if_neg q2⟩))
end RC
