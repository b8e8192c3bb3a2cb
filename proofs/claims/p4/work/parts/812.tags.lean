/-! 2 TAGS, 3 TABLES -/
section D2
variable {d : Nat → Int32} {n N : Nat} {V : sv_V}
theorem entry_c {k w : Nat} {i j : Int32} (h : FC d n V) (hk : 12 + 16 * k + 4 * w + 4 ≤ n) (ei : i = nI k) (ej : j = nI w) : F_X4_entry i j V = some (lN (en d n k w), V) := by
  have hn := h.1
  subst ei ej
  unfold F_X4_entry
  rw [show (16 : Int32) * nI k = nI (16 * k) from pk_mul 16 _, show (12 : Int32) + nI (16 * k) = nI (12 + 16 * k) from nI_add 12 _, show (4 : Int32) * nI w = nI (4 * w) from pk_mul 4 _, nI_add, u4_c h (by omega), Option.bind_some, c4_g hk]
  rfl
theorem entry0 {k : Nat} (h : FC d n V) (hk : 28 + 16 * k ≤ n) : F_X4_entry (nI k) 0 V = some (lN (en d n k 0), V) := entry_c h (by omega) rfl rfl
theorem entry1 {k : Nat} (h : FC d n V) (hk : 28 + 16 * k ≤ n) : F_X4_entry (nI k) 1 V = some (lN (en d n k 1), V) := entry_c h (by omega) rfl rfl
theorem entry2 {k : Nat} (h : FC d n V) (hk : 28 + 16 * k ≤ n) : F_X4_entry (nI k) 2 V = some (lN (en d n k 2), V) := entry_c h (by omega) rfl rfl
theorem entry3 {k : Nat} (h : FC d n V) (hk : 28 + 16 * k ≤ n) : F_X4_entry (nI k) 3 V = some (lN (en d n k 3), V) := entry_c h (by omega) rfl rfl
theorem nI_nle2 {a b : Nat} (q : ¬ nI b ≤ nI a) (ha : a < 2 ^ 31) : a < b := by
  rcases Nat.lt_or_ge a b with z | z
  · exact z
  · exact absurd (nI_le z ha) q
theorem nI_nlt2 {a b : Nat} (q : ¬ nI a < nI b) (hb : b < 2 ^ 31) : b ≤ a := by
  rcases Nat.lt_or_ge a b with z | z
  · exact absurd (nI_lt z hb) q
  · exact z
def K2 (d : Nat → Int32) (n : Nat) : Prop := ∀ k, 1 ≤ k → k < tbl d n → en d n (k - 1) 0 < en d n k 0
theorem tags_c (h : FC d n V) (h1 : K1 d n) (h5 : V.1 2 5 = nI (tbl d n)) : Pt (fun p : Int32 × sv_V => IB p.1 (K2 d n) ∧ p.2 = V) (F_X4_tagsRise N V) := by
  have hn := h.1
  obtain ⟨-, -, t1, t2, -, -, -, ee⟩ := h1
  unfold F_X4_tagsRise
  refine pt_l2 (I := fun a W => W = V ∧ ∃ k, a = nI k ∧ 1 ≤ k ∧ k ≤ tbl d n ∧ ∀ j, 1 ≤ j → j < k → en d n (j - 1) 0 < en d n j 0) ?_ N 1 V ⟨rfl, 1, rfl, Nat.le_refl _, t1, fun j a b => by omega⟩
  rintro kk ih a W ⟨rfl, k, rfl, k1, k2, hk⟩
  unfold B_X4_tagsRise_2
  rw [h5]
  refine pt_ite (fun q => ?_) (fun q => ?_)
  · have e : k = tbl d n := by
      have := (nI_leI (by omega) (by omega)).mp q
      omega
    subst e
    exact pt_some ⟨Or.inl ⟨rfl, hk⟩, rfl⟩
  have hkm : k < tbl d n := by
    rcases Nat.lt_or_ge k (tbl d n) with z | z
    · exact z
    · exact absurd (nI_le z (by omega)) q
  rw [entry0 h (by omega), Option.bind_some]
  dsimp only
  rw [show nI k - (1 : Int32) = nI (k - 1) from pk_sub (b := 1) k1, entry0 h (by omega), Option.bind_some]
  dsimp only
  have l1 := en_lt (d := d) (n := n) (k := k) (w := 0)
  have l2 := en_lt (d := d) (n := n) (k := k - 1) (w := 0)
  refine pt_ite (fun q1 => pt_let fun x9 hx => ih _ _ ⟨rfl, k + 1, by rw [hx, nI_1], by omega, hkm, fun j a b => ?_⟩) (fun q1 => pt_some ⟨Or.inr ⟨rfl, fun z => q1 (lgc_gt.mpr ((pk_lLT (by omega) (by omega)).mpr (z k k1 hkm)))⟩, rfl⟩)
  rcases Nat.lt_or_ge j k with z | z
  · exact hk j a z
  · have e : j = k := by omega
    subst e
    exact (pk_lLT (by omega) (by omega)).mp (lgc_gt.mp q1)
def SH (d : Nat → Int32) (n j k : Nat) : Prop := max (en d n j 2) (en d n k 2) < min (en d n j 2 + en d n j 3) (en d n k 2 + en d n k 3)
def P3 (d : Nat → Int32) (n k : Nat) : Prop := en d n k 2 % 4 = 0 ∧ 12 + 16 * tbl d n ≤ en d n k 2 ∧ en d n k 2 + en d n k 3 ≤ n ∧ ∀ j, j < k → ¬ SH d n j k
def K3 (d : Nat → Int32) (n : Nat) : Prop := ∀ k, k < tbl d n → P3 d n k
theorem jmax {a b : Nat} (ha : a < 2 ^ 63) (hb : b < 2 ^ 63) : F_J9_max_f86c9 (lN a) (lN b) V = some (lN (max a b), V) := by
  unfold F_J9_max_f86c9
  by_cases c : b ≤ a
  · rw [if_neg (by rw [lgc_lt, pk_lLT ha hb]; omega), Nat.max_eq_left c]
  · rw [if_pos (by rw [lgc_lt, pk_lLT ha hb]; omega), Nat.max_eq_right (by omega)]
theorem jmin {a b : Nat} (ha : a < 2 ^ 63) (hb : b < 2 ^ 63) : F_J9_min_f86c9 (lN a) (lN b) V = some (lN (min a b), V) := by
  unfold F_J9_min_f86c9
  by_cases c : a ≤ b
  · rw [if_neg (by rw [lgc_gt, pk_lLT hb ha]; omega), Nat.min_eq_left c]
  · rw [if_pos (by rw [lgc_gt, pk_lLT hb ha]; omega), Nat.min_eq_right (by omega)]
theorem share_c {j k : Nat} (h : FC d n V) (hj : 28 + 16 * j ≤ n) (hk : 28 + 16 * k ≤ n) : Pt (fun p : Int32 × sv_V => IB p.1 (SH d n j k) ∧ p.2 = V) (F_X4_shareBytes (nI j) (nI k) V) := by
  have a1 := en_lt (d := d) (n := n) (k := j) (w := 2)
  have a2 := en_lt (d := d) (n := n) (k := j) (w := 3)
  have a3 := en_lt (d := d) (n := n) (k := k) (w := 2)
  have a4 := en_lt (d := d) (n := n) (k := k) (w := 3)
  unfold F_X4_shareBytes
  rw [entry2 h hj, Option.bind_some]
  dsimp only
  rw [entry2 h hk, Option.bind_some]
  dsimp only
  rw [jmax (by omega) (by omega), Option.bind_some]
  dsimp only
  rw [entry2 h hj, Option.bind_some]
  dsimp only
  rw [entry3 h hj, Option.bind_some]
  dsimp only
  rw [entry2 h hk, Option.bind_some]
  dsimp only
  rw [entry3 h hk, Option.bind_some, lN_add, lN_add]
  dsimp only
  rw [jmin (by omega) (by omega), Option.bind_some]
  dsimp only
  refine pt_ite (fun q => pt_some ⟨Or.inr ⟨rfl, ?_⟩, rfl⟩) (fun q => pt_some ⟨Or.inl ⟨rfl, ?_⟩, rfl⟩)
  · have := (pk_lLE (by omega) (by omega)).mp (lgc_ge.mp q)
    unfold SH
    omega
  · rw [lgc_ge, pk_lLE (by omega) (by omega)] at q
    unfold SH
    omega
theorem lie_c (h : FC d n V) (h1 : K1 d n) (h5 : V.1 2 5 = nI (tbl d n)) : Pt (fun p : Int32 × sv_V => IB p.1 (K3 d n) ∧ p.2 = V) (F_X4_tablesLieRight N V) := by
  have hn := h.1
  obtain ⟨-, -, t1, t2, -, -, -, ee⟩ := h1
  unfold F_X4_tablesLieRight
  refine pt_l2 (I := fun a W => W = V ∧ ∃ k, a = nI k ∧ k ≤ tbl d n ∧ ∀ j, j < k → P3 d n j) ?_ N 0 V ⟨rfl, 0, rfl, Nat.zero_le _, fun j b => by omega⟩
  rintro kk ih a W ⟨rfl, k, rfl, k2, hk⟩
  unfold B_X4_tablesLieRight_2
  rw [h5]
  refine pt_ite (fun q => ?_) (fun q => ?_)
  · have e : k = tbl d n := by
      have := (nI_leI (by omega) (by omega)).mp q
      omega
    subst e
    exact pt_some ⟨Or.inl ⟨rfl, hk⟩, rfl⟩
  have hkm : k < tbl d n := nI_nle2 q (by omega)
  have a3 := en_lt (d := d) (n := n) (k := k) (w := 2)
  have a4 := en_lt (d := d) (n := n) (k := k) (w := 3)
  have no : ¬ P3 d n k → Pt (fun p : Int32 × sv_V => IB p.1 (K3 d n) ∧ p.2 = W) (some (0, W)) := fun z => pt_some ⟨Or.inr ⟨rfl, fun y => z (y k hkm)⟩, rfl⟩
  rw [entry2 h (by omega), Option.bind_some]
  dsimp only
  rw [show lN (en d n k 2) - lN (en d n k 2) / (4 : Int64) * (4 : Int64) = lN (en d n k 2 % 4) from pk_lRem (b := 4) (by omega) (by decide) (by decide), h5, show (16 : Int32) * nI (tbl d n) = nI (16 * tbl d n) from pk_mul 16 _, show (12 : Int32) + nI (16 * tbl d n) = nI (12 + 16 * tbl d n) from nI_add 12 _, nI_l (by omega)]
  refine pt_ite (fun q1 => ?_) (fun q1 => no (fun z => q1 (lgc_eq.mpr (by rw [z.1]; rfl))))
  have e1 : en d n k 2 % 4 = 0 := (pk_lEQ (b := 0) (by omega) (by decide)).mp (lgc_eq.mp q1)
  refine pt_ite (fun q2 => no (fun z => absurd ((pk_lLT (by omega) (by omega)).mp (lgc_lt.mp q2)) (Nat.not_lt.mpr z.2.1))) (fun q2 => ?_)
  rw [lgc_lt, pk_lLT (by omega) (by omega)] at q2
  rw [entry3 h (by omega), Option.bind_some]
  dsimp only
  rw [lN_add, h.2.1, nI_l (by omega)]
  refine pt_ite (fun q3 => ?_) (fun q3 => no (fun z => q3 (lgc_le.mpr ((pk_lLE (by omega) (by omega)).mpr z.2.2.1))))
  rw [lgc_le, pk_lLE (by omega) (by omega)] at q3
  refine pt_l3 (I := fun a b U => U = W ∧ a = nI k ∧ ∃ j, b = nI j ∧ j ≤ k ∧ ∀ i, i < j → ¬ SH d n i k) ?_ N (nI k) 0 W ⟨rfl, rfl, 0, rfl, Nat.zero_le _, fun j b => by omega⟩
  rintro k2' ih2 a b U ⟨rfl, rfl, j, rfl, hj, hs⟩
  unfold B_X4_tablesLieRight_74
  refine pt_ite (fun q4 => ?_) (fun q4 => ?_)
  · have e : j = k := by
      have := (nI_leI (by omega) (by omega)).mp q4
      omega
    subst e
    refine pt_let fun x2 hx => ih _ _ ⟨rfl, j + 1, by rw [hx, nI_1], hkm, fun i hi => ?_⟩
    rcases Nat.lt_or_ge i j with z | z
    · exact hk i z
    · have e : i = j := by omega
      subst e
      exact ⟨e1, by omega, q3, hs⟩
  have hjk : j < k := nI_nle2 q4 (by omega)
  refine pt_bb (share_c (j := j) (k := k) h (by omega) (by omega)) ?_
  rintro ⟨x5, V3⟩ ⟨hx, e3⟩
  dsimp only at e3 hx ⊢
  subst e3
  refine pt_ite (fun q5 => pt_let fun x7 hx7 => ih2 _ _ _ ⟨rfl, rfl, j + 1, by rw [hx7, nI_1], hjk, fun i hi => ?_⟩) (fun q5 => no (fun z => z.2.2.2 j hjk (hx.y q5)))
  rcases Nat.lt_or_ge i j with z | z
  · exact hs i z
  · have e : i = j := by omega
    subst e
    exact hx.n q5
end D2
