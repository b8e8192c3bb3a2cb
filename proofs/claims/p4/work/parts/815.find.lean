/-! 5 TABLES ARE FOUND -/
def tF (d : Nat → Int32) (n t : Nat) (f k : Nat) : Option Nat := match f with
  | 0 => none
  | f + 1 => if en d n k 0 = t then some k else tF d n t f (k + 1)
def tO (d : Nat → Int32) (n t : Nat) : Option Nat := tF d n t (tbl d n) 0
def bO (d : Nat → Int32) (n t : Nat) : Nat := match tO d n t with
  | some k => en d n k 2
  | none => 0
def lO (d : Nat → Int32) (n t : Nat) : Nat := match tO d n t with
  | some k => en d n k 3
  | none => 0
def tR (d : Nat → Int32) (n t : Nat) : Int32 := match tO d n t with
  | some k => nI k
  | none => -1
def K5 (d : Nat → Int32) (n : Nat) : Prop := ∀ i, i < 7 → tO d n (tg i) ≠ none
section D6
variable {d : Nat → Int32} {n N t : Nat} {V : sv_V}
theorem tF_s : ∀ f k j, tF d n t f k = some j → k ≤ j ∧ j < k + f ∧ en d n j 0 = t := by
  intro f
  induction f with
  | zero => intro k j h; cases h
  | succ f ih =>
    intro k j h
    unfold tF at h
    by_cases c : en d n k 0 = t
    · rw [if_pos c] at h
      cases h
      exact ⟨Nat.le_refl _, by omega, c⟩
    · rw [if_neg c] at h
      obtain ⟨a, b, e⟩ := ih _ _ h
      exact ⟨by omega, by omega, e⟩
theorem tF_n : ∀ f k, tF d n t f k = none → ∀ j, k ≤ j → j < k + f → en d n j 0 ≠ t := by
  intro f
  induction f with
  | zero => intro k _ j a b; omega
  | succ f ih =>
    intro k h j a b
    unfold tF at h
    by_cases c : en d n k 0 = t
    · rw [if_pos c] at h
      cases h
    · rw [if_neg c] at h
      rcases Nat.lt_or_ge k j with z | z
      · exact ih _ h j z (by omega)
      · have : j = k := by omega
        rw [this]
        exact c
theorem tO_s {j : Nat} (h : tO d n t = some j) : j < tbl d n ∧ en d n j 0 = t := by
  obtain ⟨a, b, c⟩ := tF_s _ _ _ h
  exact ⟨by omega, c⟩
theorem tO_n (h : tO d n t = none) {j : Nat} (hj : j < tbl d n) : en d n j 0 ≠ t := tF_n _ _ h j (Nat.zero_le _) (by omega)
theorem K2_lt (h : K2 d n) {j : Nat} : ∀ k, j < k → k < tbl d n → en d n j 0 < en d n k 0 := by
  intro k
  induction k with
  | zero => intro a; omega
  | succ k ih =>
    intro a b
    have h1 := h (k + 1) (by omega) b
    rw [show k + 1 - 1 = k by omega] at h1
    rcases Nat.lt_or_ge j k with z | z
    · have := ih z (by omega)
      omega
    · have : j = k := by omega
      rw [this]
      exact h1
theorem tO_u (h : K2 d n) {j : Nat} (hj : j < tbl d n) (e : en d n j 0 = t) : tO d n t = some j := by
  cases c : tO d n t with
  | none => exact absurd e (tO_n c hj)
  | some k =>
    obtain ⟨k1, k2⟩ := tO_s c
    congr 1
    rcases Nat.lt_trichotomy j k with z | z | z
    · have := K2_lt h k z k1
      omega
    · exact z.symm
    · have := K2_lt h j z hj
      omega
theorem bO_le (h : K3 d n) : bO d n t + lO d n t ≤ n := by
  unfold bO lO
  cases c : tO d n t with
  | none => exact Nat.zero_le _
  | some k => exact (h k (tO_s c).1).2.2.1
theorem bO_ge (h : K3 d n) (hc : tO d n t ≠ none) : 12 + 16 * tbl d n ≤ bO d n t ∧ bO d n t % 4 = 0 := by
  unfold bO
  cases c : tO d n t with
  | none => exact absurd c hc
  | some k => exact ⟨(h k (tO_s c).1).2.1, (h k (tO_s c).1).1⟩
theorem bO_0 (hc : tO d n t = none) : bO d n t = 0 ∧ lO d n t = 0 := by
  unfold bO lO
  rw [hc]
  exact ⟨rfl, rfl⟩
theorem tableOf_r (h : RB d n V) (h1 : K1 d n) (ht : t < 2 ^ 31) : Pt (fun p : Int32 × sv_V => p = (tR d n t, V)) (F_X12_tableOf N (nI t) V) := by
  obtain ⟨hF, h5, hT⟩ := h
  obtain ⟨-, -, t1, t2, -, -, -, ee⟩ := h1
  unfold F_X12_tableOf
  refine pt_l3 (I := fun a b W => W = V ∧ a = nI t ∧ ∃ k, b = nI k ∧ k ≤ tbl d n ∧ tF d n t (tbl d n - k) k = tO d n t) ?_ N _ _ V ⟨rfl, rfl, 0, rfl, Nat.zero_le _, rfl⟩
  rintro kk ih a b W ⟨rfl, rfl, k, rfl, k2, hk⟩
  unfold B_X12_tableOf_2
  rw [h5]
  refine pt_ite (fun q => ?_) (fun q => ?_)
  · have e : k = tbl d n := by
      have := (nI_leI (by omega) (by omega)).mp q
      omega
    refine pt_some ?_
    rw [e, Nat.sub_self] at hk
    unfold tR
    rw [← hk]
    rfl
  have hkm : k < tbl d n := nI_nle2 q (by omega)
  have l0 := en_lt (d := d) (n := n) (k := k) (w := 0)
  obtain ⟨m, hm⟩ : ∃ m, tbl d n - k = m + 1 := ⟨tbl d n - k - 1, by omega⟩
  rw [hm] at hk
  unfold tF at hk
  rw [nI_clamp (by omega), (hT k hkm).1]
  refine pt_g fun _ => pt_ite (fun q1 => ?_) (fun q1 => pt_let fun x4 hx => ih _ _ _ ⟨rfl, rfl, k + 1, by rw [hx, nI_1], hkm, ?_⟩)
  · rw [if_pos ((nI_e32 l0 (by omega)).mp q1)] at hk
    refine pt_some ?_
    unfold tR
    rw [← hk]
  · rw [if_neg (fun z => q1 (by rw [z]))] at hk
    rw [show tbl d n - (k + 1) = m by omega]
    exact hk
theorem beginOf_r (h : RB d n V) (h1 : K1 d n) (ht : t < 2 ^ 31) : Pt (fun p : Int32 × sv_V => p = (nI (bO d n t), V)) (F_X12_beginOf N (nI t) V) := by
  unfold F_X12_beginOf
  refine pt_bb (tableOf_r h h1 ht) ?_
  rintro _ rfl
  dsimp only
  obtain ⟨-, -, t1, t2, -⟩ := h1
  unfold tR bO
  cases c : tO d n t with
  | none => exact pt_ite (fun _ => pt_some rfl) (fun q => absurd rfl q)
  | some k =>
    obtain ⟨k1, k2⟩ := tO_s c
    refine pt_ite (fun q => ?_) (fun q => pt_g fun _ => pt_some ?_)
    · have := nI_md.mp (show nI k = nI 4294967295 from q)
      omega
    · rw [nI_clamp (by omega), (h.2.2 k k1).2.2.1, lN_i]
theorem lengthOf_r (h : RB d n V) (h1 : K1 d n) (ht : t < 2 ^ 31) : Pt (fun p : Int32 × sv_V => p = (nI (lO d n t), V)) (F_X12_lengthOf N (nI t) V) := by
  unfold F_X12_lengthOf
  refine pt_bb (tableOf_r h h1 ht) ?_
  rintro _ rfl
  dsimp only
  obtain ⟨-, -, t1, t2, -⟩ := h1
  unfold tR lO
  cases c : tO d n t with
  | none => exact pt_ite (fun _ => pt_some rfl) (fun q => absurd rfl q)
  | some k =>
    obtain ⟨k1, k2⟩ := tO_s c
    refine pt_ite (fun q => ?_) (fun q => pt_g fun _ => pt_some ?_)
    · have := nI_md.mp (show nI k = nI 4294967295 from q)
      omega
    · rw [nI_clamp (by omega), (h.2.2 k k1).2.2.2, lN_i]
/-- the class's directory and tables stand -/
def CB (d : Nat → Int32) (n : Nat) (V : sv_V) : Prop := FC d n V ∧ V.1 2 5 = nI (tbl d n) ∧ SC V ∧ ∀ i, i < 11 → V.1 4 i = nI (bO d n (tg i)) ∧ V.1 5 i = nI (lO d n (tg i))
theorem SC_I (h : SC V) {a k : Nat} {x : Int32} (e : a < 1000) : SC (sv_I V a k x) := by
  obtain ⟨h1, h2, h3, h4⟩ := h
  refine ⟨fun j hj => ?_, fun j hj => ?_, fun j hj => ?_, fun j hj => ?_⟩
  · rw [vI_cell _ _ _ _ (by omega)]
    exact h1 j hj
  · rw [vI_cell _ _ _ _ (by omega)]
    exact h2 j hj
  · rw [vI_cell _ _ _ _ (by omega)]
    exact h3 j hj
  · rw [vI_cell _ _ _ _ (by omega)]
    exact h4 j hj
theorem tg_lt {i : Nat} (h : i < 11) : tg i < 2 ^ 31 := by
  have key : ∀ i, i < 11 → tg i < 2 ^ 31 := by decide
  exact key i h
theorem find_c (h : FC d n V) (h1 : K1 d n) (h2 : K2 d n) (h3 : K3 d n) (h5 : V.1 2 5 = nI (tbl d n)) (hs : SC V) : Pt (fun p : Int32 × sv_V => IB p.1 (K5 d n) ∧ CB d n p.2) (F_X4_findTables N V) := by
  have hn := h.1
  have h1' := h1
  obtain ⟨-, -, t1, t2, -, -, -, ee⟩ := h1
  unfold F_X4_findTables
  refine pt_l2 (I := fun a W => FC d n W ∧ W.1 2 5 = nI (tbl d n) ∧ SC W ∧ ∃ k, a = nI k ∧ k ≤ 11 ∧ ∀ i, i < k → W.1 4 i = nI (bO d n (tg i)) ∧ W.1 5 i = nI (lO d n (tg i))) ?_ N 0 V ⟨h, h5, hs, 0, rfl, Nat.zero_le _, fun j b => by omega⟩
  rintro kk ih a W ⟨hF, w5, hS, k, rfl, k2, hk⟩
  unfold B_X4_findTables_2
  refine pt_ite (fun q => ?_) (fun q => ?_)
  · have e : k = 11 := by
      have := (nI_leI (a := 11) (by decide) (by omega)).mp q
      omega
    subst e
    refine pt_l2 (I := fun a U => U = W ∧ ∃ i, a = nI i ∧ i ≤ 7 ∧ ∀ j, j < i → tO d n (tg j) ≠ none) ?_ N 0 W ⟨rfl, 0, rfl, Nat.zero_le _, fun j b => by omega⟩
    rintro k3 ih3 a U ⟨rfl, i, rfl, i7, hi⟩
    unfold B_X4_findTables_104
    refine pt_ite (fun q1 => ?_) (fun q1 => ?_)
    · have e : i = 7 := by
        have := (nI_leI (a := 7) (by decide) (by omega)).mp q1
        omega
      subst e
      exact pt_some ⟨Or.inl ⟨rfl, hi⟩, hF, w5, hS, hk⟩
    have hi7 : i < 7 := nI_nle2 (b := 7) q1 (by omega)
    unfold F_X2_hasTable
    rw [nI_clamp (by omega), (hk i (by omega)).1]
    have bl := bO_le (t := tg i) h3
    by_cases c : tO d n (tg i) = none
    · rw [if_pos (sx_in_nI (by omega) (by decide)), if_pos (by rw [(bO_0 c).1]; decide), Option.bind_some]
      refine pt_ite (fun _ => pt_some ⟨Or.inr ⟨rfl, fun z => z i hi7 c⟩, hF, w5, hS, hk⟩) (fun z => absurd rfl z)
    · have bg := (bO_ge h3 c).1
      rw [if_pos (sx_in_nI (by omega) (by decide)), if_neg (nI_nle (by omega) (by omega)), Option.bind_some]
      refine pt_ite (fun z => absurd z (show ¬ (1 : Int32) = 0 by decide)) (fun _ => pt_let fun x24 hx => ih3 _ _ ⟨rfl, i + 1, by rw [hx, nI_1], hi7, fun j hj => ?_⟩)
      rcases Nat.lt_or_ge j i with z | z
      · exact hi j z
      · have e : j = i := by omega
        rw [e]
        exact c
  have hk11 : k < 11 := nI_nle2 (b := 11) q (by omega)
  rw [nI_clamp (by omega)]
  refine pt_g fun _ => pt_let fun V27 e27 => pt_g fun _ => pt_let fun V29 e29 => ?_
  have key : ∀ i, i < k → V29.1 4 i = W.1 4 i ∧ V29.1 5 i = W.1 5 i := fun i hi => by
    rw [e29, e27]
    constructor
    · rw [vI_cell _ _ _ _ (by decide), vI_place _ _ _ (by omega)]
    · rw [vI_place _ _ _ (by omega), vI_cell _ _ _ _ (by decide)]
  refine pt_l3 (I := fun a b U => a = nI k ∧ FC d n U ∧ U.1 2 5 = nI (tbl d n) ∧ SC U ∧ (∀ i, i < k → U.1 4 i = nI (bO d n (tg i)) ∧ U.1 5 i = nI (lO d n (tg i))) ∧ ∃ j, b = nI j ∧ j ≤ tbl d n ∧ ((∃ i, i < j ∧ en d n i 0 = tg k ∧ U.1 4 k = nI (en d n i 2) ∧ U.1 5 k = nI (en d n i 3)) ∨ ((∀ i, i < j → en d n i 0 ≠ tg k) ∧ U.1 4 k = 0 ∧ U.1 5 k = 0))) ?_ N (nI k) 0 V29 ⟨rfl, ?_, ?_, ?_, fun i hi => ?_, 0, rfl, Nat.zero_le _, Or.inr ⟨fun i hi => by omega, ?_, ?_⟩⟩
  · rintro k3 ih3 a b U ⟨rfl, uF, u5, uS, uk, j, rfl, hj, hm⟩
    unfold B_X4_findTables_32
    rw [u5]
    refine pt_ite (fun q1 => ?_) (fun q1 => ?_)
    · have e : j = tbl d n := by
        have := (nI_leI (by omega) (by omega)).mp q1
        omega
      subst e
      refine pt_let fun x3 hx => ih _ _ ⟨uF, u5, uS, k + 1, by rw [hx, nI_1], hk11, fun i hi => ?_⟩
      rcases Nat.lt_or_ge i k with z | z
      · exact uk i z
      · have e : i = k := by omega
        subst e
        rcases hm with ⟨x, hx1, hx2, hx3, hx4⟩ | ⟨y1, y2, y3⟩
        · have e := tO_u h2 hx1 hx2
          unfold bO lO
          rw [e]
          exact ⟨hx3, hx4⟩
        · have e : tO d n (tg i) = none := by
            cases c : tO d n (tg i) with
            | none => rfl
            | some x => exact absurd (tO_s c).2 (y1 x (tO_s c).1)
          unfold bO lO
          rw [e]
          exact ⟨y2, y3⟩
    have hjm : j < tbl d n := nI_nle2 q1 (by omega)
    have l0 := en_lt (d := d) (n := n) (k := j) (w := 0)
    have lk := tg_lt hk11
    rw [entry0 uF (by omega), Option.bind_some]
    dsimp only
    rw [nI_clamp (by omega), uS.1 k hk11, lN_i]
    refine pt_g fun _ => pt_ite (fun q2 => ?_) (fun q2 => ?_)
    · have et := (nI_e32 l0 (by omega)).mp q2
      rw [entry2 uF (by omega), Option.bind_some]
      dsimp only
      refine pt_g fun _ => pt_let fun V13 e13 => ?_
      have f13 : FC d n V13 := by rw [e13]; exact FC_I uF ⟨Or.inl (by decide), by decide⟩
      rw [entry3 f13 (by omega), Option.bind_some]
      dsimp only
      refine pt_g fun _ => pt_let fun V18 e18 => ?_
      have f18 : FC d n V18 := by rw [e18]; exact FC_I f13 ⟨Or.inl (by decide), by decide⟩
      unfold B_X4_findTables_90
      refine pt_let fun x1 hx => ih3 _ _ _ ⟨rfl, f18, ?_, ?_, fun i hi => ?_, j + 1, by rw [hx, nI_1], hjm, Or.inl ⟨j, by omega, et, ?_, ?_⟩⟩
      · rw [e18, e13]
        exact u5
      · rw [e18, e13]
        exact SC_I (SC_I uS (by decide)) (by decide)
      · rw [e18, e13]
        refine ⟨?_, ?_⟩
        · rw [vI_cell _ _ _ _ (by decide), vI_place _ _ _ (by omega)]
          exact (uk i hi).1
        · rw [vI_place _ _ _ (by omega), vI_cell _ _ _ _ (by decide)]
          exact (uk i hi).2
      · rw [e18, e13, vI_cell _ _ _ _ (by decide), vI_same, lN_i]
      · rw [e18, vI_same, lN_i]
    · unfold B_X4_findTables_90
      refine pt_let fun x1 hx => ih3 _ _ _ ⟨rfl, uF, u5, uS, uk, j + 1, by rw [hx, nI_1], hjm, ?_⟩
      rcases hm with ⟨x, hx1, hx2⟩ | ⟨y1, y2⟩
      · exact Or.inl ⟨x, by omega, hx2⟩
      · refine Or.inr ⟨fun i hi => ?_, y2⟩
        rcases Nat.lt_or_ge i j with z | z
        · exact y1 i z
        · have e : i = j := by omega
          rw [e]
          exact fun z => q2 (by rw [z])
  · rw [e29, e27]
    exact FC_I (FC_I hF ⟨Or.inl (by decide), by decide⟩) ⟨Or.inl (by decide), by decide⟩
  · rw [e29, e27]
    exact w5
  · rw [e29, e27]
    exact SC_I (SC_I hS (by decide)) (by decide)
  · rw [(key i hi).1, (key i hi).2]
    exact hk i hi
  · rw [e29, e27, vI_cell _ _ _ _ (by decide), vI_same]
  · rw [e29, vI_same]
end D6
