/-! 2, 3, 4 IN THE REFERENCE; 4 IN THE CLASS -/
def tgL : List Nat := [1668112752, 1735162214, 1751474532, 1751672161, 1752003704, 1819239265, 1835104368, 1801810542, 1668707360, 1718642541, 1886545264]
def tg (k : Nat) : Nat := tgL.getD k 0
/-- the class's arrays of constants -/
def SC (V : sv_V) : Prop := (∀ k, k < 11 → V.1 1001 k = nI (tg k)) ∧ (∀ k, k < 7 → V.1 1002 k = nI ([14, 16, 18, 20, 22, 24, 30].getD k 0)) ∧ (∀ k, k < 7 → V.1 1004 k = nI ([1, 0, 0, 0, 0, 0, 0].getD k 0)) ∧ ∀ k, k < 7 → V.1 1005 k = nI ([2, 64, 64, 64, 16, 256, 4].getD k 0)
def sLo (d : Nat → Int32) (n k : Nat) : Nat := if en d n k 0 = 1751474532 then 8 else 0
def sHi (d : Nat → Int32) (n k : Nat) : Nat := if en d n k 0 = 1751474532 then 12 else 0
def P4 (d : Nat → Int32) (n k : Nat) : Prop := SM d n (en d n k 2) (en d n k 3) (sLo d n k) (sHi d n k) (en d n k 3) % 4294967296 = en d n k 1
def K4 (d : Nat → Int32) (n : Nat) : Prop := ∀ k, k < tbl d n → P4 d n k
section D5
variable {d : Nat → Int32} {n N : Nat} {V : sv_V}
theorem nI_e32 {a b : Nat} (ha : a < 4294967296) (hb : b < 4294967296) : nI a = nI b ↔ a = b := by
  rw [nI_md]
  omega
theorem sums_c (h : FC d n V) (h1 : K1 d n) (h3 : K3 d n) (h5 : V.1 2 5 = nI (tbl d n)) (hs : SC V) : Pt (fun p : Int32 × sv_V => IB p.1 (K4 d n) ∧ p.2 = V) (F_X4_sumsHold N V) := by
  have hn := h.1
  obtain ⟨-, -, t1, t2, -, -, -, ee⟩ := h1
  unfold F_X4_sumsHold
  refine pt_l2 (I := fun a W => W = V ∧ ∃ k, a = nI k ∧ k ≤ tbl d n ∧ ∀ j, j < k → P4 d n j) ?_ N 0 V ⟨rfl, 0, rfl, Nat.zero_le _, fun j b => by omega⟩
  rintro kk ih a W ⟨rfl, k, rfl, k2, hk⟩
  unfold B_X4_sumsHold_2
  rw [h5]
  refine pt_ite (fun q => ?_) (fun q => ?_)
  · have e : k = tbl d n := by
      have := (nI_leI (by omega) (by omega)).mp q
      omega
    subst e
    exact pt_some ⟨Or.inl ⟨rfl, hk⟩, rfl⟩
  have hkm : k < tbl d n := nI_nle2 q (by omega)
  obtain ⟨-, -, p3, -⟩ := h3 k hkm
  have g33 : ∀ f, (f = 0 ∧ sLo d n k = 0 ∧ sHi d n k = 0) ∨ (f = 1 ∧ sLo d n k = 8 ∧ sHi d n k = 12) → Pt (fun p : Int32 × sv_V => IB p.1 (K4 d n) ∧ p.2 = W) (B_X4_sumsHold_33 N kk (nI k) f W) := fun f hf => by
    unfold B_X4_sumsHold_33
    rw [entry2 h (by omega), Option.bind_some]
    dsimp only
    rw [entry3 h (by omega), Option.bind_some, lN_i, lN_i]
    dsimp only
    refine pt_bb (sum_c h p3 hf) ?_
    rintro ⟨x9, V7⟩ ⟨hx, e7⟩
    dsimp only at hx e7 ⊢
    subst e7
    rw [entry1 h (by omega), Option.bind_some, hx]
    dsimp only
    have l1 := en_lt (d := d) (n := n) (k := k) (w := 1)
    refine pt_ite (fun q1 => pt_let fun x14 h14 => ih _ _ ⟨rfl, k + 1, by rw [h14, nI_1], hkm, fun j hj => ?_⟩) (fun q1 => pt_some ⟨Or.inr ⟨rfl, fun z => q1 (lgc_eq.mpr (by rw [z k hkm]))⟩, rfl⟩)
    rcases Nat.lt_or_ge j k with z | z
    · exact hk j z
    · have e : j = k := by omega
      subst e
      exact (pk_lEQ (by omega) (by omega)).mp (lgc_eq.mp q1)
  rw [entry0 h (by omega), Option.bind_some]
  dsimp only
  have l0 := en_lt (d := d) (n := n) (k := k) (w := 0)
  have eh : (lN (en d n k 0)).toInt32 = W.1 1001 (2 : Int32).toNatClampNeg ↔ en d n k 0 = 1751474532 := by
    rw [lN_i, show (2 : Int32).toNatClampNeg = 2 from rfl, hs.1 2 (by decide)]
    exact nI_e32 (b := 1751474532) l0 (by decide)
  refine pt_ite (fun q1 => g33 1 (Or.inr ⟨rfl, ?_, ?_⟩)) (fun q1 => g33 0 (Or.inl ⟨rfl, ?_, ?_⟩))
  · exact if_pos (eh.mp q1)
  · exact if_pos (eh.mp q1)
  · exact if_neg (fun z => q1 (eh.mpr z))
  · exact if_neg (fun z => q1 (eh.mpr z))
/-- the reference's directory stands -/
def RB (d : Nat → Int32) (n : Nat) (V : sv_V) : Prop := FR d n V ∧ V.1 146 5 = nI (tbl d n) ∧ TEx d n (tbl d n) V
theorem RB_fr {md : List (Nat × Option Nat)} {W : sv_V} (h : RB d n V) (f : sv_eq md V W) (c : md.all (fun q => !(q.1 == 148 || q.1 == 149 || q.1 == 150 || q.1 == 151 || q.1 == 152 || (q.1 == 146 && (q.2 == none || q.2 == some 3 || q.2 == some 5)))) = true) : RB d n W := by
  have key : ∀ a k, (a = 148 ∨ a = 149 ∨ a = 150 ∨ a = 151 ∨ a = 152 ∨ (a = 146 ∧ (k = 3 ∨ k = 5))) → sv_hit md a k = false := by
    intro a k ha
    cases e : sv_hit md a k with
    | false => rfl
    | true =>
      unfold sv_hit at e
      rw [List.any_eq_true] at e
      obtain ⟨q, hq, e⟩ := e
      have z := List.all_eq_true.mp c q hq
      simp only [Bool.and_eq_true, beq_iff_eq, Bool.or_eq_true, Bool.not_eq_true', Bool.or_eq_false_iff, Bool.and_eq_false_iff, beq_eq_false_iff_ne] at e z
      obtain ⟨e1, e2⟩ := e
      obtain ⟨⟨⟨⟨⟨z1, z2⟩, z3⟩, z4⟩, z5⟩, z6⟩ := z
      rcases ha with ha | ha | ha | ha | ha | ⟨ha, hk⟩
      · exact absurd (e1.trans ha) z1
      · exact absurd (e1.trans ha) z2
      · exact absurd (e1.trans ha) z3
      · exact absurd (e1.trans ha) z4
      · exact absurd (e1.trans ha) z5
      · rcases z6 with z6 | ⟨⟨z6, z7⟩, z8⟩
        · exact absurd (e1.trans ha) z6
        · rcases e2 with e2 | e2
          · exact absurd e2 z6
          · rcases hk with rfl | rfl
            · exact absurd e2 z7
            · exact absurd e2 z8
  obtain ⟨⟨h1, h2, h3⟩, h4, h5⟩ := h
  refine ⟨⟨h1, (f 146 3 (key 146 3 (by omega))).1.trans h2, fun j hj => (f 148 j (key 148 j (by omega))).1.trans (h3 j hj)⟩, (f 146 5 (key 146 5 (by omega))).1.trans h4, fun k hk => ?_⟩
  obtain ⟨a, b, c, e⟩ := h5 k hk
  exact ⟨(f 149 k (key 149 k (by omega))).1.trans a, (f 150 k (key 150 k (by omega))).2.1.trans b, (f 151 k (key 151 k (by omega))).2.1.trans c, (f 152 k (key 152 k (by omega))).2.1.trans e⟩
variable {Q : Int32 × sv_V → Prop}
theorem chk_250 (h : RB d n V) (h1 : K1 d n) (h3 : K3 d n) (hR : K4 d n → ∀ kk, Pt Q (B_X12_check_250 N kk (nI (tbl d n)) V)) (hno : ¬ K4 d n → Q (4, V)) : Pt Q (sx_lp2 (B_X12_check_250 N) N 0 V) := by
  obtain ⟨hF, h5, hT⟩ := h
  have hn := hF.1
  obtain ⟨-, -, t1, t2, -, -, -, ee⟩ := h1
  refine pt_l2 (I := fun a W => W = V ∧ ∃ k, a = nI k ∧ k ≤ tbl d n ∧ ∀ j, j < k → P4 d n j) ?_ N 0 V ⟨rfl, 0, rfl, Nat.zero_le _, fun j b => by omega⟩
  rintro kk ih a W ⟨rfl, k, rfl, k2, hk⟩
  rcases Nat.lt_or_ge k (tbl d n) with hkm | z
  rotate_left
  · have e : k = tbl d n := by omega
    subst e
    exact hR hk kk
  unfold B_X12_check_250
  rw [h5, if_neg (nI_ge hkm (by omega))]
  obtain ⟨e0, e1, e2, e3⟩ := hT k hkm
  obtain ⟨-, -, p3, -⟩ := h3 k hkm
  have l0 := en_lt (d := d) (n := n) (k := k) (w := 0)
  have l1 := en_lt (d := d) (n := n) (k := k) (w := 1)
  rw [nI_clamp (by omega), e0, e2, e3, lN_i, lN_i]
  have g296 : ∀ f, (f = -1 ∧ sHi d n k = 0) ∨ (f = nI (en d n k 2 + sLo d n k) ∧ sHi d n k = sLo d n k + 4 ∧ sLo d n k ≤ n) → Pt Q (B_X12_check_296 N kk (nI k) (nI (en d n k 2)) (nI (en d n k 2 + en d n k 3)) f W) := fun f hf => by
    unfold B_X12_check_296
    refine pt_bb (sum_r hF p3 hf) ?_
    rintro ⟨x21, V19⟩ ⟨hx, e7⟩
    dsimp only at hx e7 ⊢
    subst e7
    rw [hx, nI_clamp (by omega), e1, lN_i]
    refine pt_g fun _ => pt_ite (fun q1 => pt_let fun x24 h24 => ih _ _ ⟨rfl, k + 1, by rw [h24, nI_1], hkm, fun j hj => ?_⟩) (fun q1 => pt_some (hno fun z => q1 (nI_md.mpr (by rw [show _ % _ = _ from z k hkm]; omega))))
    rcases Nat.lt_or_ge j k with z | z
    · exact hk j z
    · have e : j = k := by omega
      subst e
      have := nI_md.mp q1
      show _ % _ = _
      omega
  refine pt_g fun _ => pt_let fun x85 hx => pt_g fun _ => pt_g fun _ => ?_
  subst hx
  rw [nI_add]
  have eh : nI (en d n k 0) = (1751474532 : Int32) ↔ en d n k 0 = 1751474532 := nI_e32 (b := 1751474532) l0 (by decide)
  refine pt_ite (fun q1 => g296 _ (Or.inr ?_)) (fun q1 => g296 _ (Or.inl ⟨rfl, if_neg (fun z => q1 (eh.mpr z))⟩))
  have e := eh.mp q1
  unfold sLo sHi
  rw [if_pos e, if_pos e]
  exact ⟨nI_add _ 8, rfl, by omega⟩
theorem chk_57 (h : RB d n V) (h1 : K1 d n) (hR : K3 d n → Pt Q (sx_lp2 (B_X12_check_250 N) N 0 V)) (hno : ¬ K3 d n → Q (3, V)) : Pt Q (sx_lp2 (B_X12_check_57 N) N 0 V) := by
  obtain ⟨hF, h5, hT⟩ := h
  have hn := hF.1
  obtain ⟨-, -, t1, t2, -, -, -, ee⟩ := h1
  refine pt_l2 (I := fun a W => W = V ∧ ∃ k, a = nI k ∧ k ≤ tbl d n ∧ ∀ j, j < k → P3 d n j) ?_ N 0 V ⟨rfl, 0, rfl, Nat.zero_le _, fun j b => by omega⟩
  rintro kk ih a W ⟨rfl, k, rfl, k2, hk⟩
  unfold B_X12_check_57
  rw [h5]
  refine pt_ite (fun q => ?_) (fun q => ?_)
  · have e : k = tbl d n := by
      have := (nI_leI (by omega) (by omega)).mp q
      omega
    subst e
    exact hR hk
  have hkm : k < tbl d n := nI_nle2 q (by omega)
  obtain ⟨e0, e1, e2, e3⟩ := hT k hkm
  have a3 := en_lt (d := d) (n := n) (k := k) (w := 2)
  have a4 := en_lt (d := d) (n := n) (k := k) (w := 3)
  have no : ¬ P3 d n k → Pt Q (some (3, W)) := fun z => pt_some (hno fun y => z (y k hkm))
  rw [nI_clamp (by omega), e2, e3, show lN (en d n k 2) - lN (en d n k 2) / (4 : Int64) * (4 : Int64) = lN (en d n k 2 % 4) from pk_lRem (b := 4) (by omega) (by decide) (by decide), nI_l (by omega), show (16 : Int64) * lN (tbl d n) = lN (16 * tbl d n) from lN_mul 16 _, show (12 : Int64) + lN (16 * tbl d n) = lN (12 + 16 * tbl d n) from lN_add 12 _, lN_add, hF.2.1, nI_l (by omega)]
  refine pt_g fun _ => pt_ite (fun q1 => ?_) (fun q1 => no (fun z => q1 (lgc_eq.mpr (by rw [z.1]; rfl))))
  have c1 : en d n k 2 % 4 = 0 := (pk_lEQ (b := 0) (by omega) (by decide)).mp (lgc_eq.mp q1)
  refine pt_g fun _ => pt_ite (fun q2 => no (fun z => absurd ((pk_lLT (by omega) (by omega)).mp (lgc_lt.mp q2)) (Nat.not_lt.mpr z.2.1))) (fun q2 => ?_)
  rw [lgc_lt, pk_lLT (by omega) (by omega)] at q2
  refine pt_g fun _ => pt_g fun _ => pt_ite (fun q3 => ?_) (fun q3 => no (fun z => q3 (lgc_le.mpr ((pk_lLE (by omega) (by omega)).mpr z.2.2.1))))
  rw [lgc_le, pk_lLE (by omega) (by omega)] at q3
  refine pt_l3 (I := fun a b U => U = W ∧ a = nI k ∧ ∃ j, b = nI j ∧ j ≤ k ∧ ∀ i, i < j → ¬ SH d n i k) ?_ N (nI k) 0 W ⟨rfl, rfl, 0, rfl, Nat.zero_le _, fun j b => by omega⟩
  rintro k2' ih2 a b U ⟨rfl, rfl, j, rfl, hj, hs⟩
  unfold B_X12_check_129
  refine pt_ite (fun q4 => ?_) (fun q4 => ?_)
  · have e : j = k := by
      have := (nI_leI (by omega) (by omega)).mp q4
      omega
    subst e
    refine pt_let fun x2 hx => ih _ _ ⟨rfl, j + 1, by rw [hx, nI_1], hkm, fun i hi => ?_⟩
    rcases Nat.lt_or_ge i j with z | z
    · exact hk i z
    · have e : i = j := by omega
      subst e
      exact ⟨c1, by omega, q3, hs⟩
  have hjk : j < k := nI_nle2 q4 (by omega)
  obtain ⟨f0, f1, f2, f3⟩ := hT j (by omega)
  have b3 := en_lt (d := d) (n := n) (k := j) (w := 2)
  have b4 := en_lt (d := d) (n := n) (k := j) (w := 3)
  rw [nI_clamp (n := j) (by omega), nI_clamp (n := k) (by omega), e2, f2]
  have g225 : ∀ lo hi, lo < 2 ^ 63 → hi < 2 ^ 63 → (SH d n j k ↔ lo < hi) → Pt Q (B_X12_check_225 N kk k2' (nI k) (nI j) (lN lo) (lN hi) U) := fun lo hi hl hh hs2 => by
    unfold B_X12_check_225
    refine pt_ite (fun q5 => pt_let fun x7 hx7 => ih2 _ _ _ ⟨rfl, rfl, j + 1, by rw [hx7, nI_1], hjk, fun i hi' => ?_⟩) (fun q5 => no (fun z => z.2.2.2 j hjk (hs2.mpr ?_)))
    · rw [lgc_ge, pk_lLE (by omega) (by omega)] at q5
      rcases Nat.lt_or_ge i j with z | z
      · exact hs i z
      · have e : i = j := by omega
        subst e
        rw [hs2]
        omega
    · rw [lgc_ge, pk_lLE (by omega) (by omega)] at q5
      omega
  have g165 : ∀ lo, lo < 2 ^ 63 → lo = max (en d n j 2) (en d n k 2) → Pt Q (B_X12_check_165 N kk k2' (nI k) (nI j) (lN lo) U) := fun lo hl e => by
    unfold B_X12_check_165
    rw [nI_clamp (n := j) (by omega), nI_clamp (n := k) (by omega), e2, e3, f2, f3, lN_add, lN_add]
    refine pt_g fun _ => pt_g fun _ => pt_g fun _ => pt_g fun _ => pt_ite (fun q6 => ?_) (fun q6 => ?_)
    · rw [lgc_ge, pk_lLE (by omega) (by omega)] at q6
      exact pt_g fun _ => pt_g fun _ => g225 _ _ hl (by omega) (by unfold SH; rw [Nat.min_eq_right q6, e])
    · rw [lgc_ge, pk_lLE (by omega) (by omega)] at q6
      exact pt_g fun _ => pt_g fun _ => g225 _ _ hl (by omega) (by unfold SH; rw [Nat.min_eq_left (by omega), e])
  refine pt_g fun _ => pt_g fun _ => pt_ite (fun q6 => ?_) (fun q6 => ?_)
  · rw [lgc_le, pk_lLE (by omega) (by omega)] at q6
    exact pt_g fun _ => g165 _ (by omega) (Nat.max_eq_right q6).symm
  · rw [lgc_le, pk_lLE (by omega) (by omega)] at q6
    exact pt_g fun _ => g165 _ (by omega) (Nat.max_eq_left (by omega)).symm
theorem tag_and {a : Nat} (h : a < 4294967296) : (nI a).toInt64 &&& (4294967295 : Int64) = lN a := by
  refine Int64.toBitVec.inj (BitVec.eq_of_toNat_eq ?_)
  rw [Int64.toBitVec_and, BitVec.toNat_and, lN_tn (by omega), show ((4294967295 : Int64).toBitVec.toNat) = 2 ^ 32 - 1 from rfl, Nat.and_two_pow_sub_one_eq_mod]
  show ((nI a).toBitVec.signExtend 64).toNat % 2 ^ 32 = a
  rw [BitVec.toNat_signExtend]
  have e : (nI a).toBitVec.toNat = a := pk_tn h
  have e2 : (BitVec.setWidth 64 (nI a).toBitVec).toNat = a := by rw [BitVec.toNat_setWidth, e]; exact Nat.mod_eq_of_lt (by omega)
  rw [e2]
  split <;> omega
theorem chk_11 (h : RB d n V) (h1 : K1 d n) (hR : K2 d n → Pt Q (sx_lp2 (B_X12_check_57 N) N 0 V)) (hno : ¬ K2 d n → Q (2, V)) : Pt Q (sx_lp2 (B_X12_check_11 N) N 1 V) := by
  obtain ⟨hF, h5, hT⟩ := h
  have hn := hF.1
  obtain ⟨-, -, t1, t2, -, -, -, ee⟩ := h1
  refine pt_l2 (I := fun a W => W = V ∧ ∃ k, a = nI k ∧ 1 ≤ k ∧ k ≤ tbl d n ∧ ∀ j, 1 ≤ j → j < k → en d n (j - 1) 0 < en d n j 0) ?_ N 1 V ⟨rfl, 1, rfl, Nat.le_refl _, t1, fun j a b => by omega⟩
  rintro kk ih a W ⟨rfl, k, rfl, k1, k2, hk⟩
  unfold B_X12_check_11
  rw [h5]
  refine pt_ite (fun q => ?_) (fun q => ?_)
  · have e : k = tbl d n := by
      have := (nI_leI (by omega) (by omega)).mp q
      omega
    subst e
    exact hR hk
  have hkm : k < tbl d n := nI_nle2 q (by omega)
  have l1 := en_lt (d := d) (n := n) (k := k) (w := 0)
  have l2 := en_lt (d := d) (n := n) (k := k - 1) (w := 0)
  rw [show nI k - (1 : Int32) = nI (k - 1) from pk_sub (b := 1) k1, nI_clamp (n := k - 1) (by omega), nI_clamp (n := k) (by omega), (hT k hkm).1, (hT (k - 1) (by omega)).1, tag_and l1, tag_and l2]
  refine pt_g fun _ => pt_g fun _ => pt_ite (fun q1 => pt_let fun x9 hx => ih _ _ ⟨rfl, k + 1, by rw [hx, nI_1], by omega, hkm, fun j a b => ?_⟩) (fun q1 => pt_some (hno fun z => q1 (lgc_lt.mpr ((pk_lLT (by omega) (by omega)).mpr (z k k1 hkm)))))
  rcases Nat.lt_or_ge j k with z | z
  · exact hk j a z
  · have e : j = k := by omega
    subst e
    exact (pk_lLT (by omega) (by omega)).mp (lgc_lt.mp q1)
end D5
