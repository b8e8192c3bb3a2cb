/-! 4 SUMS -/
theorem pt_l6 {A B C D E F R : Type} {Q : R → Prop} {f : (A → B → C → D → E → F → Option R) → A → B → C → D → E → F → Option R} {I : A → B → C → D → E → F → Prop} (h : ∀ k, (∀ a b c d e g, I a b c d e g → Pt Q (k a b c d e g)) → ∀ a b c d e g, I a b c d e g → Pt Q (f k a b c d e g)) : ∀ n a b c d e g, I a b c d e g → Pt Q (sx_lp6 f n a b c d e g) := by
  intro n
  induction n with
  | zero => exact fun a b c d e g _ x q => by cases q
  | succ n ih => exact fun a b c d e g i => h _ ih a b c d e g i
/-- what byte i adds, of bytes from b on, len of them, without those from lo to hi -/
def sT (d : Nat → Int32) (n b len lo hi i : Nat) : Nat := if (lo ≤ i ∧ i < hi) ∨ len ≤ i then 0 else g1 d n (b + i) * 2 ^ (24 - 8 * (i % 4))
def SM (d : Nat → Int32) (n b len lo hi i : Nat) : Nat := match i with
  | 0 => 0
  | i + 1 => SM d n b len lo hi i + sT d n b len lo hi i
theorem nI_md {a b : Nat} : nI a = nI b ↔ a % 4294967296 = b % 4294967296 := by
  constructor
  · intro h
    have := congrArg (fun x : Int32 => x.toBitVec.toNat) h
    exact this
  · intro h
    exact Int32.toBitVec.inj (BitVec.eq_of_toNat_eq h)
theorem lN_and {a : Nat} (h : a < 2 ^ 64) : lN a &&& (4294967295 : Int64) = lN (a % 4294967296) := by
  refine Int64.toBitVec.inj (BitVec.eq_of_toNat_eq ?_)
  rw [Int64.toBitVec_and, BitVec.toNat_and, lN_tn h, lN_tn (by omega)]
  exact Nat.and_two_pow_sub_one_eq_mod a 32
theorem sh_c {x r : Nat} (hx : x < 256) (hr : r < 4) : (nI x).toInt64 <<< (((24 : Int32) - ((8 : Int32) * nI r)).toInt64 &&& 63) = lN (x * 2 ^ (24 - 8 * r)) := by
  have e : r = 0 ∨ r = 1 ∨ r = 2 ∨ r = 3 := by omega
  rw [nI_l (by omega)]
  rcases e with rfl | rfl | rfl | rfl
  · rw [show lN (x * 2 ^ (24 - 8 * 0)) = lN x * 16777216 from (lN_mul x 16777216).symm]
    refine Int64.toBitVec.inj ?_
    rw [Int64.toBitVec_shiftLeft, Int64.toBitVec_mul]
    show (lN x).toBitVec <<< (24 : Nat) = _
    rw [BitVec.shiftLeft_eq_mul_twoPow]
    rfl
  · rw [show lN (x * 2 ^ (24 - 8 * 1)) = lN x * 65536 from (lN_mul x 65536).symm]
    refine Int64.toBitVec.inj ?_
    rw [Int64.toBitVec_shiftLeft, Int64.toBitVec_mul]
    show (lN x).toBitVec <<< (16 : Nat) = _
    rw [BitVec.shiftLeft_eq_mul_twoPow]
    rfl
  · rw [show lN (x * 2 ^ (24 - 8 * 2)) = lN x * 256 from (lN_mul x 256).symm]
    refine Int64.toBitVec.inj ?_
    rw [Int64.toBitVec_shiftLeft, Int64.toBitVec_mul]
    show (lN x).toBitVec <<< (8 : Nat) = _
    rw [BitVec.shiftLeft_eq_mul_twoPow]
    rfl
  · rw [show x * 2 ^ (24 - 8 * 3) = x from Nat.mul_one x]
    refine Int64.toBitVec.inj ?_
    rw [Int64.toBitVec_shiftLeft]
    show (lN x).toBitVec <<< (0 : Nat) = _
    exact BitVec.shiftLeft_zero _
theorem sh_r {x r : Nat} (hx : x < 256) (hr : r < 4) : (nI x) <<< ((24 : Int32) - ((8 : Int32) * nI r) &&& 31) = nI (x * 2 ^ (24 - 8 * r)) := by
  have e : r = 0 ∨ r = 1 ∨ r = 2 ∨ r = 3 := by omega
  rcases e with rfl | rfl | rfl | rfl
  · exact pk_shlN _ 24 (by decide) (by omega)
  · exact pk_shlN _ 16 (by decide) (by omega)
  · exact pk_shlN _ 8 (by decide) (by omega)
  · exact pk_shlN _ 0 (by decide) (by omega)
section D4
variable {d : Nat → Int32} {n N : Nat} {V : sv_V} {b len lo hi : Nat}
theorem sT_le {i : Nat} : sT d n b len lo hi i ≤ 4278190080 := by
  unfold sT
  split
  · omega
  · have h := g1_lt (d := d) (n := n) (P := b + i)
    have e : i % 4 = 0 ∨ i % 4 = 1 ∨ i % 4 = 2 ∨ i % 4 = 3 := by omega
    rcases e with e | e | e | e <;> rw [e] <;> omega
theorem SM_le : ∀ i, SM d n b len lo hi i ≤ 4278190080 * i := by
  intro i
  induction i with
  | zero => exact Nat.le_refl _
  | succ i ih =>
    have := sT_le (d := d) (n := n) (b := b) (len := len) (lo := lo) (hi := hi) (i := i)
    show SM d n b len lo hi i + _ ≤ _
    omega
theorem SM_end : ∀ i, len ≤ i → SM d n b len lo hi i = SM d n b len lo hi len := by
  intro i h
  obtain ⟨k, rfl⟩ : ∃ k, i = len + k := ⟨i - len, by omega⟩
  clear h
  induction k with
  | zero => rfl
  | succ k ih =>
    show SM d n b len lo hi (len + k) + sT d n b len lo hi (len + k) = _
    rw [ih]
    unfold sT
    rw [if_pos (Or.inr (by omega))]
    rfl
theorem sum_c {f : Int32} (h : FC d n V) (hb : b + len ≤ n) (hf : (f = 0 ∧ lo = 0 ∧ hi = 0) ∨ (f = 1 ∧ lo = 8 ∧ hi = 12)) : Pt (fun p : Int64 × sv_V => p.1 = lN (SM d n b len lo hi len % 4294967296) ∧ p.2 = V) (F_X4_sumOf N (nI b) (nI len) f V) := by
  have hn := h.1
  unfold F_X4_sumOf
  refine pt_l6 (I := fun a1 a2 a3 a4 a5 W => W = V ∧ a1 = nI b ∧ a2 = nI len ∧ a3 = f ∧ ∃ i, i ≤ len ∧ a4 = lN (SM d n b len lo hi i) ∧ a5 = nI i) ?_ N _ _ _ _ _ V ⟨rfl, rfl, rfl, rfl, 0, Nat.zero_le _, rfl, rfl⟩
  rintro kk ih a1 a2 a3 a4 a5 W ⟨rfl, rfl, rfl, rfl, i, hi', rfl, rfl⟩
  unfold B_X4_sumOf_6
  have sl := SM_le (d := d) (n := n) (b := b) (len := len) (lo := lo) (hi := hi) i
  refine pt_ite (fun q => ?_) (fun q => ?_)
  · have e : i = len := by
      have := (nI_leI (by omega) (by omega)).mp q
      omega
    subst e
    exact pt_some ⟨lN_and (by omega), rfl⟩
  have hil : i < len := nI_nle2 q (by omega)
  have g30 : ¬ (lo ≤ i ∧ i < hi) → Pt (fun p : Int64 × sv_V => p.1 = lN (SM d n b len lo hi len % 4294967296) ∧ p.2 = W) (B_X4_sumOf_30 N kk (nI b) (nI len) a3 (lN (SM d n b len lo hi i)) (nI i) W) := fun z => by
    unfold B_X4_sumOf_30
    rw [nI_add, u1_c h (by omega), Option.bind_some]
    dsimp only
    rw [show nI i &&& (3 : Int32) = nI (i % 4) from pk_andN (by omega) 2 rfl, sh_c g1_lt (Nat.mod_lt _ (by decide)), lN_add]
    refine pt_let fun x5 hx => ?_
    unfold B_X4_sumOf_58
    refine pt_let fun x1 hx1 => ih _ _ _ _ _ _ ⟨rfl, rfl, rfl, rfl, i + 1, hil, ?_, by rw [hx1, nI_1]⟩
    rw [hx]
    show _ = lN (SM d n b len lo hi i + sT d n b len lo hi i)
    unfold sT
    rw [if_neg (by omega)]
  have g58 : (lo ≤ i ∧ i < hi) → Pt (fun p : Int64 × sv_V => p.1 = lN (SM d n b len lo hi len % 4294967296) ∧ p.2 = W) (B_X4_sumOf_58 N kk (nI b) (nI len) a3 (lN (SM d n b len lo hi i)) (nI i) W) := fun z => by
    unfold B_X4_sumOf_58
    refine pt_let fun x1 hx1 => ih _ _ _ _ _ _ ⟨rfl, rfl, rfl, rfl, i + 1, hil, ?_, by rw [hx1, nI_1]⟩
    show _ = lN (SM d n b len lo hi i + sT d n b len lo hi i)
    unfold sT
    rw [if_pos (Or.inl z)]
    rfl
  refine pt_ite (fun q1 => g30 ?_) (fun q1 => ?_)
  · rcases hf with ⟨-, e1, e2⟩ | ⟨e0, -, -⟩
    · omega
    · exact absurd (e0.symm.trans q1) (by decide)
  obtain ⟨-, e1, e2⟩ := hf.resolve_left (fun z => q1 z.1)
  refine pt_ite (fun q2 => g30 ?_) (fun q2 => pt_ite (fun q3 => g58 ?_) (fun q3 => g30 ?_))
  · have := (nI_ltI (b := 8) (by omega) (by decide)).mp q2
    omega
  · have := nI_nlt2 (b := 8) q2 (by decide)
    have := (nI_leI (b := 11) (by omega) (by decide)).mp q3
    omega
  · have := nI_nle2 (b := i) (a := 11) (show ¬ nI i ≤ nI 11 from q3) (by decide)
    omega
theorem sum_r {f : Int32} (h : FR d n V) (hb : b + len ≤ n) (hf : (f = -1 ∧ hi = 0) ∨ (f = nI (b + lo) ∧ hi = lo + 4 ∧ lo ≤ n)) : Pt (fun p : Int32 × sv_V => p.1 = nI (SM d n b len lo hi len) ∧ p.2 = V) (F_X12_sumOf N (nI b) (nI (b + len)) f V) := by
  have hn := h.1
  unfold F_X12_sumOf
  refine pt_l5 (I := fun a2 a3 a4 a5 W => W = V ∧ a2 = nI (b + len) ∧ a3 = f ∧ ∃ q, 4 * q ≤ len + 3 ∧ a4 = nI (SM d n b len lo hi (4 * q)) ∧ a5 = nI (b + 4 * q)) ?_ N _ _ _ _ V ⟨rfl, rfl, rfl, 0, Nat.zero_le _, rfl, rfl⟩
  rintro kk ih a2 a3 a4 a5 W ⟨rfl, rfl, rfl, q, hq, rfl, rfl⟩
  unfold B_X12_sumOf_6
  refine pt_ite (fun c => ?_) (fun c => ?_)
  · have := (nI_leI (by omega) (by omega)).mp c
    rw [SM_end (4 * q) (by omega)]
    exact pt_some ⟨rfl, rfl⟩
  have hql : b + 4 * q < b + len := nI_nle2 c (by omega)
  refine pt_l6 (I := fun a2 b3 a4 a5 a6 U => U = W ∧ a2 = nI (b + len) ∧ b3 = a3 ∧ a5 = nI (b + 4 * q) ∧ ∃ k, k ≤ 4 ∧ a4 = nI (SM d n b len lo hi (4 * q + k)) ∧ a6 = nI k) ?_ N _ _ _ _ _ W ⟨rfl, rfl, rfl, rfl, 0, by omega, rfl, rfl⟩
  rintro k2 ih2 a2 b3 a4 a5 a6 U ⟨rfl, rfl, rfl, rfl, k, hk, rfl, rfl⟩
  unfold B_X12_sumOf_15
  refine pt_ite (fun c4 => ?_) (fun c4 => ?_)
  · have e : k = 4 := by
      have := (nI_leI (a := 4) (by decide) (by omega)).mp c4
      omega
    subst e
    exact pt_let fun x7 hx => ih _ _ _ _ _ ⟨rfl, rfl, rfl, q + 1, by omega, rfl, by rw [hx]; exact nI_add _ 4⟩
  have hk4 : k < 4 := nI_nle2 (b := 4) c4 (by omega)
  refine pt_let fun x8 hx8 => ?_
  rw [nI_add] at hx8
  subst hx8
  have g63 : ∀ x, x < 256 → x * 2 ^ (24 - 8 * k) = sT d n b len lo hi (4 * q + k) → Pt (fun p : Int32 × sv_V => p.1 = nI (SM d n b len lo hi len) ∧ p.2 = U) (B_X12_sumOf_63 N kk k2 (nI (b + len)) b3 (nI (SM d n b len lo hi (4 * q + k))) (nI (b + 4 * q)) (nI k) (nI x) U) := fun x hx e => by
    unfold B_X12_sumOf_63
    rw [sh_r hx hk4, nI_add, e]
    exact pt_let fun x1 h1 => pt_let fun x2 h2 => ih2 _ _ _ _ _ _ ⟨rfl, rfl, rfl, rfl, k + 1, hk4, h1, by rw [h2, nI_1]⟩
  have g62 : ((lo ≤ 4 * q + k ∧ 4 * q + k < hi) ∨ len ≤ 4 * q + k) → Pt (fun p : Int32 × sv_V => p.1 = nI (SM d n b len lo hi len) ∧ p.2 = U) (B_X12_sumOf_62 N kk k2 (nI (b + len)) b3 (nI (SM d n b len lo hi (4 * q + k))) (nI (b + 4 * q)) (nI k) U) := fun z => by
    unfold B_X12_sumOf_62
    refine g63 0 (by decide) ?_
    unfold sT
    rw [if_pos z, Nat.zero_mul]
  have g53 : ¬ ((lo ≤ 4 * q + k ∧ 4 * q + k < hi) ∨ len ≤ 4 * q + k) → Pt (fun p : Int32 × sv_V => p.1 = nI (SM d n b len lo hi len) ∧ p.2 = U) (B_X12_sumOf_53 N kk k2 (nI (b + len)) b3 (nI (SM d n b len lo hi (4 * q + k))) (nI (b + 4 * q)) (nI k) (nI (b + 4 * q + k)) U) := fun z => by
    unfold B_X12_sumOf_53
    rw [u1_r h (by omega), Option.bind_some]
    refine g63 _ g1_lt ?_
    unfold sT
    rw [if_neg z, show (4 * q + k) % 4 = k by omega, Nat.add_assoc]
  refine pt_ite (fun c5 => g62 (Or.inr ?_)) (fun c5 => ?_)
  · have := (nI_leI (by omega) (by omega)).mp c5
    omega
  have h5 := nI_nle2 c5 (by omega)
  refine pt_ite (fun c6 => g53 ?_) (fun c6 => ?_)
  · rcases hf with ⟨-, e⟩ | ⟨e, -, hl⟩
    · omega
    · rw [e, show (-1 : Int32) = nI 4294967295 from rfl, nI_md] at c6
      omega
  obtain ⟨e1, e2, e3⟩ := hf.resolve_left (fun z => c6 z.1)
  subst e1
  rw [show nI (b + lo) + (4 : Int32) = nI (b + lo + 4) from nI_add _ 4]
  refine pt_ite (fun c7 => g53 ?_) (fun c7 => pt_ite (fun c8 => g62 (Or.inl ?_)) (fun c8 => g53 ?_))
  · have := (nI_ltI (by omega) (by omega)).mp c7
    omega
  · have := (nI_ltI (by omega) (by omega)).mp c8
    have := nI_nlt2 c7 (by omega)
    omega
  · have := nI_nlt2 c8 (by omega)
    omega
/-- with the four bytes at h + 8 and without -/
theorem SM_four {h : Nat} (h4 : h % 4 = 0) (hl : h + 12 ≤ len) : ∀ i, (i ≤ h + 8 → SM d n 0 len 0 0 i = SM d n 0 len (h + 8) (h + 12) i) ∧ (h + 12 ≤ i → SM d n 0 len 0 0 i = SM d n 0 len (h + 8) (h + 12) i + g4 d n (h + 8)) := by
  have a : ∀ i, i ≤ h + 8 → SM d n 0 len 0 0 i = SM d n 0 len (h + 8) (h + 12) i := by
    intro i
    induction i with
    | zero => exact fun _ => rfl
    | succ i ih =>
      intro hi
      show SM d n 0 len 0 0 i + sT d n 0 len 0 0 i = SM d n 0 len (h + 8) (h + 12) i + sT d n 0 len (h + 8) (h + 12) i
      rw [ih (by omega)]
      unfold sT
      congr 1
      rw [if_neg (by omega), if_neg (by omega)]
  have b : SM d n 0 len 0 0 (h + 12) = SM d n 0 len (h + 8) (h + 12) (h + 12) + g4 d n (h + 8) := by
    show SM d n 0 len 0 0 (h + 8) + sT d n 0 len 0 0 (h + 8) + sT d n 0 len 0 0 (h + 9) + sT d n 0 len 0 0 (h + 10) + sT d n 0 len 0 0 (h + 11) = SM d n 0 len (h + 8) (h + 12) (h + 8) + sT d n 0 len (h + 8) (h + 12) (h + 8) + sT d n 0 len (h + 8) (h + 12) (h + 9) + sT d n 0 len (h + 8) (h + 12) (h + 10) + sT d n 0 len (h + 8) (h + 12) (h + 11) + g4 d n (h + 8)
    rw [a (h + 8) (by omega)]
    unfold sT
    rw [if_neg (by omega), if_neg (by omega), if_neg (by omega), if_neg (by omega), if_pos (by omega), if_pos (by omega), if_pos (by omega), if_pos (by omega), show (h + 8) % 4 = 0 by omega, show (h + 9) % 4 = 1 by omega, show (h + 10) % 4 = 2 by omega, show (h + 11) % 4 = 3 by omega]
    unfold g4 g2
    rw [show 0 + (h + 8) = h + 8 by omega, show 0 + (h + 9) = h + 9 by omega, show 0 + (h + 10) = h + 10 by omega, show 0 + (h + 11) = h + 11 by omega]
    show _ + g1 d n (h + 8) * 16777216 + g1 d n (h + 9) * 65536 + g1 d n (h + 10) * 256 + g1 d n (h + 11) * 1 = _ + 0 + 0 + 0 + 0 + (65536 * (256 * g1 d n (h + 8) + g1 d n (h + 9)) + (256 * g1 d n (h + 10) + g1 d n (h + 11)))
    omega
  refine fun i => ⟨a i, fun hi => ?_⟩
  obtain ⟨k, rfl⟩ : ∃ k, i = h + 12 + k := ⟨i - (h + 12), by omega⟩
  clear hi
  induction k with
  | zero => exact b
  | succ k ih =>
    show SM d n 0 len 0 0 (h + 12 + k) + sT d n 0 len 0 0 (h + 12 + k) = SM d n 0 len (h + 8) (h + 12) (h + 12 + k) + sT d n 0 len (h + 8) (h + 12) (h + 12 + k) + _
    rw [ih]
    have : sT d n 0 len 0 0 (h + 12 + k) = sT d n 0 len (h + 8) (h + 12) (h + 12 + k) := by
      unfold sT
      by_cases c : len ≤ h + 12 + k
      · rw [if_pos (Or.inr c), if_pos (Or.inr c)]
      · rw [if_neg (by omega), if_neg (by omega)]
    rw [this]
    omega
end D4
