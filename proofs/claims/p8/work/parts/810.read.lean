section
/-! WHAT LOAD READS: the font's bytes as natural numbers, in the class and in the reference -/
/-- byte P of a font of n bytes d, 0 beyond it -/
def g1 (d : Nat → Int32) (n P : Nat) : Nat := if P < n then (d P).toBitVec.toNat % 256 else 0
def g2 (d : Nat → Int32) (n P : Nat) : Nat := 256 * g1 d n P + g1 d n (P + 1)
def g4 (d : Nat → Int32) (n P : Nat) : Nat := 65536 * g2 d n P + g2 d n (P + 2)
/-- the class's two bytes: 0 unless both are there -/
def c2 (d : Nat → Int32) (n P : Nat) : Nat := if P + 2 ≤ n then g2 d n P else 0
def c4 (d : Nat → Int32) (n P : Nat) : Nat := 65536 * c2 d n P + c2 d n (P + 2)
/-- a number of two bytes with a sign -/
def s16 (m : Nat) : Int32 := (nI m).toInt16.toInt32
theorem g1_lt {d : Nat → Int32} {n P : Nat} : g1 d n P < 256 := by
  unfold g1
  split
  · exact Nat.mod_lt _ (by decide)
  · decide
theorem g2_lt {d : Nat → Int32} {n P : Nat} : g2 d n P < 65536 := by
  have h1 := g1_lt (d := d) (n := n) (P := P)
  have h2 := g1_lt (d := d) (n := n) (P := P + 1)
  unfold g2
  omega
theorem g4_lt {d : Nat → Int32} {n P : Nat} : g4 d n P < 4294967296 := by
  have h1 := g2_lt (d := d) (n := n) (P := P)
  have h2 := g2_lt (d := d) (n := n) (P := P + 2)
  unfold g4
  omega
theorem c2_lt {d : Nat → Int32} {n P : Nat} : c2 d n P < 65536 := by
  have h1 := g2_lt (d := d) (n := n) (P := P)
  unfold c2
  split <;> omega
theorem c2_g {d : Nat → Int32} {n P : Nat} (h : P + 2 ≤ n) : c2 d n P = g2 d n P := if_pos h
theorem c4_g {d : Nat → Int32} {n P : Nat} (h : P + 4 ≤ n) : c4 d n P = g4 d n P := by
  unfold c4 g4
  rw [c2_g (by omega), c2_g (by omega)]
def FC (d : Nat → Int32) (n : Nat) (V : sv_V) : Prop := n ≤ 12000 ∧ V.1 2 1 = nI n ∧ ∀ j, j < n → V.1 3 j = d j
def FR (d : Nat → Int32) (n : Nat) (V : sv_V) : Prop := n ≤ 12000 ∧ V.1 146 3 = nI n ∧ ∀ j, j < n → V.1 148 j = d j
/-- the bytes are bytes -/
def DB (d : Nat → Int32) : Prop := ∀ j, (d j).toInt8.toInt32 = d j
theorem or8 {a b : Nat} (ha : a < 256) (hb : b < 256) : (nI a <<< ((8 : Int32) &&& 31)) ||| nI b = nI (256 * a + b) := by
  rw [pk_shlN ((8 : Int32) &&& 31) 8 (by decide) (by omega)]
  refine Int32.toBitVec.inj (BitVec.eq_of_toNat_eq ?_)
  rw [Int32.toBitVec_or, BitVec.toNat_or, pk_tn (by omega), pk_tn (by omega), pk_tn (by omega)]
  have h := Nat.two_pow_add_eq_or_of_lt (i := 8) (b := b) hb a
  rw [Nat.mul_comm a (2 ^ 8), ← h]
theorem lN_tn {n : Nat} (h : n < 2 ^ 64) : (lN n).toBitVec.toNat = n := Nat.mod_eq_of_lt h
theorem or16 {a b : Nat} (ha : a < 65536) (hb : b < 65536) : ((nI a).toInt64 <<< ((16 : Int32).toInt64 &&& 63)) ||| (nI b).toInt64 = lN (65536 * a + b) := by
  have e : ∀ x : Int64, x <<< ((16 : Int32).toInt64 &&& 63) = x * 65536 := fun x => by
    refine Int64.toBitVec.inj ?_
    rw [Int64.toBitVec_shiftLeft, Int64.toBitVec_mul]
    show x.toBitVec <<< (16 : Nat) = _
    rw [BitVec.shiftLeft_eq_mul_twoPow]
    rfl
  rw [e, nI_l (by omega), nI_l (by omega), show lN a * 65536 = lN (a * 65536) from lN_mul a 65536]
  refine Int64.toBitVec.inj (BitVec.eq_of_toNat_eq ?_)
  rw [Int64.toBitVec_or, BitVec.toNat_or, lN_tn (by omega), lN_tn (by omega), lN_tn (by omega)]
  have h := Nat.two_pow_add_eq_or_of_lt (i := 16) (b := b) hb a
  rw [show a * 65536 = 2 ^ 16 * a from Nat.mul_comm a 65536, ← h]
section RD
variable {d : Nat → Int32} {n P : Nat} {V : sv_V}
theorem u1_c (h : FC d n V) (hP : P < 2 ^ 31) : F_X2_u1 (nI P) V = some (nI (g1 d n P), V) := by
  obtain ⟨h1, h2, h3⟩ := h
  unfold F_X2_u1 g1
  rw [if_neg (nI_pos hP), h2]
  by_cases q : P < n
  · rw [if_neg (nI_ge q (by omega)), if_pos (sx_in_nI (by omega) (by decide)), nI_clamp hP, h3 P q, pk_and _ 8 rfl, if_pos q]
  · rw [if_pos (nI_le (by omega) hP), if_neg q]
    rfl
theorem u1_r (h : FR d n V) (hP : P < 2 ^ 31) : F_X12_u1 (nI P) V = some (nI (g1 d n P), V) := by
  obtain ⟨h1, h2, h3⟩ := h
  unfold F_X12_u1 g1
  rw [if_neg (nI_pos hP), h2]
  by_cases q : P < n
  · rw [if_neg (nI_ge q (by omega)), if_pos (sx_in_nI (by omega) (by decide)), nI_clamp hP, h3 P q, pk_and _ 8 rfl, if_pos q]
  · rw [if_pos (nI_le (by omega) hP), if_neg q]
    rfl
theorem u2_r (h : FR d n V) (hP : P + 1 < 2 ^ 31) : F_X12_u2 (nI P) V = some (nI (g2 d n P), V) := by
  unfold F_X12_u2
  rw [u1_r h (by omega), Option.bind_some]
  dsimp only
  rw [nI_1, u1_r h hP, Option.bind_some]
  dsimp only
  rw [or8 g1_lt g1_lt]
  rfl
theorem u4_r (h : FR d n V) (hP : P + 3 < 2 ^ 31) : F_X12_u4 (nI P) V = some (lN (g4 d n P), V) := by
  unfold F_X12_u4
  rw [u2_r h (by omega), Option.bind_some]
  dsimp only
  rw [show nI P + (2 : Int32) = nI (P + 2) from nI_add P 2, u2_r h (by omega), Option.bind_some]
  dsimp only
  rw [or16 g2_lt g2_lt]
  rfl
theorem s2_r (h : FR d n V) (hP : P + 1 < 2 ^ 31) : F_X12_s2 (nI P) V = some (s16 (g2 d n P), V) := by
  unfold F_X12_s2
  rw [u2_r h hP, Option.bind_some]
  rfl
theorem s1_r (h : FR d n V) (hP : P < 2 ^ 31) : F_X12_s1 (nI P) V = some ((nI (g1 d n P)).toInt8.toInt32, V) := by
  unfold F_X12_s1
  rw [u1_r h hP, Option.bind_some]
theorem u2_c (h : FC d n V) (hP : P + 2 < 2 ^ 31) : F_X2_u2 (nI P) V = some (nI (c2 d n P), V) := by
  obtain ⟨h1, h2, h3⟩ := h
  unfold F_X2_u2 c2
  rw [if_neg (nI_pos (by omega)), h2, show nI P + (2 : Int32) = nI (P + 2) from nI_add P 2, nI_1]
  by_cases q : P + 2 ≤ n
  · rw [if_pos (nI_le q (by omega)), if_pos (sx_in_nI (by omega) (by decide)), if_pos (sx_in_nI (by omega) (by decide)), nI_clamp (by omega), nI_clamp (by omega), h3 P (by omega), h3 (P + 1) (by omega), pk_and (d P) 8 rfl, pk_and (d (P + 1)) 8 rfl, if_pos q, or8 (Nat.mod_lt _ (by decide)) (Nat.mod_lt _ (by decide))]
    unfold g2 g1
    rw [if_pos (by omega), if_pos (by omega)]
  · rw [if_neg (nI_ge (by omega) (by omega)), if_neg q]
    rfl
theorem u4_c (h : FC d n V) (hP : P + 4 < 2 ^ 31) : F_X2_u4 (nI P) V = some (lN (c4 d n P), V) := by
  unfold F_X2_u4
  rw [u2_c h (by omega), Option.bind_some]
  dsimp only
  rw [show nI P + (2 : Int32) = nI (P + 2) from nI_add P 2, u2_c h (by omega), Option.bind_some]
  dsimp only
  rw [or16 c2_lt c2_lt]
  rfl
theorem s16_t {m : Nat} (h : m < 65536) : (s16 m).toInt = if m < 32768 then (m : Int) else m - 65536 := by
  unfold s16
  rw [Int16.toInt_toInt32, Int32.toInt_toInt16, nI_toInt (by omega), Int.bmod_def]
  split <;> split <;> omega
theorem s16_or {x : Int32} {b : Nat} (hx : x.toInt8.toInt32 = x) (hb : b < 256) : (x <<< ((8 : Int32) &&& 31)) ||| nI b = s16 (256 * (x.toBitVec.toNat % 256) + b) := by
  have hl := x.toBitVec.isLt
  have hr : x.toBitVec.toNat < 128 ∨ 4294967168 ≤ x.toBitVec.toNat := by
    have r : rg x (-128) 127 := by rw [← hx]; exact rg_b8
    obtain ⟨r1, r2⟩ := r
    have e : x.toInt = x.toBitVec.toInt := rfl
    rw [e, BitVec.toInt_eq_toNat_cond] at r1 r2
    split at r1 <;> omega
  refine Int32.toInt_inj.mp ?_
  rw [s16_t (by omega)]
  have e : ((x <<< ((8 : Int32) &&& 31)) ||| nI b).toBitVec.toNat = 2 ^ 8 * (x.toBitVec.toNat % 2 ^ 24) + b := by
    rw [Int32.toBitVec_or, BitVec.toNat_or, pk_shl _ _ 8 (by decide), pk_tn (by omega), show x.toBitVec.toNat * 2 ^ 8 % 2 ^ 32 = 2 ^ 8 * (x.toBitVec.toNat % 2 ^ 24) by omega]
    exact (Nat.two_pow_add_eq_or_of_lt (i := 8) (b := b) hb _).symm
  show ((x <<< ((8 : Int32) &&& 31)) ||| nI b).toBitVec.toInt = _
  rw [BitVec.toInt_eq_toNat_cond, e]
  split <;> split <;> omega
theorem s2_c (hd : DB d) (h : FC d n V) (hP : P + 2 < 2 ^ 31) : F_X2_s2 (nI P) V = some (s16 (c2 d n P), V) := by
  obtain ⟨h1, h2, h3⟩ := h
  unfold F_X2_s2 c2
  rw [if_neg (nI_pos (by omega)), h2, show nI P + (2 : Int32) = nI (P + 2) from nI_add P 2, nI_1]
  by_cases q : P + 2 ≤ n
  · rw [if_pos (nI_le q (by omega)), if_pos (sx_in_nI (by omega) (by decide)), if_pos (sx_in_nI (by omega) (by decide)), nI_clamp (by omega), nI_clamp (by omega), h3 P (by omega), h3 (P + 1) (by omega), pk_and (d (P + 1)) 8 rfl, if_pos q, s16_or (hd P) (Nat.mod_lt _ (by decide))]
    unfold g2 g1
    rw [if_pos (by omega), if_pos (by omega)]
  · rw [if_neg (nI_ge (by omega) (by omega)), if_neg q]
    rfl
end RD
end
section
/-! 1 THE DIRECTORY -/
def IB (x : Int32) (P : Prop) : Prop := (x = 1 ∧ P) ∨ (x = 0 ∧ ¬ P)
theorem IB.y {x : Int32} {P : Prop} (h : IB x P) (e : ¬ x = 0) : P := h.elim (fun q => q.2) (fun q => absurd q.1 e)
theorem IB.n {x : Int32} {P : Prop} (h : IB x P) (e : x = 0) : ¬ P := h.elim (fun q => absurd (q.1.symm.trans e) (by decide)) (fun q => q.2)
theorem IB.o {x : Int32} {P : Prop} (h : IB x P) (e : ¬ x = 0) : x = 1 := h.elim (fun q => q.1) (fun q => absurd q.1 e)
theorem nnx {P : Prop} (h : ¬ ¬ P) : P := by
  by_cases c : P
  · exact c
  · exact absurd c h
section PL
variable {A B C D E R : Type} {Q : R → Prop}
theorem pt_l1 {f : (A → Option R) → A → Option R} {I : A → Prop} (h : ∀ k, (∀ a, I a → Pt Q (k a)) → ∀ a, I a → Pt Q (f k a)) : ∀ n a, I a → Pt Q (sx_lp1 f n a) := by
  intro n
  induction n with
  | zero => exact fun a _ x e => by cases e
  | succ n ih => exact fun a i => h _ ih a i
theorem pt_l2 {f : (A → B → Option R) → A → B → Option R} {I : A → B → Prop} (h : ∀ k, (∀ a b, I a b → Pt Q (k a b)) → ∀ a b, I a b → Pt Q (f k a b)) : ∀ n a b, I a b → Pt Q (sx_lp2 f n a b) := by
  intro n
  induction n with
  | zero => exact fun a b _ x e => by cases e
  | succ n ih => exact fun a b i => h _ ih a b i
theorem pt_l3 {f : (A → B → C → Option R) → A → B → C → Option R} {I : A → B → C → Prop} (h : ∀ k, (∀ a b c, I a b c → Pt Q (k a b c)) → ∀ a b c, I a b c → Pt Q (f k a b c)) : ∀ n a b c, I a b c → Pt Q (sx_lp3 f n a b c) := by
  intro n
  induction n with
  | zero => exact fun a b c _ x e => by cases e
  | succ n ih => exact fun a b c i => h _ ih a b c i
theorem pt_l4 {f : (A → B → C → D → Option R) → A → B → C → D → Option R} {I : A → B → C → D → Prop} (h : ∀ k, (∀ a b c d, I a b c d → Pt Q (k a b c d)) → ∀ a b c d, I a b c d → Pt Q (f k a b c d)) : ∀ n a b c d, I a b c d → Pt Q (sx_lp4 f n a b c d) := by
  intro n
  induction n with
  | zero => exact fun a b c d _ x e => by cases e
  | succ n ih => exact fun a b c d i => h _ ih a b c d i
theorem pt_l5 {f : (A → B → C → D → E → Option R) → A → B → C → D → E → Option R} {I : A → B → C → D → E → Prop} (h : ∀ k, (∀ a b c d e, I a b c d e → Pt Q (k a b c d e)) → ∀ a b c d e, I a b c d e → Pt Q (f k a b c d e)) : ∀ n a b c d e, I a b c d e → Pt Q (sx_lp5 f n a b c d e) := by
  intro n
  induction n with
  | zero => exact fun a b c d e _ x q => by cases q
  | succ n ih => exact fun a b c d e i => h _ ih a b c d e i
end PL
theorem pt_m {A : Type} {P Q : A → Prop} {o : Option A} (h : Pt P o) (k : ∀ a, P a → Q a) : Pt Q o := fun a e => k a (h a e)
theorem pt_bb {A B : Type} {P : A → Prop} {Q : B → Prop} {o : Option B} {f : B → Option A} (h : Pt Q o) (k : ∀ x, Q x → Pt P (f x)) : Pt P (o.bind f) := pt_b fun x e => k x (h x e)
def dirE (t : Nat) : Nat := if t < 2 then 0 else if t < 4 then 1 else if t < 8 then 2 else if t < 16 then 3 else 4
def tbl (d : Nat → Int32) (n : Nat) : Nat := g2 d n 4
def K1 (d : Nat → Int32) (n : Nat) : Prop := 12 ≤ n ∧ g4 d n 0 = 65536 ∧ 1 ≤ tbl d n ∧ tbl d n ≤ 16 ∧ g2 d n 6 = 16 * 2 ^ dirE (tbl d n) ∧ g2 d n 8 = dirE (tbl d n) ∧ g2 d n 10 = 16 * tbl d n - 16 * 2 ^ dirE (tbl d n) ∧ 12 + 16 * tbl d n ≤ n
theorem t16 {t : Nat} (h1 : 1 ≤ t) (h2 : t ≤ 16) {P : Nat → Prop} (p1 : P 1) (p2 : P 2) (p3 : P 3) (p4 : P 4) (p5 : P 5) (p6 : P 6) (p7 : P 7) (p8 : P 8) (p9 : P 9) (p10 : P 10) (p11 : P 11) (p12 : P 12) (p13 : P 13) (p14 : P 14) (p15 : P 15) (p16 : P 16) : P t := by
  have : t = 1 ∨ t = 2 ∨ t = 3 ∨ t = 4 ∨ t = 5 ∨ t = 6 ∨ t = 7 ∨ t = 8 ∨ t = 9 ∨ t = 10 ∨ t = 11 ∨ t = 12 ∨ t = 13 ∨ t = 14 ∨ t = 15 ∨ t = 16 := by omega
  rcases this with rfl | rfl | rfl | rfl | rfl | rfl | rfl | rfl | rfl | rfl | rfl | rfl | rfl | rfl | rfl | rfl <;> assumption
theorem dirE_s (t : Nat) : (16 : Int32) <<< (nI (dirE t) &&& 31) = nI (16 * 2 ^ dirE t) := by
  unfold dirE
  split
  · decide
  · split
    · decide
    · split
      · decide
      · split <;> decide
theorem dirE_le (t : Nat) : dirE t ≤ 4 := by
  unfold dirE
  split
  · decide
  · split
    · decide
    · split
      · decide
      · split <;> decide
theorem dirE_t {t : Nat} (h : 1 ≤ t) (h2 : t ≤ 16) : 2 ^ dirE t ≤ t := by
  unfold dirE
  split
  · omega
  · split
    · omega
    · split
      · omega
      · split <;> omega
theorem dir_cl {N M t : Nat} {V : sv_V} (h1 : 1 ≤ t) (h2 : t ≤ 16) : sx_lp4 (B_X4_directoryHolds_53 N) (M + 5) (nI t) 0 1 V = B_X4_directoryHolds_53 N (sx_lp4 (B_X4_directoryHolds_53 N) M) (nI t) (nI (dirE t)) 5 V :=
  t16 (P := fun t => sx_lp4 (B_X4_directoryHolds_53 N) (M + 5) (nI t) 0 1 V = B_X4_directoryHolds_53 N (sx_lp4 (B_X4_directoryHolds_53 N) M) (nI t) (nI (dirE t)) 5 V) h1 h2 rfl rfl rfl rfl rfl rfl rfl rfl rfl rfl rfl rfl rfl rfl rfl rfl
theorem dir_rl {N M t : Nat} {V : sv_V} (h1 : 1 ≤ t) (h2 : t ≤ 16) : sx_lp3 (B_X12_directory_57 N) (M + 5) (nI t) 0 V = B_X12_directory_57 N (fun _ _ _ => none) (nI t) (nI (dirE t)) V :=
  t16 (P := fun t => sx_lp3 (B_X12_directory_57 N) (M + 5) (nI t) 0 V = B_X12_directory_57 N (fun _ _ _ => none) (nI t) (nI (dirE t)) V) h1 h2 rfl rfl rfl rfl rfl rfl rfl rfl rfl rfl rfl rfl rfl rfl rfl rfl
theorem dir_rc {t : Nat} (h1 : 1 ≤ t) (h2 : t ≤ 16) : nI t < (2 : Int32) <<< (nI (dirE t) &&& 31) := t16 (P := fun t => nI t < (2 : Int32) <<< (nI (dirE t) &&& 31)) h1 h2 (by decide) (by decide) (by decide) (by decide) (by decide) (by decide) (by decide) (by decide) (by decide) (by decide) (by decide) (by decide) (by decide) (by decide) (by decide) (by decide)
section D1
variable {d : Nat → Int32} {n N : Nat} {V : sv_V}
theorem FC_I (h : FC d n V) {a k : Nat} {x : Int32} (e : (a ≠ 2 ∨ k ≠ 1) ∧ a ≠ 3) : FC d n (sv_I V a k x) := by
  refine ⟨h.1, ?_, fun j hj => ?_⟩
  · show (if 2 = a ∧ 1 = k then x else V.1 2 1) = _
    rw [if_neg (by omega)]
    exact h.2.1
  · show (if 3 = a ∧ j = k then x else V.1 3 j) = _
    rw [if_neg (by omega)]
    exact h.2.2 j hj
theorem FR_I (h : FR d n V) {a k : Nat} {x : Int32} (e : (a ≠ 146 ∨ k ≠ 3) ∧ a ≠ 148) : FR d n (sv_I V a k x) := by
  refine ⟨h.1, ?_, fun j hj => ?_⟩
  · show (if 146 = a ∧ 3 = k then x else V.1 146 3) = _
    rw [if_neg (by omega)]
    exact h.2.1
  · show (if 148 = a ∧ j = k then x else V.1 148 j) = _
    rw [if_neg (by omega)]
    exact h.2.2 j hj
theorem FR_L (h : FR d n V) {a k : Nat} {x : Int64} : FR d n (sv_L V a k x) := h
theorem dir_c (hN : 5 ≤ N) (h : FC d n V) : Pt (fun p : Int32 × sv_V => IB p.1 (K1 d n) ∧ (p.1 = 1 → p.2.1 2 5 = nI (tbl d n))) (F_X4_directoryHolds N V) := by
  obtain ⟨M, hM⟩ : ∃ M, N = M + 5 := ⟨N - 5, by omega⟩
  have hn := h.1
  have no : ∀ W : sv_V, ¬ K1 d n → Pt (fun p : Int32 × sv_V => IB p.1 (K1 d n) ∧ (p.1 = 1 → p.2.1 2 5 = nI (tbl d n))) (some (0, W)) := fun W k => pt_some ⟨Or.inr ⟨rfl, k⟩, fun e => absurd e (show ¬ (0 : Int32) = 1 by decide)⟩
  unfold F_X4_directoryHolds
  rw [show F_X2_u2 (4 : Int32) V = some (nI (c2 d n 4), V) from u2_c (P := 4) h (by decide), Option.bind_some]
  dsimp only
  rw [h.2.1]
  refine pt_ite (fun q => no V (fun k => ?_)) (fun q => ?_)
  · have := (nI_ltI (a := n) (b := 12) (by omega) (by decide)).mp q
    have := k.1
    omega
  have h12 : 12 ≤ n := by
    rcases Nat.lt_or_ge n 12 with z | z
    · exact absurd ((nI_ltI (a := n) (b := 12) (by omega) (by decide)).mpr z) q
    · exact z
  rw [show F_X2_u4 (0 : Int32) V = some (lN (c4 d n 0), V) from u4_c (P := 0) h (by decide), Option.bind_some, c4_g (by omega), c2_g (by omega)]
  dsimp only
  have l4 := g4_lt (d := d) (n := n) (P := 0)
  have l2 := g2_lt (d := d) (n := n) (P := 4)
  have lt : tbl d n < 65536 := l2
  refine pt_ite (fun q1 => ?_) (fun q1 => no V (fun k => q1 (lgc_eq.mpr (by rw [k.2.1]; rfl))))
  have e0 : g4 d n 0 = 65536 := (pk_lEQ (b := 65536) (by omega) (by decide)).mp (lgc_eq.mp q1)
  refine pt_ite (fun q2 => no V (fun k => absurd ((nI_ltI (b := 1) (by omega) (by decide)).mp q2) (Nat.not_lt.mpr k.2.2.1))) (fun q2 => ?_)
  refine pt_ite (fun q3 => ?_) (fun q3 => no V (fun k => q3 ((nI_leI (b := 16) (by omega) (by decide)).mpr k.2.2.2.1)))
  have t1 : 1 ≤ tbl d n := by
    rcases Nat.lt_or_ge (tbl d n) 1 with z | z
    · exact absurd ((nI_ltI (b := 1) (by omega) (by decide)).mpr z) q2
    · exact z
  have t2 : tbl d n ≤ 16 := (nI_leI (b := 16) (by omega) (by decide)).mp q3
  rw [show sx_lp4 (B_X4_directoryHolds_53 N) N (nI (g2 d n 4)) 0 1 V = sx_lp4 (B_X4_directoryHolds_53 N) (M + 5) (nI (tbl d n)) 0 1 V by rw [← hM]; rfl, dir_cl t1 t2]
  unfold B_X4_directoryHolds_53
  rw [if_pos (by decide), dirE_s]
  have sl := dirE_t t1 t2
  refine pt_let fun x3 hx => pt_let fun V4 hV => ?_
  subst hx
  have h4 : FC d n V4 := by rw [hV]; exact FC_I h (by decide)
  have a1 := g2_lt (d := d) (n := n) (P := 6)
  have a2 := g2_lt (d := d) (n := n) (P := 8)
  have a3 := g2_lt (d := d) (n := n) (P := 10)
  have le := dirE_le (tbl d n)
  rw [show F_X2_u2 (6 : Int32) V4 = some (nI (c2 d n 6), V4) from u2_c (P := 6) h4 (by decide), Option.bind_some, c2_g (by omega)]
  dsimp only
  refine pt_ite (fun q4 => ?_) (fun q4 => no V4 (fun k => q4 (by rw [k.2.2.2.2.1])))
  have e6 := (nI_eq (by omega) (by omega)).mp q4
  rw [show F_X2_u2 (8 : Int32) V4 = some (nI (c2 d n 8), V4) from u2_c (P := 8) h4 (by decide), Option.bind_some, c2_g (by omega)]
  dsimp only
  refine pt_ite (fun q5 => ?_) (fun q5 => no V4 (fun k => q5 (by rw [k.2.2.2.2.2.1])))
  have e8 := (nI_eq (by omega) (by omega)).mp q5
  rw [show F_X2_u2 (10 : Int32) V4 = some (nI (c2 d n 10), V4) from u2_c (P := 10) h4 (by decide), Option.bind_some, c2_g (by omega), show (16 : Int32) * nI (tbl d n) = nI (16 * tbl d n) from pk_mul 16 _, pk_sub (by omega), h4.2.1, show (12 : Int32) + nI (16 * tbl d n) = nI (12 + 16 * tbl d n) from nI_add 12 _]
  dsimp only
  refine pt_ite (fun q6 => ?_) (fun q6 => no V4 (fun k => q6 (by rw [k.2.2.2.2.2.2.1])))
  have e10 := (nI_eq (by omega) (by omega)).mp q6
  refine pt_ite (fun q7 => no V4 (fun k => absurd ((nI_ltI (by omega) (by omega)).mp q7) (Nat.not_lt.mpr k.2.2.2.2.2.2.2))) (fun q7 => ?_)
  have ee : 12 + 16 * tbl d n ≤ n := by
    rcases Nat.lt_or_ge n (12 + 16 * tbl d n) with z | z
    · exact absurd ((nI_ltI (by omega) (by omega)).mpr z) q7
    · exact z
  exact pt_some ⟨Or.inl ⟨rfl, h12, e0, t1, t2, e6, e8, e10, ee⟩, fun _ => by rw [hV]; exact vI_same _ _ _ _⟩
/-- an entry of the directory -/
def en (d : Nat → Int32) (n k w : Nat) : Nat := g4 d n (12 + 16 * k + 4 * w)
theorem en_lt {k w : Nat} : en d n k w < 4294967296 := g4_lt
/-- the reference has taken the entries -/
def TEx (d : Nat → Int32) (n m : Nat) (V : sv_V) : Prop := ∀ k, k < m → V.1 149 k = nI (en d n k 0) ∧ V.2.1 150 k = lN (en d n k 1) ∧ V.2.1 151 k = lN (en d n k 2) ∧ V.2.1 152 k = lN (en d n k 3)
theorem F_inN {v a b : Nat} (hv : v < 2 ^ 31) (ha : a < 2 ^ 31) (hb : b < 2 ^ 31) {x y : Int64} (ex : x = lN a) (ey : y = lN b) : F_X12_in (nI v).toInt64 x y V = some (if a ≤ v ∧ v ≤ b then 1 else 0, V) := by
  subst ex
  subst ey
  rw [F_in, nI_l hv]
  by_cases c : a ≤ v ∧ v ≤ b
  · rw [if_pos c, if_pos ⟨(pk_lLE (by omega) (by omega)).mpr c.1, (pk_lLE (by omega) (by omega)).mpr c.2⟩]
  · rw [if_neg c, if_neg (fun q => c ⟨(pk_lLE (by omega) (by omega)).mp q.1, (pk_lLE (by omega) (by omega)).mp q.2⟩)]
theorem dir_r120 (m : Nat) (hm : m ≤ 16) (hD : FR d n V) (h5 : V.1 146 5 = nI m) : ∀ M, Pt (fun p : Int32 × sv_V => p.1 = 1 ∧ p.2.1 146 5 = nI m ∧ TEx d n m p.2) (sx_lp3 (B_X12_directory_120 N) M (nI m) 0 V) := by
  refine fun M => pt_l3 (I := fun a b W => ∃ k, a = nI m ∧ b = nI k ∧ k ≤ m ∧ FR d n W ∧ W.1 146 5 = nI m ∧ TEx d n k W) ?_ M (nI m) 0 V ⟨0, rfl, rfl, Nat.zero_le _, hD, h5, fun k hk => by omega⟩
  intro kk ih a b W ⟨k, ea, eb, hk, hW, w5, hT⟩
  subst ea eb
  unfold B_X12_directory_120
  refine pt_ite (fun q => ?_) (fun q => ?_)
  · have e : k = m := by
      have := (nI_leI (by omega) (by omega)).mp q
      omega
    subst e
    exact pt_some ⟨rfl, w5, hT⟩
  have hkm : k < m := by
    rcases Nat.lt_or_ge k m with z | z
    · exact z
    · exact absurd (nI_le z (by omega)) q
  refine pt_let fun x2 hx => ?_
  have hx2 : x2 = nI (12 + 16 * k) := by rw [hx, show (16 : Int32) * nI k = nI (16 * k) from pk_mul 16 _, show (12 : Int32) + nI (16 * k) = nI (12 + 16 * k) from nI_add 12 _]
  subst hx2
  rw [u4_r hW (by omega), Option.bind_some]
  dsimp only
  refine pt_g fun _ => pt_let fun V7 e7 => ?_
  have h7 : FR d n V7 := by rw [e7]; exact FR_I hW ⟨Or.inl (by decide), by decide⟩
  rw [show nI (12 + 16 * k) + (4 : Int32) = nI (12 + 16 * k + 4) from nI_add _ 4, u4_r h7 (by omega), Option.bind_some]
  dsimp only
  refine pt_g fun _ => pt_let fun V12 e12 => ?_
  have h12 : FR d n V12 := by rw [e12]; exact h7
  rw [show nI (12 + 16 * k) + (8 : Int32) = nI (12 + 16 * k + 8) from nI_add _ 8, u4_r h12 (by omega), Option.bind_some]
  dsimp only
  refine pt_g fun _ => pt_let fun V17 e17 => ?_
  have h17 : FR d n V17 := by rw [e17]; exact h12
  rw [show nI (12 + 16 * k) + (12 : Int32) = nI (12 + 16 * k + 12) from nI_add _ 12, u4_r h17 (by omega), Option.bind_some]
  dsimp only
  refine pt_g fun _ => pt_let fun V22 e22 => pt_let fun x23 hx3 => ?_
  have h22 : FR d n V22 := by rw [e22]; exact h17
  refine ih _ _ _ ⟨k + 1, rfl, by rw [hx3, nI_1], hkm, h22, ?_, fun j hj => ?_⟩
  · rw [e22, e17, e12, e7]
    exact w5
  · rw [nI_clamp (by omega)] at e7 e12 e17 e22
    rw [e22, e17, e12, e7]
    by_cases e : j = k
    · subst e
      refine ⟨?_, ?_, ?_, ?_⟩
      · simp only [sv_I, sv_L, and_self, if_true, lN_i]
        rfl
      · simp [sv_I, sv_L, en]
      · simp [sv_I, sv_L, en]
      · simp [sv_I, sv_L, en]
    · obtain ⟨t0, t1, t2, t3⟩ := hT j (by omega)
      refine ⟨?_, ?_, ?_, ?_⟩
      · simp [sv_I, sv_L, e, t0]
      · simp [sv_I, sv_L, e, t1]
      · simp [sv_I, sv_L, e, t2]
      · simp [sv_I, sv_L, e, t3]
theorem dir_r (hN : 5 ≤ N) (h : FR d n V) : Pt (fun p : Int32 × sv_V => IB p.1 (K1 d n) ∧ (p.1 = 1 → p.2.1 146 5 = nI (tbl d n) ∧ TEx d n (tbl d n) p.2)) (F_X12_directory N V) := by
  obtain ⟨M, hM⟩ : ∃ M, N = M + 5 := ⟨N - 5, by omega⟩
  have hn := h.1
  have no : ∀ W : sv_V, ¬ K1 d n → Pt (fun p : Int32 × sv_V => IB p.1 (K1 d n) ∧ (p.1 = 1 → p.2.1 146 5 = nI (tbl d n) ∧ TEx d n (tbl d n) p.2)) (some (0, W)) := fun W k => pt_some ⟨Or.inr ⟨rfl, k⟩, fun e => absurd e (show ¬ (0 : Int32) = 1 by decide)⟩
  have l4 := g4_lt (d := d) (n := n) (P := 0)
  have l2 := g2_lt (d := d) (n := n) (P := 4)
  unfold F_X12_directory
  rw [show F_X12_u2 (4 : Int32) V = some (nI (tbl d n), V) from u2_r (P := 4) h (by decide), Option.bind_some]
  dsimp only
  rw [h.2.1]
  refine pt_ite (fun q => no V (fun k => ?_)) (fun q => ?_)
  · have := (nI_ltI (a := n) (b := 12) (by omega) (by decide)).mp q
    have := k.1
    omega
  have h12 : 12 ≤ n := by
    rcases Nat.lt_or_ge n 12 with z | z
    · exact absurd ((nI_ltI (a := n) (b := 12) (by omega) (by decide)).mpr z) q
    · exact z
  rw [show F_X12_u4 (0 : Int32) V = some (lN (g4 d n 0), V) from u4_r (P := 0) h (by decide), Option.bind_some]
  dsimp only
  refine pt_ite (fun q1 => ?_) (fun q1 => no V (fun k => q1 (lgc_eq.mpr (by rw [k.2.1]; rfl))))
  have e0 : g4 d n 0 = 65536 := (pk_lEQ (b := 65536) (by omega) (by decide)).mp (lgc_eq.mp q1)
  have lt : tbl d n < 65536 := l2
  rw [F_inN (x := 1) (y := 16) (a := 1) (b := 16) (by omega) (by decide) (by decide) rfl rfl, Option.bind_some]
  dsimp only
  refine pt_ite (fun q2 => no V (fun k => ?_)) (fun q2 => ?_)
  · rw [if_pos ⟨k.2.2.1, k.2.2.2.1⟩] at q2
    exact absurd q2 (by decide)
  have tt : 1 ≤ tbl d n ∧ tbl d n ≤ 16 := by
    by_cases c : 1 ≤ tbl d n ∧ tbl d n ≤ 16
    · exact c
    · rw [if_neg c] at q2
      exact absurd rfl q2
  obtain ⟨t1, t2⟩ := tt
  have sl := dirE_t t1 t2
  rw [h.2.1, show (16 : Int32) * nI (tbl d n) = nI (16 * tbl d n) from pk_mul 16 _, show (12 : Int32) + nI (16 * tbl d n) = nI (12 + 16 * tbl d n) from nI_add 12 _]
  refine pt_ite (fun q3 => ?_) (fun q3 => no V (fun k => q3 ((nI_leI (by omega) (by omega)).mpr k.2.2.2.2.2.2.2)))
  have ee := (nI_leI (by omega) (by omega)).mp q3
  rw [show sx_lp3 (B_X12_directory_57 N) N (nI (tbl d n)) 0 V = sx_lp3 (B_X12_directory_57 N) (M + 5) (nI (tbl d n)) 0 V by rw [← hM], dir_rl t1 t2]
  unfold B_X12_directory_57
  rw [if_pos (dir_rc t1 t2), dirE_s]
  have a1 := g2_lt (d := d) (n := n) (P := 6)
  have a2 := g2_lt (d := d) (n := n) (P := 8)
  have a3 := g2_lt (d := d) (n := n) (P := 10)
  have le := dirE_le (tbl d n)
  rw [show F_X12_u2 (6 : Int32) V = some (nI (g2 d n 6), V) from u2_r (P := 6) h (by decide), Option.bind_some]
  dsimp only
  refine pt_ite (fun q4 => ?_) (fun q4 => no V (fun k => q4 (by rw [k.2.2.2.2.1])))
  have e6 := (nI_eq (by omega) (by omega)).mp q4
  rw [show F_X12_u2 (8 : Int32) V = some (nI (g2 d n 8), V) from u2_r (P := 8) h (by decide), Option.bind_some]
  dsimp only
  refine pt_ite (fun q5 => ?_) (fun q5 => no V (fun k => q5 (by rw [k.2.2.2.2.2.1])))
  have e8 := (nI_eq (by omega) (by omega)).mp q5
  rw [show F_X12_u2 (10 : Int32) V = some (nI (g2 d n 10), V) from u2_r (P := 10) h (by decide), Option.bind_some, show (16 : Int32) * nI (tbl d n) = nI (16 * tbl d n) from pk_mul 16 _, pk_sub (by omega)]
  dsimp only
  refine pt_ite (fun q6 => ?_) (fun q6 => no V (fun k => q6 (by rw [k.2.2.2.2.2.2.1])))
  have e10 := (nI_eq (by omega) (by omega)).mp q6
  refine pt_let fun V37 hV => ?_
  refine pt_m (dir_r120 (tbl d n) t2 (V := V37) (by rw [hV]; exact FR_I h (by decide)) (by rw [hV]; exact vI_same _ _ _ _) N) ?_
  rintro ⟨r, W⟩ ⟨er, g5, gT⟩
  exact ⟨Or.inl ⟨er, h12, e0, t1, t2, e6, e8, e10, ee⟩, fun _ => ⟨g5, gT⟩⟩
end D1
end
section
/-! 2 TAGS, 3 TABLES -/
section D2
variable {d : Nat → Int32} {n N : Nat} {V : sv_V}
theorem entry_c {k w : Nat} {i j : Int32} (h : FC d n V) (hk : 12 + 16 * k + 4 * w + 4 ≤ n) (ei : i = nI k) (ej : j = nI w) : F_X4_entry i j V = some (lN (en d n k w), V) := by
  have hn := h.1
  subst ei ej
  unfold F_X4_entry
  rw [show (16 : Int32) * nI k = nI (16 * k) from pk_mul 16 _, show (12 : Int32) + nI (16 * k) = nI (12 + 16 * k) from nI_add 12 _, show (4 : Int32) * nI w = nI (4 * w) from pk_mul 4 _, nI_add, u4_c h (by omega), Option.bind_some, c4_g hk]
  rfl
theorem entry0 {k : Nat} (h : FC d n V) (hk : 28 + 16 * k ≤ n) : F_X4_entry (nI k) 0 V = some (lN (en d n k 0), V) := entry_c h (by omega) rfl rfl
theorem entry1 {k : Nat} (h : FC d n V) (hk : 28 + 16 * k ≤ n) : F_X4_entry (nI k) 1 V = some (lN (en d n k 1), V) := entry_c h (by omega) rfl rfl
theorem entry2 {k : Nat} (h : FC d n V) (hk : 28 + 16 * k ≤ n) : F_X4_entry (nI k) 2 V = some (lN (en d n k 2), V) := entry_c h (by omega) rfl rfl
theorem entry3 {k : Nat} (h : FC d n V) (hk : 28 + 16 * k ≤ n) : F_X4_entry (nI k) 3 V = some (lN (en d n k 3), V) := entry_c h (by omega) rfl rfl
theorem nI_nle2 {a b : Nat} (q : ¬ nI b ≤ nI a) (ha : a < 2 ^ 31) : a < b := by
  rcases Nat.lt_or_ge a b with z | z
  · exact z
  · exact absurd (nI_le z ha) q
theorem nI_nlt2 {a b : Nat} (q : ¬ nI a < nI b) (hb : b < 2 ^ 31) : b ≤ a := by
  rcases Nat.lt_or_ge a b with z | z
  · exact absurd (nI_lt z hb) q
  · exact z
def K2 (d : Nat → Int32) (n : Nat) : Prop := ∀ k, 1 ≤ k → k < tbl d n → en d n (k - 1) 0 < en d n k 0
theorem tags_c (h : FC d n V) (h1 : K1 d n) (h5 : V.1 2 5 = nI (tbl d n)) : Pt (fun p : Int32 × sv_V => IB p.1 (K2 d n) ∧ p.2 = V) (F_X4_tagsRise N V) := by
  have hn := h.1
  obtain ⟨-, -, t1, t2, -, -, -, ee⟩ := h1
  unfold F_X4_tagsRise
  refine pt_l2 (I := fun a W => W = V ∧ ∃ k, a = nI k ∧ 1 ≤ k ∧ k ≤ tbl d n ∧ ∀ j, 1 ≤ j → j < k → en d n (j - 1) 0 < en d n j 0) ?_ N 1 V ⟨rfl, 1, rfl, Nat.le_refl _, t1, fun j a b => by omega⟩
  rintro kk ih a W ⟨rfl, k, rfl, k1, k2, hk⟩
  unfold B_X4_tagsRise_2
  rw [h5]
  refine pt_ite (fun q => ?_) (fun q => ?_)
  · have e : k = tbl d n := by
      have := (nI_leI (by omega) (by omega)).mp q
      omega
    subst e
    exact pt_some ⟨Or.inl ⟨rfl, hk⟩, rfl⟩
  have hkm : k < tbl d n := by
    rcases Nat.lt_or_ge k (tbl d n) with z | z
    · exact z
    · exact absurd (nI_le z (by omega)) q
  rw [entry0 h (by omega), Option.bind_some]
  dsimp only
  rw [show nI k - (1 : Int32) = nI (k - 1) from pk_sub (b := 1) k1, entry0 h (by omega), Option.bind_some]
  dsimp only
  have l1 := en_lt (d := d) (n := n) (k := k) (w := 0)
  have l2 := en_lt (d := d) (n := n) (k := k - 1) (w := 0)
  refine pt_ite (fun q1 => pt_let fun x9 hx => ih _ _ ⟨rfl, k + 1, by rw [hx, nI_1], by omega, hkm, fun j a b => ?_⟩) (fun q1 => pt_some ⟨Or.inr ⟨rfl, fun z => q1 (lgc_gt.mpr ((pk_lLT (by omega) (by omega)).mpr (z k k1 hkm)))⟩, rfl⟩)
  rcases Nat.lt_or_ge j k with z | z
  · exact hk j a z
  · have e : j = k := by omega
    subst e
    exact (pk_lLT (by omega) (by omega)).mp (lgc_gt.mp q1)
def SH (d : Nat → Int32) (n j k : Nat) : Prop := max (en d n j 2) (en d n k 2) < min (en d n j 2 + en d n j 3) (en d n k 2 + en d n k 3)
def P3 (d : Nat → Int32) (n k : Nat) : Prop := en d n k 2 % 4 = 0 ∧ 12 + 16 * tbl d n ≤ en d n k 2 ∧ en d n k 2 + en d n k 3 ≤ n ∧ ∀ j, j < k → ¬ SH d n j k
def K3 (d : Nat → Int32) (n : Nat) : Prop := ∀ k, k < tbl d n → P3 d n k
theorem jmax {a b : Nat} (ha : a < 2 ^ 63) (hb : b < 2 ^ 63) : F_J9_max_f86c9 (lN a) (lN b) V = some (lN (max a b), V) := by
  unfold F_J9_max_f86c9
  by_cases c : b ≤ a
  · rw [if_neg (by rw [lgc_lt, pk_lLT ha hb]; omega), Nat.max_eq_left c]
  · rw [if_pos (by rw [lgc_lt, pk_lLT ha hb]; omega), Nat.max_eq_right (by omega)]
theorem jmin {a b : Nat} (ha : a < 2 ^ 63) (hb : b < 2 ^ 63) : F_J9_min_f86c9 (lN a) (lN b) V = some (lN (min a b), V) := by
  unfold F_J9_min_f86c9
  by_cases c : a ≤ b
  · rw [if_neg (by rw [lgc_gt, pk_lLT hb ha]; omega), Nat.min_eq_left c]
  · rw [if_pos (by rw [lgc_gt, pk_lLT hb ha]; omega), Nat.min_eq_right (by omega)]
theorem share_c {j k : Nat} (h : FC d n V) (hj : 28 + 16 * j ≤ n) (hk : 28 + 16 * k ≤ n) : Pt (fun p : Int32 × sv_V => IB p.1 (SH d n j k) ∧ p.2 = V) (F_X4_shareBytes (nI j) (nI k) V) := by
  have a1 := en_lt (d := d) (n := n) (k := j) (w := 2)
  have a2 := en_lt (d := d) (n := n) (k := j) (w := 3)
  have a3 := en_lt (d := d) (n := n) (k := k) (w := 2)
  have a4 := en_lt (d := d) (n := n) (k := k) (w := 3)
  unfold F_X4_shareBytes
  rw [entry2 h hj, Option.bind_some]
  dsimp only
  rw [entry2 h hk, Option.bind_some]
  dsimp only
  rw [jmax (by omega) (by omega), Option.bind_some]
  dsimp only
  rw [entry2 h hj, Option.bind_some]
  dsimp only
  rw [entry3 h hj, Option.bind_some]
  dsimp only
  rw [entry2 h hk, Option.bind_some]
  dsimp only
  rw [entry3 h hk, Option.bind_some, lN_add, lN_add]
  dsimp only
  rw [jmin (by omega) (by omega), Option.bind_some]
  dsimp only
  refine pt_ite (fun q => pt_some ⟨Or.inr ⟨rfl, ?_⟩, rfl⟩) (fun q => pt_some ⟨Or.inl ⟨rfl, ?_⟩, rfl⟩)
  · have := (pk_lLE (by omega) (by omega)).mp (lgc_ge.mp q)
    unfold SH
    omega
  · rw [lgc_ge, pk_lLE (by omega) (by omega)] at q
    unfold SH
    omega
theorem lie_c (h : FC d n V) (h1 : K1 d n) (h5 : V.1 2 5 = nI (tbl d n)) : Pt (fun p : Int32 × sv_V => IB p.1 (K3 d n) ∧ p.2 = V) (F_X4_tablesLieRight N V) := by
  have hn := h.1
  obtain ⟨-, -, t1, t2, -, -, -, ee⟩ := h1
  unfold F_X4_tablesLieRight
  refine pt_l2 (I := fun a W => W = V ∧ ∃ k, a = nI k ∧ k ≤ tbl d n ∧ ∀ j, j < k → P3 d n j) ?_ N 0 V ⟨rfl, 0, rfl, Nat.zero_le _, fun j b => by omega⟩
  rintro kk ih a W ⟨rfl, k, rfl, k2, hk⟩
  unfold B_X4_tablesLieRight_2
  rw [h5]
  refine pt_ite (fun q => ?_) (fun q => ?_)
  · have e : k = tbl d n := by
      have := (nI_leI (by omega) (by omega)).mp q
      omega
    subst e
    exact pt_some ⟨Or.inl ⟨rfl, hk⟩, rfl⟩
  have hkm : k < tbl d n := nI_nle2 q (by omega)
  have a3 := en_lt (d := d) (n := n) (k := k) (w := 2)
  have a4 := en_lt (d := d) (n := n) (k := k) (w := 3)
  have no : ¬ P3 d n k → Pt (fun p : Int32 × sv_V => IB p.1 (K3 d n) ∧ p.2 = W) (some (0, W)) := fun z => pt_some ⟨Or.inr ⟨rfl, fun y => z (y k hkm)⟩, rfl⟩
  rw [entry2 h (by omega), Option.bind_some]
  dsimp only
  rw [show lN (en d n k 2) - lN (en d n k 2) / (4 : Int64) * (4 : Int64) = lN (en d n k 2 % 4) from pk_lRem (b := 4) (by omega) (by decide) (by decide), h5, show (16 : Int32) * nI (tbl d n) = nI (16 * tbl d n) from pk_mul 16 _, show (12 : Int32) + nI (16 * tbl d n) = nI (12 + 16 * tbl d n) from nI_add 12 _, nI_l (by omega)]
  refine pt_ite (fun q1 => ?_) (fun q1 => no (fun z => q1 (lgc_eq.mpr (by rw [z.1]; rfl))))
  have e1 : en d n k 2 % 4 = 0 := (pk_lEQ (b := 0) (by omega) (by decide)).mp (lgc_eq.mp q1)
  refine pt_ite (fun q2 => no (fun z => absurd ((pk_lLT (by omega) (by omega)).mp (lgc_lt.mp q2)) (Nat.not_lt.mpr z.2.1))) (fun q2 => ?_)
  rw [lgc_lt, pk_lLT (by omega) (by omega)] at q2
  rw [entry3 h (by omega), Option.bind_some]
  dsimp only
  rw [lN_add, h.2.1, nI_l (by omega)]
  refine pt_ite (fun q3 => ?_) (fun q3 => no (fun z => q3 (lgc_le.mpr ((pk_lLE (by omega) (by omega)).mpr z.2.2.1))))
  rw [lgc_le, pk_lLE (by omega) (by omega)] at q3
  refine pt_l3 (I := fun a b U => U = W ∧ a = nI k ∧ ∃ j, b = nI j ∧ j ≤ k ∧ ∀ i, i < j → ¬ SH d n i k) ?_ N (nI k) 0 W ⟨rfl, rfl, 0, rfl, Nat.zero_le _, fun j b => by omega⟩
  rintro k2' ih2 a b U ⟨rfl, rfl, j, rfl, hj, hs⟩
  unfold B_X4_tablesLieRight_74
  refine pt_ite (fun q4 => ?_) (fun q4 => ?_)
  · have e : j = k := by
      have := (nI_leI (by omega) (by omega)).mp q4
      omega
    subst e
    refine pt_let fun x2 hx => ih _ _ ⟨rfl, j + 1, by rw [hx, nI_1], hkm, fun i hi => ?_⟩
    rcases Nat.lt_or_ge i j with z | z
    · exact hk i z
    · have e : i = j := by omega
      subst e
      exact ⟨e1, by omega, q3, hs⟩
  have hjk : j < k := nI_nle2 q4 (by omega)
  refine pt_bb (share_c (j := j) (k := k) h (by omega) (by omega)) ?_
  rintro ⟨x5, V3⟩ ⟨hx, e3⟩
  dsimp only at e3 hx ⊢
  subst e3
  refine pt_ite (fun q5 => pt_let fun x7 hx7 => ih2 _ _ _ ⟨rfl, rfl, j + 1, by rw [hx7, nI_1], hjk, fun i hi => ?_⟩) (fun q5 => no (fun z => z.2.2.2 j hjk (hx.y q5)))
  rcases Nat.lt_or_ge i j with z | z
  · exact hs i z
  · have e : i = j := by omega
    subst e
    exact hx.n q5
end D2
end
section
/-! 4 SUMS -/
theorem pt_l6 {A B C D E F R : Type} {Q : R → Prop} {f : (A → B → C → D → E → F → Option R) → A → B → C → D → E → F → Option R} {I : A → B → C → D → E → F → Prop} (h : ∀ k, (∀ a b c d e g, I a b c d e g → Pt Q (k a b c d e g)) → ∀ a b c d e g, I a b c d e g → Pt Q (f k a b c d e g)) : ∀ n a b c d e g, I a b c d e g → Pt Q (sx_lp6 f n a b c d e g) := by
  intro n
  induction n with
  | zero => exact fun a b c d e g _ x q => by cases q
  | succ n ih => exact fun a b c d e g i => h _ ih a b c d e g i
/-- what byte i adds, of bytes from b on, len of them, without those from lo to hi -/
def sT (d : Nat → Int32) (n b len lo hi i : Nat) : Nat := if (lo ≤ i ∧ i < hi) ∨ len ≤ i then 0 else g1 d n (b + i) * 2 ^ (24 - 8 * (i % 4))
def SM (d : Nat → Int32) (n b len lo hi i : Nat) : Nat := match i with
  | 0 => 0
  | i + 1 => SM d n b len lo hi i + sT d n b len lo hi i
theorem nI_md {a b : Nat} : nI a = nI b ↔ a % 4294967296 = b % 4294967296 := by
  constructor
  · intro h
    have := congrArg (fun x : Int32 => x.toBitVec.toNat) h
    exact this
  · intro h
    exact Int32.toBitVec.inj (BitVec.eq_of_toNat_eq h)
theorem lN_and {a : Nat} (h : a < 2 ^ 64) : lN a &&& (4294967295 : Int64) = lN (a % 4294967296) := by
  refine Int64.toBitVec.inj (BitVec.eq_of_toNat_eq ?_)
  rw [Int64.toBitVec_and, BitVec.toNat_and, lN_tn h, lN_tn (by omega)]
  exact Nat.and_two_pow_sub_one_eq_mod a 32
theorem sh_c {x r : Nat} (hx : x < 256) (hr : r < 4) : (nI x).toInt64 <<< (((24 : Int32) - ((8 : Int32) * nI r)).toInt64 &&& 63) = lN (x * 2 ^ (24 - 8 * r)) := by
  have e : r = 0 ∨ r = 1 ∨ r = 2 ∨ r = 3 := by omega
  rw [nI_l (by omega)]
  rcases e with rfl | rfl | rfl | rfl
  · rw [show lN (x * 2 ^ (24 - 8 * 0)) = lN x * 16777216 from (lN_mul x 16777216).symm]
    refine Int64.toBitVec.inj ?_
    rw [Int64.toBitVec_shiftLeft, Int64.toBitVec_mul]
    show (lN x).toBitVec <<< (24 : Nat) = _
    rw [BitVec.shiftLeft_eq_mul_twoPow]
    rfl
  · rw [show lN (x * 2 ^ (24 - 8 * 1)) = lN x * 65536 from (lN_mul x 65536).symm]
    refine Int64.toBitVec.inj ?_
    rw [Int64.toBitVec_shiftLeft, Int64.toBitVec_mul]
    show (lN x).toBitVec <<< (16 : Nat) = _
    rw [BitVec.shiftLeft_eq_mul_twoPow]
    rfl
  · rw [show lN (x * 2 ^ (24 - 8 * 2)) = lN x * 256 from (lN_mul x 256).symm]
    refine Int64.toBitVec.inj ?_
    rw [Int64.toBitVec_shiftLeft, Int64.toBitVec_mul]
    show (lN x).toBitVec <<< (8 : Nat) = _
    rw [BitVec.shiftLeft_eq_mul_twoPow]
    rfl
  · rw [show x * 2 ^ (24 - 8 * 3) = x from Nat.mul_one x]
    refine Int64.toBitVec.inj ?_
    rw [Int64.toBitVec_shiftLeft]
    show (lN x).toBitVec <<< (0 : Nat) = _
    exact BitVec.shiftLeft_zero _
theorem sh_r {x r : Nat} (hx : x < 256) (hr : r < 4) : (nI x) <<< ((24 : Int32) - ((8 : Int32) * nI r) &&& 31) = nI (x * 2 ^ (24 - 8 * r)) := by
  have e : r = 0 ∨ r = 1 ∨ r = 2 ∨ r = 3 := by omega
  rcases e with rfl | rfl | rfl | rfl
  · exact pk_shlN _ 24 (by decide) (by omega)
  · exact pk_shlN _ 16 (by decide) (by omega)
  · exact pk_shlN _ 8 (by decide) (by omega)
  · exact pk_shlN _ 0 (by decide) (by omega)
section D4
variable {d : Nat → Int32} {n N : Nat} {V : sv_V} {b len lo hi : Nat}
theorem sT_le {i : Nat} : sT d n b len lo hi i ≤ 4278190080 := by
  unfold sT
  split
  · omega
  · have h := g1_lt (d := d) (n := n) (P := b + i)
    have e : i % 4 = 0 ∨ i % 4 = 1 ∨ i % 4 = 2 ∨ i % 4 = 3 := by omega
    rcases e with e | e | e | e <;> rw [e] <;> omega
theorem SM_le : ∀ i, SM d n b len lo hi i ≤ 4278190080 * i := by
  intro i
  induction i with
  | zero => exact Nat.le_refl _
  | succ i ih =>
    have := sT_le (d := d) (n := n) (b := b) (len := len) (lo := lo) (hi := hi) (i := i)
    show SM d n b len lo hi i + _ ≤ _
    omega
theorem SM_end : ∀ i, len ≤ i → SM d n b len lo hi i = SM d n b len lo hi len := by
  intro i h
  obtain ⟨k, rfl⟩ : ∃ k, i = len + k := ⟨i - len, by omega⟩
  clear h
  induction k with
  | zero => rfl
  | succ k ih =>
    show SM d n b len lo hi (len + k) + sT d n b len lo hi (len + k) = _
    rw [ih]
    unfold sT
    rw [if_pos (Or.inr (by omega))]
    rfl
theorem sum_c {f : Int32} (h : FC d n V) (hb : b + len ≤ n) (hf : (f = 0 ∧ lo = 0 ∧ hi = 0) ∨ (f = 1 ∧ lo = 8 ∧ hi = 12)) : Pt (fun p : Int64 × sv_V => p.1 = lN (SM d n b len lo hi len % 4294967296) ∧ p.2 = V) (F_X4_sumOf N (nI b) (nI len) f V) := by
  have hn := h.1
  unfold F_X4_sumOf
  refine pt_l6 (I := fun a1 a2 a3 a4 a5 W => W = V ∧ a1 = nI b ∧ a2 = nI len ∧ a3 = f ∧ ∃ i, i ≤ len ∧ a4 = lN (SM d n b len lo hi i) ∧ a5 = nI i) ?_ N _ _ _ _ _ V ⟨rfl, rfl, rfl, rfl, 0, Nat.zero_le _, rfl, rfl⟩
  rintro kk ih a1 a2 a3 a4 a5 W ⟨rfl, rfl, rfl, rfl, i, hi', rfl, rfl⟩
  unfold B_X4_sumOf_6
  have sl := SM_le (d := d) (n := n) (b := b) (len := len) (lo := lo) (hi := hi) i
  refine pt_ite (fun q => ?_) (fun q => ?_)
  · have e : i = len := by
      have := (nI_leI (by omega) (by omega)).mp q
      omega
    subst e
    exact pt_some ⟨lN_and (by omega), rfl⟩
  have hil : i < len := nI_nle2 q (by omega)
  have g30 : ¬ (lo ≤ i ∧ i < hi) → Pt (fun p : Int64 × sv_V => p.1 = lN (SM d n b len lo hi len % 4294967296) ∧ p.2 = W) (B_X4_sumOf_30 N kk (nI b) (nI len) a3 (lN (SM d n b len lo hi i)) (nI i) W) := fun z => by
    unfold B_X4_sumOf_30
    rw [nI_add, u1_c h (by omega), Option.bind_some]
    dsimp only
    rw [show nI i &&& (3 : Int32) = nI (i % 4) from pk_andN (by omega) 2 rfl, sh_c g1_lt (Nat.mod_lt _ (by decide)), lN_add]
    refine pt_let fun x5 hx => ?_
    unfold B_X4_sumOf_58
    refine pt_let fun x1 hx1 => ih _ _ _ _ _ _ ⟨rfl, rfl, rfl, rfl, i + 1, hil, ?_, by rw [hx1, nI_1]⟩
    rw [hx]
    show _ = lN (SM d n b len lo hi i + sT d n b len lo hi i)
    unfold sT
    rw [if_neg (by omega)]
  have g58 : (lo ≤ i ∧ i < hi) → Pt (fun p : Int64 × sv_V => p.1 = lN (SM d n b len lo hi len % 4294967296) ∧ p.2 = W) (B_X4_sumOf_58 N kk (nI b) (nI len) a3 (lN (SM d n b len lo hi i)) (nI i) W) := fun z => by
    unfold B_X4_sumOf_58
    refine pt_let fun x1 hx1 => ih _ _ _ _ _ _ ⟨rfl, rfl, rfl, rfl, i + 1, hil, ?_, by rw [hx1, nI_1]⟩
    show _ = lN (SM d n b len lo hi i + sT d n b len lo hi i)
    unfold sT
    rw [if_pos (Or.inl z)]
    rfl
  refine pt_ite (fun q1 => g30 ?_) (fun q1 => ?_)
  · rcases hf with ⟨-, e1, e2⟩ | ⟨e0, -, -⟩
    · omega
    · exact absurd (e0.symm.trans q1) (by decide)
  obtain ⟨-, e1, e2⟩ := hf.resolve_left (fun z => q1 z.1)
  refine pt_ite (fun q2 => g30 ?_) (fun q2 => pt_ite (fun q3 => g58 ?_) (fun q3 => g30 ?_))
  · have := (nI_ltI (b := 8) (by omega) (by decide)).mp q2
    omega
  · have := nI_nlt2 (b := 8) q2 (by decide)
    have := (nI_leI (b := 11) (by omega) (by decide)).mp q3
    omega
  · have := nI_nle2 (b := i) (a := 11) (show ¬ nI i ≤ nI 11 from q3) (by decide)
    omega
theorem sum_r {f : Int32} (h : FR d n V) (hb : b + len ≤ n) (hf : (f = -1 ∧ hi = 0) ∨ (f = nI (b + lo) ∧ hi = lo + 4 ∧ lo ≤ n)) : Pt (fun p : Int32 × sv_V => p.1 = nI (SM d n b len lo hi len) ∧ p.2 = V) (F_X12_sumOf N (nI b) (nI (b + len)) f V) := by
  have hn := h.1
  unfold F_X12_sumOf
  refine pt_l5 (I := fun a2 a3 a4 a5 W => W = V ∧ a2 = nI (b + len) ∧ a3 = f ∧ ∃ q, 4 * q ≤ len + 3 ∧ a4 = nI (SM d n b len lo hi (4 * q)) ∧ a5 = nI (b + 4 * q)) ?_ N _ _ _ _ V ⟨rfl, rfl, rfl, 0, Nat.zero_le _, rfl, rfl⟩
  rintro kk ih a2 a3 a4 a5 W ⟨rfl, rfl, rfl, q, hq, rfl, rfl⟩
  unfold B_X12_sumOf_6
  refine pt_ite (fun c => ?_) (fun c => ?_)
  · have := (nI_leI (by omega) (by omega)).mp c
    rw [SM_end (4 * q) (by omega)]
    exact pt_some ⟨rfl, rfl⟩
  have hql : b + 4 * q < b + len := nI_nle2 c (by omega)
  refine pt_l6 (I := fun a2 b3 a4 a5 a6 U => U = W ∧ a2 = nI (b + len) ∧ b3 = a3 ∧ a5 = nI (b + 4 * q) ∧ ∃ k, k ≤ 4 ∧ a4 = nI (SM d n b len lo hi (4 * q + k)) ∧ a6 = nI k) ?_ N _ _ _ _ _ W ⟨rfl, rfl, rfl, rfl, 0, by omega, rfl, rfl⟩
  rintro k2 ih2 a2 b3 a4 a5 a6 U ⟨rfl, rfl, rfl, rfl, k, hk, rfl, rfl⟩
  unfold B_X12_sumOf_15
  refine pt_ite (fun c4 => ?_) (fun c4 => ?_)
  · have e : k = 4 := by
      have := (nI_leI (a := 4) (by decide) (by omega)).mp c4
      omega
    subst e
    exact pt_let fun x7 hx => ih _ _ _ _ _ ⟨rfl, rfl, rfl, q + 1, by omega, rfl, by rw [hx]; exact nI_add _ 4⟩
  have hk4 : k < 4 := nI_nle2 (b := 4) c4 (by omega)
  refine pt_let fun x8 hx8 => ?_
  rw [nI_add] at hx8
  subst hx8
  have g63 : ∀ x, x < 256 → x * 2 ^ (24 - 8 * k) = sT d n b len lo hi (4 * q + k) → Pt (fun p : Int32 × sv_V => p.1 = nI (SM d n b len lo hi len) ∧ p.2 = U) (B_X12_sumOf_63 N kk k2 (nI (b + len)) b3 (nI (SM d n b len lo hi (4 * q + k))) (nI (b + 4 * q)) (nI k) (nI x) U) := fun x hx e => by
    unfold B_X12_sumOf_63
    rw [sh_r hx hk4, nI_add, e]
    exact pt_let fun x1 h1 => pt_let fun x2 h2 => ih2 _ _ _ _ _ _ ⟨rfl, rfl, rfl, rfl, k + 1, hk4, h1, by rw [h2, nI_1]⟩
  have g62 : ((lo ≤ 4 * q + k ∧ 4 * q + k < hi) ∨ len ≤ 4 * q + k) → Pt (fun p : Int32 × sv_V => p.1 = nI (SM d n b len lo hi len) ∧ p.2 = U) (B_X12_sumOf_62 N kk k2 (nI (b + len)) b3 (nI (SM d n b len lo hi (4 * q + k))) (nI (b + 4 * q)) (nI k) U) := fun z => by
    unfold B_X12_sumOf_62
    refine g63 0 (by decide) ?_
    unfold sT
    rw [if_pos z, Nat.zero_mul]
  have g53 : ¬ ((lo ≤ 4 * q + k ∧ 4 * q + k < hi) ∨ len ≤ 4 * q + k) → Pt (fun p : Int32 × sv_V => p.1 = nI (SM d n b len lo hi len) ∧ p.2 = U) (B_X12_sumOf_53 N kk k2 (nI (b + len)) b3 (nI (SM d n b len lo hi (4 * q + k))) (nI (b + 4 * q)) (nI k) (nI (b + 4 * q + k)) U) := fun z => by
    unfold B_X12_sumOf_53
    rw [u1_r h (by omega), Option.bind_some]
    refine g63 _ g1_lt ?_
    unfold sT
    rw [if_neg z, show (4 * q + k) % 4 = k by omega, Nat.add_assoc]
  refine pt_ite (fun c5 => g62 (Or.inr ?_)) (fun c5 => ?_)
  · have := (nI_leI (by omega) (by omega)).mp c5
    omega
  have h5 := nI_nle2 c5 (by omega)
  refine pt_ite (fun c6 => g53 ?_) (fun c6 => ?_)
  · rcases hf with ⟨-, e⟩ | ⟨e, -, hl⟩
    · omega
    · rw [e, show (-1 : Int32) = nI 4294967295 from rfl, nI_md] at c6
      omega
  obtain ⟨e1, e2, e3⟩ := hf.resolve_left (fun z => c6 z.1)
  subst e1
  rw [show nI (b + lo) + (4 : Int32) = nI (b + lo + 4) from nI_add _ 4]
  refine pt_ite (fun c7 => g53 ?_) (fun c7 => pt_ite (fun c8 => g62 (Or.inl ?_)) (fun c8 => g53 ?_))
  · have := (nI_ltI (by omega) (by omega)).mp c7
    omega
  · have := (nI_ltI (by omega) (by omega)).mp c8
    have := nI_nlt2 c7 (by omega)
    omega
  · have := nI_nlt2 c8 (by omega)
    omega
/-- with the four bytes at h + 8 and without -/
theorem SM_four {h : Nat} (h4 : h % 4 = 0) (hl : h + 12 ≤ len) : ∀ i, (i ≤ h + 8 → SM d n 0 len 0 0 i = SM d n 0 len (h + 8) (h + 12) i) ∧ (h + 12 ≤ i → SM d n 0 len 0 0 i = SM d n 0 len (h + 8) (h + 12) i + g4 d n (h + 8)) := by
  have a : ∀ i, i ≤ h + 8 → SM d n 0 len 0 0 i = SM d n 0 len (h + 8) (h + 12) i := by
    intro i
    induction i with
    | zero => exact fun _ => rfl
    | succ i ih =>
      intro hi
      show SM d n 0 len 0 0 i + sT d n 0 len 0 0 i = SM d n 0 len (h + 8) (h + 12) i + sT d n 0 len (h + 8) (h + 12) i
      rw [ih (by omega)]
      unfold sT
      congr 1
      rw [if_neg (by omega), if_neg (by omega)]
  have b : SM d n 0 len 0 0 (h + 12) = SM d n 0 len (h + 8) (h + 12) (h + 12) + g4 d n (h + 8) := by
    show SM d n 0 len 0 0 (h + 8) + sT d n 0 len 0 0 (h + 8) + sT d n 0 len 0 0 (h + 9) + sT d n 0 len 0 0 (h + 10) + sT d n 0 len 0 0 (h + 11) = SM d n 0 len (h + 8) (h + 12) (h + 8) + sT d n 0 len (h + 8) (h + 12) (h + 8) + sT d n 0 len (h + 8) (h + 12) (h + 9) + sT d n 0 len (h + 8) (h + 12) (h + 10) + sT d n 0 len (h + 8) (h + 12) (h + 11) + g4 d n (h + 8)
    rw [a (h + 8) (by omega)]
    unfold sT
    rw [if_neg (by omega), if_neg (by omega), if_neg (by omega), if_neg (by omega), if_pos (by omega), if_pos (by omega), if_pos (by omega), if_pos (by omega), show (h + 8) % 4 = 0 by omega, show (h + 9) % 4 = 1 by omega, show (h + 10) % 4 = 2 by omega, show (h + 11) % 4 = 3 by omega]
    unfold g4 g2
    rw [show 0 + (h + 8) = h + 8 by omega, show 0 + (h + 9) = h + 9 by omega, show 0 + (h + 10) = h + 10 by omega, show 0 + (h + 11) = h + 11 by omega]
    show _ + g1 d n (h + 8) * 16777216 + g1 d n (h + 9) * 65536 + g1 d n (h + 10) * 256 + g1 d n (h + 11) * 1 = _ + 0 + 0 + 0 + 0 + (65536 * (256 * g1 d n (h + 8) + g1 d n (h + 9)) + (256 * g1 d n (h + 10) + g1 d n (h + 11)))
    omega
  refine fun i => ⟨a i, fun hi => ?_⟩
  obtain ⟨k, rfl⟩ : ∃ k, i = h + 12 + k := ⟨i - (h + 12), by omega⟩
  clear hi
  induction k with
  | zero => exact b
  | succ k ih =>
    show SM d n 0 len 0 0 (h + 12 + k) + sT d n 0 len 0 0 (h + 12 + k) = SM d n 0 len (h + 8) (h + 12) (h + 12 + k) + sT d n 0 len (h + 8) (h + 12) (h + 12 + k) + _
    rw [ih]
    have : sT d n 0 len 0 0 (h + 12 + k) = sT d n 0 len (h + 8) (h + 12) (h + 12 + k) := by
      unfold sT
      by_cases c : len ≤ h + 12 + k
      · rw [if_pos (Or.inr c), if_pos (Or.inr c)]
      · rw [if_neg (by omega), if_neg (by omega)]
    rw [this]
    omega
end D4
end
section
/-! 2, 3, 4 IN THE REFERENCE; 4 IN THE CLASS -/
def tgL : List Nat := [1668112752, 1735162214, 1751474532, 1751672161, 1752003704, 1819239265, 1835104368, 1801810542, 1668707360, 1718642541, 1886545264]
def tg (k : Nat) : Nat := tgL.getD k 0
/-- the class's arrays of constants -/
def SC (V : sv_V) : Prop := (∀ k, k < 11 → V.1 1001 k = nI (tg k)) ∧ (∀ k, k < 7 → V.1 1002 k = nI ([14, 16, 18, 20, 22, 24, 30].getD k 0)) ∧ (∀ k, k < 7 → V.1 1004 k = nI ([1, 0, 0, 0, 0, 0, 0].getD k 0)) ∧ ∀ k, k < 7 → V.1 1005 k = nI ([2, 64, 64, 64, 16, 256, 4].getD k 0)
def sLo (d : Nat → Int32) (n k : Nat) : Nat := if en d n k 0 = 1751474532 then 8 else 0
def sHi (d : Nat → Int32) (n k : Nat) : Nat := if en d n k 0 = 1751474532 then 12 else 0
def P4 (d : Nat → Int32) (n k : Nat) : Prop := SM d n (en d n k 2) (en d n k 3) (sLo d n k) (sHi d n k) (en d n k 3) % 4294967296 = en d n k 1
def K4 (d : Nat → Int32) (n : Nat) : Prop := ∀ k, k < tbl d n → P4 d n k
section D5
variable {d : Nat → Int32} {n N : Nat} {V : sv_V}
theorem nI_e32 {a b : Nat} (ha : a < 4294967296) (hb : b < 4294967296) : nI a = nI b ↔ a = b := by
  rw [nI_md]
  omega
theorem sums_c (h : FC d n V) (h1 : K1 d n) (h3 : K3 d n) (h5 : V.1 2 5 = nI (tbl d n)) (hs : SC V) : Pt (fun p : Int32 × sv_V => IB p.1 (K4 d n) ∧ p.2 = V) (F_X4_sumsHold N V) := by
  have hn := h.1
  obtain ⟨-, -, t1, t2, -, -, -, ee⟩ := h1
  unfold F_X4_sumsHold
  refine pt_l2 (I := fun a W => W = V ∧ ∃ k, a = nI k ∧ k ≤ tbl d n ∧ ∀ j, j < k → P4 d n j) ?_ N 0 V ⟨rfl, 0, rfl, Nat.zero_le _, fun j b => by omega⟩
  rintro kk ih a W ⟨rfl, k, rfl, k2, hk⟩
  unfold B_X4_sumsHold_2
  rw [h5]
  refine pt_ite (fun q => ?_) (fun q => ?_)
  · have e : k = tbl d n := by
      have := (nI_leI (by omega) (by omega)).mp q
      omega
    subst e
    exact pt_some ⟨Or.inl ⟨rfl, hk⟩, rfl⟩
  have hkm : k < tbl d n := nI_nle2 q (by omega)
  obtain ⟨-, -, p3, -⟩ := h3 k hkm
  have g33 : ∀ f, (f = 0 ∧ sLo d n k = 0 ∧ sHi d n k = 0) ∨ (f = 1 ∧ sLo d n k = 8 ∧ sHi d n k = 12) → Pt (fun p : Int32 × sv_V => IB p.1 (K4 d n) ∧ p.2 = W) (B_X4_sumsHold_33 N kk (nI k) f W) := fun f hf => by
    unfold B_X4_sumsHold_33
    rw [entry2 h (by omega), Option.bind_some]
    dsimp only
    rw [entry3 h (by omega), Option.bind_some, lN_i, lN_i]
    dsimp only
    refine pt_bb (sum_c h p3 hf) ?_
    rintro ⟨x9, V7⟩ ⟨hx, e7⟩
    dsimp only at hx e7 ⊢
    subst e7
    rw [entry1 h (by omega), Option.bind_some, hx]
    dsimp only
    have l1 := en_lt (d := d) (n := n) (k := k) (w := 1)
    refine pt_ite (fun q1 => pt_let fun x14 h14 => ih _ _ ⟨rfl, k + 1, by rw [h14, nI_1], hkm, fun j hj => ?_⟩) (fun q1 => pt_some ⟨Or.inr ⟨rfl, fun z => q1 (lgc_eq.mpr (by rw [z k hkm]))⟩, rfl⟩)
    rcases Nat.lt_or_ge j k with z | z
    · exact hk j z
    · have e : j = k := by omega
      subst e
      exact (pk_lEQ (by omega) (by omega)).mp (lgc_eq.mp q1)
  rw [entry0 h (by omega), Option.bind_some]
  dsimp only
  have l0 := en_lt (d := d) (n := n) (k := k) (w := 0)
  have eh : (lN (en d n k 0)).toInt32 = W.1 1001 (2 : Int32).toNatClampNeg ↔ en d n k 0 = 1751474532 := by
    rw [lN_i, show (2 : Int32).toNatClampNeg = 2 from rfl, hs.1 2 (by decide)]
    exact nI_e32 (b := 1751474532) l0 (by decide)
  refine pt_ite (fun q1 => g33 1 (Or.inr ⟨rfl, ?_, ?_⟩)) (fun q1 => g33 0 (Or.inl ⟨rfl, ?_, ?_⟩))
  · exact if_pos (eh.mp q1)
  · exact if_pos (eh.mp q1)
  · exact if_neg (fun z => q1 (eh.mpr z))
  · exact if_neg (fun z => q1 (eh.mpr z))
/-- the reference's directory stands -/
def RB (d : Nat → Int32) (n : Nat) (V : sv_V) : Prop := FR d n V ∧ V.1 146 5 = nI (tbl d n) ∧ TEx d n (tbl d n) V
theorem RB_fr {md : List (Nat × Option Nat)} {W : sv_V} (h : RB d n V) (f : sv_eq md V W) (c : md.all (fun q => !(q.1 == 148 || q.1 == 149 || q.1 == 150 || q.1 == 151 || q.1 == 152 || (q.1 == 146 && (q.2 == none || q.2 == some 3 || q.2 == some 5)))) = true) : RB d n W := by
  have key : ∀ a k, (a = 148 ∨ a = 149 ∨ a = 150 ∨ a = 151 ∨ a = 152 ∨ (a = 146 ∧ (k = 3 ∨ k = 5))) → sv_hit md a k = false := by
    intro a k ha
    cases e : sv_hit md a k with
    | false => rfl
    | true =>
      unfold sv_hit at e
      rw [List.any_eq_true] at e
      obtain ⟨q, hq, e⟩ := e
      have z := List.all_eq_true.mp c q hq
      simp only [Bool.and_eq_true, beq_iff_eq, Bool.or_eq_true, Bool.not_eq_true', Bool.or_eq_false_iff, Bool.and_eq_false_iff, beq_eq_false_iff_ne] at e z
      obtain ⟨e1, e2⟩ := e
      obtain ⟨⟨⟨⟨⟨z1, z2⟩, z3⟩, z4⟩, z5⟩, z6⟩ := z
      rcases ha with ha | ha | ha | ha | ha | ⟨ha, hk⟩
      · exact absurd (e1.trans ha) z1
      · exact absurd (e1.trans ha) z2
      · exact absurd (e1.trans ha) z3
      · exact absurd (e1.trans ha) z4
      · exact absurd (e1.trans ha) z5
      · rcases z6 with z6 | ⟨⟨z6, z7⟩, z8⟩
        · exact absurd (e1.trans ha) z6
        · rcases e2 with e2 | e2
          · exact absurd e2 z6
          · rcases hk with rfl | rfl
            · exact absurd e2 z7
            · exact absurd e2 z8
  obtain ⟨⟨h1, h2, h3⟩, h4, h5⟩ := h
  refine ⟨⟨h1, (f 146 3 (key 146 3 (by omega))).1.trans h2, fun j hj => (f 148 j (key 148 j (by omega))).1.trans (h3 j hj)⟩, (f 146 5 (key 146 5 (by omega))).1.trans h4, fun k hk => ?_⟩
  obtain ⟨a, b, c, e⟩ := h5 k hk
  exact ⟨(f 149 k (key 149 k (by omega))).1.trans a, (f 150 k (key 150 k (by omega))).2.1.trans b, (f 151 k (key 151 k (by omega))).2.1.trans c, (f 152 k (key 152 k (by omega))).2.1.trans e⟩
variable {Q : Int32 × sv_V → Prop}
theorem chk_250 (h : RB d n V) (h1 : K1 d n) (h3 : K3 d n) (hR : K4 d n → ∀ kk, Pt Q (B_X12_check_250 N kk (nI (tbl d n)) V)) (hno : ¬ K4 d n → Q (4, V)) : Pt Q (sx_lp2 (B_X12_check_250 N) N 0 V) := by
  obtain ⟨hF, h5, hT⟩ := h
  have hn := hF.1
  obtain ⟨-, -, t1, t2, -, -, -, ee⟩ := h1
  refine pt_l2 (I := fun a W => W = V ∧ ∃ k, a = nI k ∧ k ≤ tbl d n ∧ ∀ j, j < k → P4 d n j) ?_ N 0 V ⟨rfl, 0, rfl, Nat.zero_le _, fun j b => by omega⟩
  rintro kk ih a W ⟨rfl, k, rfl, k2, hk⟩
  rcases Nat.lt_or_ge k (tbl d n) with hkm | z
  rotate_left
  · have e : k = tbl d n := by omega
    subst e
    exact hR hk kk
  unfold B_X12_check_250
  rw [h5, if_neg (nI_ge hkm (by omega))]
  obtain ⟨e0, e1, e2, e3⟩ := hT k hkm
  obtain ⟨-, -, p3, -⟩ := h3 k hkm
  have l0 := en_lt (d := d) (n := n) (k := k) (w := 0)
  have l1 := en_lt (d := d) (n := n) (k := k) (w := 1)
  rw [nI_clamp (by omega), e0, e2, e3, lN_i, lN_i]
  have g296 : ∀ f, (f = -1 ∧ sHi d n k = 0) ∨ (f = nI (en d n k 2 + sLo d n k) ∧ sHi d n k = sLo d n k + 4 ∧ sLo d n k ≤ n) → Pt Q (B_X12_check_296 N kk (nI k) (nI (en d n k 2)) (nI (en d n k 2 + en d n k 3)) f W) := fun f hf => by
    unfold B_X12_check_296
    refine pt_bb (sum_r hF p3 hf) ?_
    rintro ⟨x21, V19⟩ ⟨hx, e7⟩
    dsimp only at hx e7 ⊢
    subst e7
    rw [hx, nI_clamp (by omega), e1, lN_i]
    refine pt_g fun _ => pt_ite (fun q1 => pt_let fun x24 h24 => ih _ _ ⟨rfl, k + 1, by rw [h24, nI_1], hkm, fun j hj => ?_⟩) (fun q1 => pt_some (hno fun z => q1 (nI_md.mpr (by rw [show _ % _ = _ from z k hkm]; omega))))
    rcases Nat.lt_or_ge j k with z | z
    · exact hk j z
    · have e : j = k := by omega
      subst e
      have := nI_md.mp q1
      show _ % _ = _
      omega
  refine pt_g fun _ => pt_let fun x85 hx => pt_g fun _ => pt_g fun _ => ?_
  subst hx
  rw [nI_add]
  have eh : nI (en d n k 0) = (1751474532 : Int32) ↔ en d n k 0 = 1751474532 := nI_e32 (b := 1751474532) l0 (by decide)
  refine pt_ite (fun q1 => g296 _ (Or.inr ?_)) (fun q1 => g296 _ (Or.inl ⟨rfl, if_neg (fun z => q1 (eh.mpr z))⟩))
  have e := eh.mp q1
  unfold sLo sHi
  rw [if_pos e, if_pos e]
  exact ⟨nI_add _ 8, rfl, by omega⟩
theorem chk_57 (h : RB d n V) (h1 : K1 d n) (hR : K3 d n → Pt Q (sx_lp2 (B_X12_check_250 N) N 0 V)) (hno : ¬ K3 d n → Q (3, V)) : Pt Q (sx_lp2 (B_X12_check_57 N) N 0 V) := by
  obtain ⟨hF, h5, hT⟩ := h
  have hn := hF.1
  obtain ⟨-, -, t1, t2, -, -, -, ee⟩ := h1
  refine pt_l2 (I := fun a W => W = V ∧ ∃ k, a = nI k ∧ k ≤ tbl d n ∧ ∀ j, j < k → P3 d n j) ?_ N 0 V ⟨rfl, 0, rfl, Nat.zero_le _, fun j b => by omega⟩
  rintro kk ih a W ⟨rfl, k, rfl, k2, hk⟩
  unfold B_X12_check_57
  rw [h5]
  refine pt_ite (fun q => ?_) (fun q => ?_)
  · have e : k = tbl d n := by
      have := (nI_leI (by omega) (by omega)).mp q
      omega
    subst e
    exact hR hk
  have hkm : k < tbl d n := nI_nle2 q (by omega)
  obtain ⟨e0, e1, e2, e3⟩ := hT k hkm
  have a3 := en_lt (d := d) (n := n) (k := k) (w := 2)
  have a4 := en_lt (d := d) (n := n) (k := k) (w := 3)
  have no : ¬ P3 d n k → Pt Q (some (3, W)) := fun z => pt_some (hno fun y => z (y k hkm))
  rw [nI_clamp (by omega), e2, e3, show lN (en d n k 2) - lN (en d n k 2) / (4 : Int64) * (4 : Int64) = lN (en d n k 2 % 4) from pk_lRem (b := 4) (by omega) (by decide) (by decide), nI_l (by omega), show (16 : Int64) * lN (tbl d n) = lN (16 * tbl d n) from lN_mul 16 _, show (12 : Int64) + lN (16 * tbl d n) = lN (12 + 16 * tbl d n) from lN_add 12 _, lN_add, hF.2.1, nI_l (by omega)]
  refine pt_g fun _ => pt_ite (fun q1 => ?_) (fun q1 => no (fun z => q1 (lgc_eq.mpr (by rw [z.1]; rfl))))
  have c1 : en d n k 2 % 4 = 0 := (pk_lEQ (b := 0) (by omega) (by decide)).mp (lgc_eq.mp q1)
  refine pt_g fun _ => pt_ite (fun q2 => no (fun z => absurd ((pk_lLT (by omega) (by omega)).mp (lgc_lt.mp q2)) (Nat.not_lt.mpr z.2.1))) (fun q2 => ?_)
  rw [lgc_lt, pk_lLT (by omega) (by omega)] at q2
  refine pt_g fun _ => pt_g fun _ => pt_ite (fun q3 => ?_) (fun q3 => no (fun z => q3 (lgc_le.mpr ((pk_lLE (by omega) (by omega)).mpr z.2.2.1))))
  rw [lgc_le, pk_lLE (by omega) (by omega)] at q3
  refine pt_l3 (I := fun a b U => U = W ∧ a = nI k ∧ ∃ j, b = nI j ∧ j ≤ k ∧ ∀ i, i < j → ¬ SH d n i k) ?_ N (nI k) 0 W ⟨rfl, rfl, 0, rfl, Nat.zero_le _, fun j b => by omega⟩
  rintro k2' ih2 a b U ⟨rfl, rfl, j, rfl, hj, hs⟩
  unfold B_X12_check_129
  refine pt_ite (fun q4 => ?_) (fun q4 => ?_)
  · have e : j = k := by
      have := (nI_leI (by omega) (by omega)).mp q4
      omega
    subst e
    refine pt_let fun x2 hx => ih _ _ ⟨rfl, j + 1, by rw [hx, nI_1], hkm, fun i hi => ?_⟩
    rcases Nat.lt_or_ge i j with z | z
    · exact hk i z
    · have e : i = j := by omega
      subst e
      exact ⟨c1, by omega, q3, hs⟩
  have hjk : j < k := nI_nle2 q4 (by omega)
  obtain ⟨f0, f1, f2, f3⟩ := hT j (by omega)
  have b3 := en_lt (d := d) (n := n) (k := j) (w := 2)
  have b4 := en_lt (d := d) (n := n) (k := j) (w := 3)
  rw [nI_clamp (n := j) (by omega), nI_clamp (n := k) (by omega), e2, f2]
  have g225 : ∀ lo hi, lo < 2 ^ 63 → hi < 2 ^ 63 → (SH d n j k ↔ lo < hi) → Pt Q (B_X12_check_225 N kk k2' (nI k) (nI j) (lN lo) (lN hi) U) := fun lo hi hl hh hs2 => by
    unfold B_X12_check_225
    refine pt_ite (fun q5 => pt_let fun x7 hx7 => ih2 _ _ _ ⟨rfl, rfl, j + 1, by rw [hx7, nI_1], hjk, fun i hi' => ?_⟩) (fun q5 => no (fun z => z.2.2.2 j hjk (hs2.mpr ?_)))
    · rw [lgc_ge, pk_lLE (by omega) (by omega)] at q5
      rcases Nat.lt_or_ge i j with z | z
      · exact hs i z
      · have e : i = j := by omega
        subst e
        rw [hs2]
        omega
    · rw [lgc_ge, pk_lLE (by omega) (by omega)] at q5
      omega
  have g165 : ∀ lo, lo < 2 ^ 63 → lo = max (en d n j 2) (en d n k 2) → Pt Q (B_X12_check_165 N kk k2' (nI k) (nI j) (lN lo) U) := fun lo hl e => by
    unfold B_X12_check_165
    rw [nI_clamp (n := j) (by omega), nI_clamp (n := k) (by omega), e2, e3, f2, f3, lN_add, lN_add]
    refine pt_g fun _ => pt_g fun _ => pt_g fun _ => pt_g fun _ => pt_ite (fun q6 => ?_) (fun q6 => ?_)
    · rw [lgc_ge, pk_lLE (by omega) (by omega)] at q6
      exact pt_g fun _ => pt_g fun _ => g225 _ _ hl (by omega) (by unfold SH; rw [Nat.min_eq_right q6, e])
    · rw [lgc_ge, pk_lLE (by omega) (by omega)] at q6
      exact pt_g fun _ => pt_g fun _ => g225 _ _ hl (by omega) (by unfold SH; rw [Nat.min_eq_left (by omega), e])
  refine pt_g fun _ => pt_g fun _ => pt_ite (fun q6 => ?_) (fun q6 => ?_)
  · rw [lgc_le, pk_lLE (by omega) (by omega)] at q6
    exact pt_g fun _ => g165 _ (by omega) (Nat.max_eq_right q6).symm
  · rw [lgc_le, pk_lLE (by omega) (by omega)] at q6
    exact pt_g fun _ => g165 _ (by omega) (Nat.max_eq_left (by omega)).symm
theorem tag_and {a : Nat} (h : a < 4294967296) : (nI a).toInt64 &&& (4294967295 : Int64) = lN a := by
  refine Int64.toBitVec.inj (BitVec.eq_of_toNat_eq ?_)
  rw [Int64.toBitVec_and, BitVec.toNat_and, lN_tn (by omega), show ((4294967295 : Int64).toBitVec.toNat) = 2 ^ 32 - 1 from rfl, Nat.and_two_pow_sub_one_eq_mod]
  show ((nI a).toBitVec.signExtend 64).toNat % 2 ^ 32 = a
  rw [BitVec.toNat_signExtend]
  have e : (nI a).toBitVec.toNat = a := pk_tn h
  have e2 : (BitVec.setWidth 64 (nI a).toBitVec).toNat = a := by rw [BitVec.toNat_setWidth, e]; exact Nat.mod_eq_of_lt (by omega)
  rw [e2]
  split <;> omega
theorem chk_11 (h : RB d n V) (h1 : K1 d n) (hR : K2 d n → Pt Q (sx_lp2 (B_X12_check_57 N) N 0 V)) (hno : ¬ K2 d n → Q (2, V)) : Pt Q (sx_lp2 (B_X12_check_11 N) N 1 V) := by
  obtain ⟨hF, h5, hT⟩ := h
  have hn := hF.1
  obtain ⟨-, -, t1, t2, -, -, -, ee⟩ := h1
  refine pt_l2 (I := fun a W => W = V ∧ ∃ k, a = nI k ∧ 1 ≤ k ∧ k ≤ tbl d n ∧ ∀ j, 1 ≤ j → j < k → en d n (j - 1) 0 < en d n j 0) ?_ N 1 V ⟨rfl, 1, rfl, Nat.le_refl _, t1, fun j a b => by omega⟩
  rintro kk ih a W ⟨rfl, k, rfl, k1, k2, hk⟩
  unfold B_X12_check_11
  rw [h5]
  refine pt_ite (fun q => ?_) (fun q => ?_)
  · have e : k = tbl d n := by
      have := (nI_leI (by omega) (by omega)).mp q
      omega
    subst e
    exact hR hk
  have hkm : k < tbl d n := nI_nle2 q (by omega)
  have l1 := en_lt (d := d) (n := n) (k := k) (w := 0)
  have l2 := en_lt (d := d) (n := n) (k := k - 1) (w := 0)
  rw [show nI k - (1 : Int32) = nI (k - 1) from pk_sub (b := 1) k1, nI_clamp (n := k - 1) (by omega), nI_clamp (n := k) (by omega), (hT k hkm).1, (hT (k - 1) (by omega)).1, tag_and l1, tag_and l2]
  refine pt_g fun _ => pt_g fun _ => pt_ite (fun q1 => pt_let fun x9 hx => ih _ _ ⟨rfl, k + 1, by rw [hx, nI_1], by omega, hkm, fun j a b => ?_⟩) (fun q1 => pt_some (hno fun z => q1 (lgc_lt.mpr ((pk_lLT (by omega) (by omega)).mpr (z k k1 hkm)))))
  rcases Nat.lt_or_ge j k with z | z
  · exact hk j a z
  · have e : j = k := by omega
    subst e
    exact (pk_lLT (by omega) (by omega)).mp (lgc_lt.mp q1)
end D5
end
section
/-! 5 TABLES ARE FOUND -/
def tF (d : Nat → Int32) (n t : Nat) (f k : Nat) : Option Nat := match f with
  | 0 => none
  | f + 1 => if en d n k 0 = t then some k else tF d n t f (k + 1)
def tO (d : Nat → Int32) (n t : Nat) : Option Nat := tF d n t (tbl d n) 0
def bO (d : Nat → Int32) (n t : Nat) : Nat := match tO d n t with
  | some k => en d n k 2
  | none => 0
def lO (d : Nat → Int32) (n t : Nat) : Nat := match tO d n t with
  | some k => en d n k 3
  | none => 0
def tR (d : Nat → Int32) (n t : Nat) : Int32 := match tO d n t with
  | some k => nI k
  | none => -1
def K5 (d : Nat → Int32) (n : Nat) : Prop := ∀ i, i < 7 → tO d n (tg i) ≠ none
section D6
variable {d : Nat → Int32} {n N t : Nat} {V : sv_V}
theorem tF_s : ∀ f k j, tF d n t f k = some j → k ≤ j ∧ j < k + f ∧ en d n j 0 = t := by
  intro f
  induction f with
  | zero => intro k j h; cases h
  | succ f ih =>
    intro k j h
    unfold tF at h
    by_cases c : en d n k 0 = t
    · rw [if_pos c] at h
      cases h
      exact ⟨Nat.le_refl _, by omega, c⟩
    · rw [if_neg c] at h
      obtain ⟨a, b, e⟩ := ih _ _ h
      exact ⟨by omega, by omega, e⟩
theorem tF_n : ∀ f k, tF d n t f k = none → ∀ j, k ≤ j → j < k + f → en d n j 0 ≠ t := by
  intro f
  induction f with
  | zero => intro k _ j a b; omega
  | succ f ih =>
    intro k h j a b
    unfold tF at h
    by_cases c : en d n k 0 = t
    · rw [if_pos c] at h
      cases h
    · rw [if_neg c] at h
      rcases Nat.lt_or_ge k j with z | z
      · exact ih _ h j z (by omega)
      · have : j = k := by omega
        rw [this]
        exact c
theorem tO_s {j : Nat} (h : tO d n t = some j) : j < tbl d n ∧ en d n j 0 = t := by
  obtain ⟨a, b, c⟩ := tF_s _ _ _ h
  exact ⟨by omega, c⟩
theorem tO_n (h : tO d n t = none) {j : Nat} (hj : j < tbl d n) : en d n j 0 ≠ t := tF_n _ _ h j (Nat.zero_le _) (by omega)
theorem K2_lt (h : K2 d n) {j : Nat} : ∀ k, j < k → k < tbl d n → en d n j 0 < en d n k 0 := by
  intro k
  induction k with
  | zero => intro a; omega
  | succ k ih =>
    intro a b
    have h1 := h (k + 1) (by omega) b
    rw [show k + 1 - 1 = k by omega] at h1
    rcases Nat.lt_or_ge j k with z | z
    · have := ih z (by omega)
      omega
    · have : j = k := by omega
      rw [this]
      exact h1
theorem tO_u (h : K2 d n) {j : Nat} (hj : j < tbl d n) (e : en d n j 0 = t) : tO d n t = some j := by
  cases c : tO d n t with
  | none => exact absurd e (tO_n c hj)
  | some k =>
    obtain ⟨k1, k2⟩ := tO_s c
    congr 1
    rcases Nat.lt_trichotomy j k with z | z | z
    · have := K2_lt h k z k1
      omega
    · exact z.symm
    · have := K2_lt h j z hj
      omega
theorem bO_le (h : K3 d n) : bO d n t + lO d n t ≤ n := by
  unfold bO lO
  cases c : tO d n t with
  | none => exact Nat.zero_le _
  | some k => exact (h k (tO_s c).1).2.2.1
theorem bO_ge (h : K3 d n) (hc : tO d n t ≠ none) : 12 + 16 * tbl d n ≤ bO d n t ∧ bO d n t % 4 = 0 := by
  unfold bO
  cases c : tO d n t with
  | none => exact absurd c hc
  | some k => exact ⟨(h k (tO_s c).1).2.1, (h k (tO_s c).1).1⟩
theorem bO_0 (hc : tO d n t = none) : bO d n t = 0 ∧ lO d n t = 0 := by
  unfold bO lO
  rw [hc]
  exact ⟨rfl, rfl⟩
theorem tableOf_r (h : RB d n V) (h1 : K1 d n) (ht : t < 2 ^ 31) : Pt (fun p : Int32 × sv_V => p = (tR d n t, V)) (F_X12_tableOf N (nI t) V) := by
  obtain ⟨hF, h5, hT⟩ := h
  obtain ⟨-, -, t1, t2, -, -, -, ee⟩ := h1
  unfold F_X12_tableOf
  refine pt_l3 (I := fun a b W => W = V ∧ a = nI t ∧ ∃ k, b = nI k ∧ k ≤ tbl d n ∧ tF d n t (tbl d n - k) k = tO d n t) ?_ N _ _ V ⟨rfl, rfl, 0, rfl, Nat.zero_le _, rfl⟩
  rintro kk ih a b W ⟨rfl, rfl, k, rfl, k2, hk⟩
  unfold B_X12_tableOf_2
  rw [h5]
  refine pt_ite (fun q => ?_) (fun q => ?_)
  · have e : k = tbl d n := by
      have := (nI_leI (by omega) (by omega)).mp q
      omega
    refine pt_some ?_
    rw [e, Nat.sub_self] at hk
    unfold tR
    rw [← hk]
    rfl
  have hkm : k < tbl d n := nI_nle2 q (by omega)
  have l0 := en_lt (d := d) (n := n) (k := k) (w := 0)
  obtain ⟨m, hm⟩ : ∃ m, tbl d n - k = m + 1 := ⟨tbl d n - k - 1, by omega⟩
  rw [hm] at hk
  unfold tF at hk
  rw [nI_clamp (by omega), (hT k hkm).1]
  refine pt_g fun _ => pt_ite (fun q1 => ?_) (fun q1 => pt_let fun x4 hx => ih _ _ _ ⟨rfl, rfl, k + 1, by rw [hx, nI_1], hkm, ?_⟩)
  · rw [if_pos ((nI_e32 l0 (by omega)).mp q1)] at hk
    refine pt_some ?_
    unfold tR
    rw [← hk]
  · rw [if_neg (fun z => q1 (by rw [z]))] at hk
    rw [show tbl d n - (k + 1) = m by omega]
    exact hk
theorem beginOf_r (h : RB d n V) (h1 : K1 d n) (ht : t < 2 ^ 31) : Pt (fun p : Int32 × sv_V => p = (nI (bO d n t), V)) (F_X12_beginOf N (nI t) V) := by
  unfold F_X12_beginOf
  refine pt_bb (tableOf_r h h1 ht) ?_
  rintro _ rfl
  dsimp only
  obtain ⟨-, -, t1, t2, -⟩ := h1
  unfold tR bO
  cases c : tO d n t with
  | none => exact pt_ite (fun _ => pt_some rfl) (fun q => absurd rfl q)
  | some k =>
    obtain ⟨k1, k2⟩ := tO_s c
    refine pt_ite (fun q => ?_) (fun q => pt_g fun _ => pt_some ?_)
    · have := nI_md.mp (show nI k = nI 4294967295 from q)
      omega
    · rw [nI_clamp (by omega), (h.2.2 k k1).2.2.1, lN_i]
theorem lengthOf_r (h : RB d n V) (h1 : K1 d n) (ht : t < 2 ^ 31) : Pt (fun p : Int32 × sv_V => p = (nI (lO d n t), V)) (F_X12_lengthOf N (nI t) V) := by
  unfold F_X12_lengthOf
  refine pt_bb (tableOf_r h h1 ht) ?_
  rintro _ rfl
  dsimp only
  obtain ⟨-, -, t1, t2, -⟩ := h1
  unfold tR lO
  cases c : tO d n t with
  | none => exact pt_ite (fun _ => pt_some rfl) (fun q => absurd rfl q)
  | some k =>
    obtain ⟨k1, k2⟩ := tO_s c
    refine pt_ite (fun q => ?_) (fun q => pt_g fun _ => pt_some ?_)
    · have := nI_md.mp (show nI k = nI 4294967295 from q)
      omega
    · rw [nI_clamp (by omega), (h.2.2 k k1).2.2.2, lN_i]
/-- the class's directory and tables stand -/
def CB (d : Nat → Int32) (n : Nat) (V : sv_V) : Prop := FC d n V ∧ V.1 2 5 = nI (tbl d n) ∧ SC V ∧ ∀ i, i < 11 → V.1 4 i = nI (bO d n (tg i)) ∧ V.1 5 i = nI (lO d n (tg i))
theorem SC_I (h : SC V) {a k : Nat} {x : Int32} (e : a < 1000) : SC (sv_I V a k x) := by
  obtain ⟨h1, h2, h3, h4⟩ := h
  refine ⟨fun j hj => ?_, fun j hj => ?_, fun j hj => ?_, fun j hj => ?_⟩
  · rw [vI_cell _ _ _ _ (by omega)]
    exact h1 j hj
  · rw [vI_cell _ _ _ _ (by omega)]
    exact h2 j hj
  · rw [vI_cell _ _ _ _ (by omega)]
    exact h3 j hj
  · rw [vI_cell _ _ _ _ (by omega)]
    exact h4 j hj
theorem tg_lt {i : Nat} (h : i < 11) : tg i < 2 ^ 31 := by
  have key : ∀ i, i < 11 → tg i < 2 ^ 31 := by decide
  exact key i h
theorem find_c (h : FC d n V) (h1 : K1 d n) (h2 : K2 d n) (h3 : K3 d n) (h5 : V.1 2 5 = nI (tbl d n)) (hs : SC V) : Pt (fun p : Int32 × sv_V => IB p.1 (K5 d n) ∧ CB d n p.2) (F_X4_findTables N V) := by
  have hn := h.1
  have h1' := h1
  obtain ⟨-, -, t1, t2, -, -, -, ee⟩ := h1
  unfold F_X4_findTables
  refine pt_l2 (I := fun a W => FC d n W ∧ W.1 2 5 = nI (tbl d n) ∧ SC W ∧ ∃ k, a = nI k ∧ k ≤ 11 ∧ ∀ i, i < k → W.1 4 i = nI (bO d n (tg i)) ∧ W.1 5 i = nI (lO d n (tg i))) ?_ N 0 V ⟨h, h5, hs, 0, rfl, Nat.zero_le _, fun j b => by omega⟩
  rintro kk ih a W ⟨hF, w5, hS, k, rfl, k2, hk⟩
  unfold B_X4_findTables_2
  refine pt_ite (fun q => ?_) (fun q => ?_)
  · have e : k = 11 := by
      have := (nI_leI (a := 11) (by decide) (by omega)).mp q
      omega
    subst e
    refine pt_l2 (I := fun a U => U = W ∧ ∃ i, a = nI i ∧ i ≤ 7 ∧ ∀ j, j < i → tO d n (tg j) ≠ none) ?_ N 0 W ⟨rfl, 0, rfl, Nat.zero_le _, fun j b => by omega⟩
    rintro k3 ih3 a U ⟨rfl, i, rfl, i7, hi⟩
    unfold B_X4_findTables_104
    refine pt_ite (fun q1 => ?_) (fun q1 => ?_)
    · have e : i = 7 := by
        have := (nI_leI (a := 7) (by decide) (by omega)).mp q1
        omega
      subst e
      exact pt_some ⟨Or.inl ⟨rfl, hi⟩, hF, w5, hS, hk⟩
    have hi7 : i < 7 := nI_nle2 (b := 7) q1 (by omega)
    unfold F_X2_hasTable
    rw [nI_clamp (by omega), (hk i (by omega)).1]
    have bl := bO_le (t := tg i) h3
    by_cases c : tO d n (tg i) = none
    · rw [if_pos (sx_in_nI (by omega) (by decide)), if_pos (by rw [(bO_0 c).1]; decide), Option.bind_some]
      refine pt_ite (fun _ => pt_some ⟨Or.inr ⟨rfl, fun z => z i hi7 c⟩, hF, w5, hS, hk⟩) (fun z => absurd rfl z)
    · have bg := (bO_ge h3 c).1
      rw [if_pos (sx_in_nI (by omega) (by decide)), if_neg (nI_nle (by omega) (by omega)), Option.bind_some]
      refine pt_ite (fun z => absurd z (show ¬ (1 : Int32) = 0 by decide)) (fun _ => pt_let fun x24 hx => ih3 _ _ ⟨rfl, i + 1, by rw [hx, nI_1], hi7, fun j hj => ?_⟩)
      rcases Nat.lt_or_ge j i with z | z
      · exact hi j z
      · have e : j = i := by omega
        rw [e]
        exact c
  have hk11 : k < 11 := nI_nle2 (b := 11) q (by omega)
  rw [nI_clamp (by omega)]
  refine pt_g fun _ => pt_let fun V27 e27 => pt_g fun _ => pt_let fun V29 e29 => ?_
  have key : ∀ i, i < k → V29.1 4 i = W.1 4 i ∧ V29.1 5 i = W.1 5 i := fun i hi => by
    rw [e29, e27]
    constructor
    · rw [vI_cell _ _ _ _ (by decide), vI_place _ _ _ (by omega)]
    · rw [vI_place _ _ _ (by omega), vI_cell _ _ _ _ (by decide)]
  refine pt_l3 (I := fun a b U => a = nI k ∧ FC d n U ∧ U.1 2 5 = nI (tbl d n) ∧ SC U ∧ (∀ i, i < k → U.1 4 i = nI (bO d n (tg i)) ∧ U.1 5 i = nI (lO d n (tg i))) ∧ ∃ j, b = nI j ∧ j ≤ tbl d n ∧ ((∃ i, i < j ∧ en d n i 0 = tg k ∧ U.1 4 k = nI (en d n i 2) ∧ U.1 5 k = nI (en d n i 3)) ∨ ((∀ i, i < j → en d n i 0 ≠ tg k) ∧ U.1 4 k = 0 ∧ U.1 5 k = 0))) ?_ N (nI k) 0 V29 ⟨rfl, ?_, ?_, ?_, fun i hi => ?_, 0, rfl, Nat.zero_le _, Or.inr ⟨fun i hi => by omega, ?_, ?_⟩⟩
  · rintro k3 ih3 a b U ⟨rfl, uF, u5, uS, uk, j, rfl, hj, hm⟩
    unfold B_X4_findTables_32
    rw [u5]
    refine pt_ite (fun q1 => ?_) (fun q1 => ?_)
    · have e : j = tbl d n := by
        have := (nI_leI (by omega) (by omega)).mp q1
        omega
      subst e
      refine pt_let fun x3 hx => ih _ _ ⟨uF, u5, uS, k + 1, by rw [hx, nI_1], hk11, fun i hi => ?_⟩
      rcases Nat.lt_or_ge i k with z | z
      · exact uk i z
      · have e : i = k := by omega
        subst e
        rcases hm with ⟨x, hx1, hx2, hx3, hx4⟩ | ⟨y1, y2, y3⟩
        · have e := tO_u h2 hx1 hx2
          unfold bO lO
          rw [e]
          exact ⟨hx3, hx4⟩
        · have e : tO d n (tg i) = none := by
            cases c : tO d n (tg i) with
            | none => rfl
            | some x => exact absurd (tO_s c).2 (y1 x (tO_s c).1)
          unfold bO lO
          rw [e]
          exact ⟨y2, y3⟩
    have hjm : j < tbl d n := nI_nle2 q1 (by omega)
    have l0 := en_lt (d := d) (n := n) (k := j) (w := 0)
    have lk := tg_lt hk11
    rw [entry0 uF (by omega), Option.bind_some]
    dsimp only
    rw [nI_clamp (by omega), uS.1 k hk11, lN_i]
    refine pt_g fun _ => pt_ite (fun q2 => ?_) (fun q2 => ?_)
    · have et := (nI_e32 l0 (by omega)).mp q2
      rw [entry2 uF (by omega), Option.bind_some]
      dsimp only
      refine pt_g fun _ => pt_let fun V13 e13 => ?_
      have f13 : FC d n V13 := by rw [e13]; exact FC_I uF ⟨Or.inl (by decide), by decide⟩
      rw [entry3 f13 (by omega), Option.bind_some]
      dsimp only
      refine pt_g fun _ => pt_let fun V18 e18 => ?_
      have f18 : FC d n V18 := by rw [e18]; exact FC_I f13 ⟨Or.inl (by decide), by decide⟩
      unfold B_X4_findTables_90
      refine pt_let fun x1 hx => ih3 _ _ _ ⟨rfl, f18, ?_, ?_, fun i hi => ?_, j + 1, by rw [hx, nI_1], hjm, Or.inl ⟨j, by omega, et, ?_, ?_⟩⟩
      · rw [e18, e13]
        exact u5
      · rw [e18, e13]
        exact SC_I (SC_I uS (by decide)) (by decide)
      · rw [e18, e13]
        refine ⟨?_, ?_⟩
        · rw [vI_cell _ _ _ _ (by decide), vI_place _ _ _ (by omega)]
          exact (uk i hi).1
        · rw [vI_place _ _ _ (by omega), vI_cell _ _ _ _ (by decide)]
          exact (uk i hi).2
      · rw [e18, e13, vI_cell _ _ _ _ (by decide), vI_same, lN_i]
      · rw [e18, vI_same, lN_i]
    · unfold B_X4_findTables_90
      refine pt_let fun x1 hx => ih3 _ _ _ ⟨rfl, uF, u5, uS, uk, j + 1, by rw [hx, nI_1], hjm, ?_⟩
      rcases hm with ⟨x, hx1, hx2⟩ | ⟨y1, y2⟩
      · exact Or.inl ⟨x, by omega, hx2⟩
      · refine Or.inr ⟨fun i hi => ?_, y2⟩
        rcases Nat.lt_or_ge i j with z | z
        · exact y1 i z
        · have e : i = j := by omega
          rw [e]
          exact fun z => q2 (by rw [z])
  · rw [e29, e27]
    exact FC_I (FC_I hF ⟨Or.inl (by decide), by decide⟩) ⟨Or.inl (by decide), by decide⟩
  · rw [e29, e27]
    exact w5
  · rw [e29, e27]
    exact SC_I (SC_I hS (by decide)) (by decide)
  · rw [(key i hi).1, (key i hi).2]
    exact hk i hi
  · rw [e29, e27, vI_cell _ _ _ _ (by decide), vI_same]
  · rw [e29, vI_same]
end D6
end
section
/-! 6 head, 7 maxp, 8 hhea, 9 hmtx -/
def K6 (d : Nat → Int32) (n : Nat) : Prop := lO d n 1751474532 = 54 ∧ g4 d n (bO d n 1751474532) = 65536 ∧ g4 d n (bO d n 1751474532 + 12) = 1594834165 ∧ (16 ≤ g2 d n (bO d n 1751474532 + 18) ∧ g2 d n (bO d n 1751474532 + 18) ≤ 16384) ∧ (g2 d n (bO d n 1751474532 + 50) = 0 ∨ g2 d n (bO d n 1751474532 + 50) = 1) ∧ g2 d n (bO d n 1751474532 + 52) = 0 ∧ SM d n 0 n 0 0 n % 4294967296 = 2981146554
/-- UNITS, the LOCA FORM, GLYPHS, METRICS, DEPTH -/
def unO (d : Nat → Int32) (n : Nat) : Nat := g2 d n (bO d n 1751474532 + 18)
def foO (d : Nat → Int32) (n : Nat) : Nat := g2 d n (bO d n 1751474532 + 50)
def glO (d : Nat → Int32) (n : Nat) : Nat := g2 d n (bO d n 1835104368 + 4)
def deO (d : Nat → Int32) (n : Nat) : Nat := g2 d n (bO d n 1835104368 + 30)
def meO (d : Nat → Int32) (n : Nat) : Nat := g2 d n (bO d n 1751672161 + 34)
def lpl (k : Nat) : Nat := [14, 16, 18, 20, 22, 24, 30].getD k 0
def lll (k : Nat) : Nat := [1, 0, 0, 0, 0, 0, 0].getD k 0
def lml (k : Nat) : Nat := [2, 64, 64, 64, 16, 256, 4].getD k 0
def K7 (d : Nat → Int32) (n : Nat) : Prop := lO d n 1835104368 = 32 ∧ g4 d n (bO d n 1835104368) = 65536 ∧ (1 ≤ glO d n ∧ glO d n ≤ 200) ∧ (∀ k, k < 7 → lll k ≤ g2 d n (bO d n 1835104368 + lpl k) ∧ g2 d n (bO d n 1835104368 + lpl k) ≤ lml k) ∧ (g2 d n (bO d n 1835104368 + 14) = 2 ∨ g2 d n (bO d n 1835104368 + 16) = 0)
def K8 (d : Nat → Int32) (n : Nat) : Prop := lO d n 1751672161 = 36 ∧ 1 ≤ meO d n ∧ meO d n ≤ glO d n
def K9 (d : Nat → Int32) (n : Nat) : Prop := 4 * meO d n + 2 * (glO d n - meO d n) ≤ lO d n 1752003704
theorem s16_i {m k : Nat} (h : m < 65536) (hk : k < 32768) : s16 m = nI k ↔ m = k := by
  constructor
  · intro e
    have e2 := congrArg Int32.toInt e
    rw [s16_t h, nI_toInt (by omega)] at e2
    split at e2 <;> omega
  · intro e
    subst e
    refine Int32.toInt_inj.mp ?_
    rw [s16_t h, nI_toInt (by omega), if_pos hk]
theorem ite_z {c : Prop} [Decidable c] : (if c then (1 : Int32) else 0) = 0 ↔ ¬ c := by
  by_cases h : c
  · rw [if_pos h]
    exact iff_of_false (by decide) (fun z => z h)
  · rw [if_neg h]
    exact iff_of_true rfl h
section D7
variable {d : Nat → Int32} {n N : Nat} {V : sv_V}
theorem CB_I (h : CB d n V) {a k : Nat} {x : Int32} (e : (a = 2 ∧ k ≠ 1 ∧ k ≠ 5) ∨ (5 < a ∧ a < 1000)) : CB d n (sv_I V a k x) := by
  obtain ⟨h1, h2, h3, h4⟩ := h
  refine ⟨FC_I h1 (by omega), ?_, SC_I h3 (by omega), fun i hi => ?_⟩
  · show (if 2 = a ∧ 5 = k then x else V.1 2 5) = _
    rw [if_neg (by omega)]
    exact h2
  · rw [vI_cell _ _ _ _ (by omega), vI_cell _ _ _ _ (by omega)]
    exact h4 i hi
theorem head_c (hd : DB d) (h : CB d n V) (h3 : K3 d n) : Pt (fun p : Int32 × sv_V => IB p.1 (K6 d n) ∧ CB d n p.2 ∧ (p.1 = 1 → p.2.1 2 6 = nI (unO d n) ∧ p.2.1 2 9 = nI (foO d n))) (F_X4_headHolds N V) := by
  have hn := h.1.1
  have bl := bO_le (t := 1751474532) h3
  have eb : V.1 4 (2 : Int32).toNatClampNeg = nI (bO d n 1751474532) := (h.2.2.2 2 (by decide)).1
  unfold F_X4_headHolds
  refine pt_let fun x9 hx => ?_
  rw [eb] at hx
  subst hx
  generalize hb : bO d n 1751474532 = b at *
  rw [show nI b + (18 : Int32) = nI (b + 18) from nI_add _ 18, u2_c h.1 (by omega), Option.bind_some]
  dsimp only
  refine pt_let fun V13 e13 => ?_
  have h13 : CB d n V13 := by rw [e13]; exact CB_I h (by omega)
  rw [show nI b + (50 : Int32) = nI (b + 50) from nI_add _ 50, s2_c hd h13.1 (by omega), Option.bind_some]
  dsimp only
  refine pt_let fun V17 e17 => ?_
  have h17 : CB d n V17 := by rw [e17]; exact CB_I h13 (by omega)
  have el : V17.1 5 (2 : Int32).toNatClampNeg = nI (lO d n 1751474532) := (h17.2.2.2 2 (by decide)).2
  have no : ¬ K6 d n → Pt (fun p : Int32 × sv_V => IB p.1 (K6 d n) ∧ CB d n p.2 ∧ (p.1 = 1 → p.2.1 2 6 = nI (unO d n) ∧ p.2.1 2 9 = nI (foO d n))) (some (0, V17)) := fun z => pt_some ⟨Or.inr ⟨rfl, z⟩, h17, fun e => absurd e (show ¬ (0 : Int32) = 1 by decide)⟩
  rw [el]
  refine pt_ite (fun q1 => ?_) (fun q1 => no (fun z => q1 (by rw [z.1]; rfl)))
  have l54 : lO d n 1751474532 = 54 := (nI_eq (b := 54) (by omega) (by decide)).mp q1
  have a0 := g4_lt (d := d) (n := n) (P := b)
  have a12 := g4_lt (d := d) (n := n) (P := b + 12)
  have a18 := g2_lt (d := d) (n := n) (P := b + 18)
  have a50 := g2_lt (d := d) (n := n) (P := b + 50)
  have a52 := g2_lt (d := d) (n := n) (P := b + 52)
  rw [u4_c h17.1 (by omega), Option.bind_some, c4_g (by omega)]
  dsimp only
  refine pt_ite (fun q2 => ?_) (fun q2 => no (fun z => q2 (lgc_eq.mpr (by rw [← hb, z.2.1]; rfl))))
  have k2 := (pk_lEQ (b := 65536) (by omega) (by decide)).mp (lgc_eq.mp q2)
  rw [show nI b + (12 : Int32) = nI (b + 12) from nI_add _ 12, u4_c h17.1 (by omega), Option.bind_some, c4_g (by omega)]
  dsimp only
  refine pt_ite (fun q3 => ?_) (fun q3 => no (fun z => q3 (lgc_eq.mpr (by rw [← hb, z.2.2.1]; rfl))))
  have k3 := (pk_lEQ (b := 1594834165) (by omega) (by decide)).mp (lgc_eq.mp q3)
  have eu : V17.1 2 6 = nI (unO d n) := by
    rw [e17, vI_place _ _ _ (by decide), e13, vI_same, c2_g (by omega), ← hb]
    rfl
  have ef : V17.1 2 9 = s16 (foO d n) := by
    rw [e17, vI_same, c2_g (by omega), ← hb]
    rfl
  have au : unO d n < 65536 := g2_lt
  have af : foO d n < 65536 := g2_lt
  rw [eu, ef]
  refine pt_ite (fun q4 => no (fun z => ?_)) (fun q4 => pt_ite (fun q5 => no (fun z => ?_)) (fun q5 => ?_))
  · have := (nI_ltI (b := 16) (by omega) (by decide)).mp q4
    have z4 : 16 ≤ unO d n := z.2.2.2.1.1
    omega
  · have := (nI_ltI (a := 16384) (by decide) (by omega)).mp q5
    have z4 : unO d n ≤ 16384 := z.2.2.2.1.2
    omega
  have u1 := nI_nlt2 (b := 16) q4 (by decide)
  have u2 := nI_nlt2 (a := 16384) (b := unO d n) q5 (by omega)
  have g139 : (foO d n = 0 ∨ foO d n = 1) → Pt (fun p : Int32 × sv_V => IB p.1 (K6 d n) ∧ CB d n p.2 ∧ (p.1 = 1 → p.2.1 2 6 = nI (unO d n) ∧ p.2.1 2 9 = nI (foO d n))) (B_X4_headHolds_139 N (nI b) V17) := fun hf => by
    unfold B_X4_headHolds_139
    rw [show nI b + (52 : Int32) = nI (b + 52) from nI_add _ 52, s2_c hd h17.1 (by omega), Option.bind_some, c2_g (by omega)]
    dsimp only
    refine pt_ite (fun q6 => ?_) (fun q6 => no (fun z => q6 ((s16_i (k := 0) a52 (by decide)).mpr (by rw [← hb]; exact z.2.2.2.2.2.1))))
    have k6 := (s16_i (k := 0) a52 (by decide)).mp q6
    rw [h17.1.2.1]
    refine pt_bb (sum_c (b := 0) (len := n) (lo := 0) (hi := 0) h17.1 (by omega) (Or.inl ⟨rfl, rfl, rfl⟩)) ?_
    rintro ⟨x7, V5⟩ ⟨hx, e5⟩
    dsimp only at hx e5 ⊢
    subst e5
    rw [hx]
    refine pt_ite (fun q7 => pt_some ⟨Or.inl ⟨rfl, l54, by rw [hb]; exact k2, by rw [hb]; exact k3, ⟨u1, u2⟩, hf, by rw [hb]; exact k6, (pk_lEQ (b := 2981146554) (by omega) (by decide)).mp (lgc_eq.mp q7)⟩, h17, fun _ => ⟨eu, ?_⟩⟩) (fun q7 => no (fun z => q7 (lgc_eq.mpr (by rw [z.2.2.2.2.2.2]; rfl))))
    rw [ef]
    rcases hf with e | e <;> rw [e] <;> rfl
  refine pt_ite (fun q8 => g139 (Or.inl ((s16_i (k := 0) af (by decide)).mp q8))) (fun q8 => pt_ite (fun q9 => g139 (Or.inr ((s16_i (k := 1) af (by decide)).mp q9))) (fun q9 => no (fun z => ?_)))
  rcases z.2.2.2.2.1 with e | e
  · exact q8 ((s16_i (k := 0) af (by decide)).mpr e)
  · exact q9 ((s16_i (k := 1) af (by decide)).mpr e)
theorem RB_I (h : RB d n V) {k : Nat} {x : Int32} (e : k ≠ 3 ∧ k ≠ 5) : RB d n (sv_I V 146 k x) := RB_fr h (md := [(146, some k)]) (sv_eq_I rfl (by simp [sv_hit])) (by
  obtain ⟨e1, e2⟩ := e
  simp [e1, e2])
theorem in16 {m a b : Nat} {V : sv_V} {x y : Int64} (hm : m < 65536) (hb : b < 32768) (ha : a ≤ b) (ex : x = lN a) (ey : y = lN b) : F_X12_in (s16 m).toInt64 x y V = some (if a ≤ m ∧ m ≤ b then 1 else 0, V) := by
  subst ex
  subst ey
  rw [F_in]
  have t := s16_t hm
  have e : (lN a ≤ (s16 m).toInt64 ∧ (s16 m).toInt64 ≤ lN b) ↔ (a ≤ m ∧ m ≤ b) := by
    rw [Int64.le_iff_toInt_le, Int64.le_iff_toInt_le, Int32.toInt_toInt64, t, lN_toInt (by omega), lN_toInt (by omega)]
    split <;> omega
  by_cases c : a ≤ m ∧ m ≤ b
  · rw [if_pos c, if_pos (e.mpr c)]
  · rw [if_neg c, if_neg (fun z => c (e.mp z))]
theorem head_r (h : RB d n V) (h1 : K1 d n) (h3 : K3 d n) (h5 : tO d n 1751474532 ≠ none) : Pt (fun p : Int32 × sv_V => IB p.1 (K6 d n) ∧ (p.1 = 1 → p.2.1 146 10 = nI (unO d n) ∧ p.2.1 146 11 = nI (foO d n))) (F_X12_head N V) := by
  have hn := h.1.1
  have bl := bO_le (t := 1751474532) h3
  have b4 := (bO_ge h3 h5).2
  unfold F_X12_head
  refine pt_bb (beginOf_r (t := 1751474532) h h1 (by decide)) ?_
  rintro _ rfl
  dsimp only
  generalize hb : bO d n 1751474532 = b at *
  rw [show nI b + (18 : Int32) = nI (b + 18) from nI_add _ 18, u2_r h.1 (by omega), Option.bind_some]
  dsimp only
  refine pt_let fun V15 e15 => ?_
  have h15 : RB d n V15 := by rw [e15]; exact RB_I h (by omega)
  rw [show nI b + (50 : Int32) = nI (b + 50) from nI_add _ 50, s2_r h15.1 (by omega), Option.bind_some]
  dsimp only
  refine pt_let fun V19 e19 => ?_
  have h19 : RB d n V19 := by rw [e19]; exact RB_I h15 (by omega)
  have no : ¬ K6 d n → Pt (fun p : Int32 × sv_V => IB p.1 (K6 d n) ∧ (p.1 = 1 → p.2.1 146 10 = nI (unO d n) ∧ p.2.1 146 11 = nI (foO d n))) (B_X12_head_114 N (nI b) V19) := fun z => by
    unfold B_X12_head_114 B_X12_head_115
    exact pt_ite (fun _ => pt_some ⟨Or.inr ⟨rfl, z⟩, fun e => absurd e (show ¬ (0 : Int32) = 1 by decide)⟩) (fun q => absurd rfl q)
  have eu : V19.1 146 10 = nI (unO d n) := by
    rw [e19, vI_place _ _ _ (by decide), e15, vI_same, ← hb]
    rfl
  have ef : V19.1 146 11 = s16 (foO d n) := by
    rw [e19, vI_same, ← hb]
    rfl
  have au : unO d n < 65536 := g2_lt
  have af : foO d n < 65536 := g2_lt
  have a0 := g4_lt (d := d) (n := n) (P := b)
  have a12 := g4_lt (d := d) (n := n) (P := b + 12)
  have a52 := g2_lt (d := d) (n := n) (P := b + 52)
  refine pt_bb (lengthOf_r (t := 1751474532) h19 h1 (by decide)) ?_
  rintro _ rfl
  dsimp only
  refine pt_ite (fun q1 => ?_) (fun q1 => no (fun z => q1 (by rw [z.1]; rfl)))
  have l54 : lO d n 1751474532 = 54 := (nI_eq (b := 54) (by omega) (by decide)).mp q1
  rw [u4_r h19.1 (by omega), Option.bind_some]
  dsimp only
  refine pt_ite (fun q2 => ?_) (fun q2 => no (fun z => q2 (lgc_eq.mpr (by rw [← hb, z.2.1]; rfl))))
  have k2 := (pk_lEQ (b := 65536) (by omega) (by decide)).mp (lgc_eq.mp q2)
  rw [show nI b + (12 : Int32) = nI (b + 12) from nI_add _ 12, u4_r h19.1 (by omega), Option.bind_some]
  dsimp only
  refine pt_ite (fun q3 => ?_) (fun q3 => no (fun z => q3 (lgc_eq.mpr (by rw [← hb, z.2.2.1]; rfl))))
  have k3 := (pk_lEQ (b := 1594834165) (by omega) (by decide)).mp (lgc_eq.mp q3)
  rw [eu, F_inN (x := 16) (y := 16384) (a := 16) (b := 16384) (by omega) (by decide) (by decide) rfl rfl, Option.bind_some]
  dsimp only
  refine pt_ite (fun q4 => no (fun z => (ite_z.mp q4) z.2.2.2.1)) (fun q4 => ?_)
  have k4 : 16 ≤ unO d n ∧ unO d n ≤ 16384 := nnx (fun z => q4 (ite_z.mpr z))
  rw [ef, in16 (x := 0) (y := 1) (a := 0) (b := 1) af (by decide) (by decide) rfl rfl, Option.bind_some]
  dsimp only
  refine pt_ite (fun q5 => no (fun z => (ite_z.mp q5) (by have := z.2.2.2.2.1; unfold foO; omega))) (fun q5 => ?_)
  have k5 : 0 ≤ foO d n ∧ foO d n ≤ 1 := nnx (fun z => q5 (ite_z.mpr z))
  have hf : foO d n = 0 ∨ foO d n = 1 := by omega
  rw [show nI b + (52 : Int32) = nI (b + 52) from nI_add _ 52, s2_r h19.1 (by omega), Option.bind_some]
  dsimp only
  refine pt_ite (fun q6 => ?_) (fun q6 => no (fun z => q6 ((s16_i (k := 0) a52 (by decide)).mpr (by rw [← hb]; exact z.2.2.2.2.2.1))))
  have k6 := (s16_i (k := 0) a52 (by decide)).mp q6
  unfold B_X12_head_115
  refine pt_ite (fun q => absurd q (show ¬ (1 : Int32) = 0 by decide)) (fun _ => ?_)
  rw [h19.1.2.1, show nI b + (8 : Int32) = nI (0 + (b + 8)) by rw [Nat.zero_add]; exact nI_add _ 8]
  refine pt_bb (sum_r (b := 0) (len := n) (lo := b + 8) (hi := b + 12) h19.1 (by omega) (Or.inr ⟨rfl, by omega, by omega⟩) |> fun z => by rw [Nat.zero_add] at z; exact z) ?_
  rintro ⟨x4, V2⟩ ⟨hx, e2⟩
  dsimp only at hx e2 ⊢
  subst e2
  rw [Nat.zero_add, u4_r h19.1 (by omega), Option.bind_some, hx]
  dsimp only
  rw [lN_i, nI_add, ← (SM_four (d := d) (n := n) (len := n) b4 (by omega) n).2 (by omega)]
  refine pt_ite (fun q7 => pt_some ⟨Or.inl ⟨rfl, l54, by rw [hb]; exact k2, by rw [hb]; exact k3, k4, hf, by rw [hb]; exact k6, ?_⟩, fun _ => ⟨eu, ?_⟩⟩) (fun q7 => pt_some ⟨Or.inr ⟨rfl, fun z => q7 ?_⟩, fun e => absurd e (show ¬ (0 : Int32) = 1 by decide)⟩)
  · have := nI_md.mp (show nI _ = nI 2981146554 from q7)
    omega
  · rw [ef]
    rcases hf with e | e <;> rw [e] <;> rfl
  · show _ = nI 2981146554
    rw [nI_md, z.2.2.2.2.2.2]
theorem maxp_c (h : CB d n V) (h3 : K3 d n) : Pt (fun p : Int32 × sv_V => IB p.1 (K7 d n) ∧ CB d n p.2 ∧ (p.1 = 1 → p.2.1 2 7 = nI (glO d n) ∧ ∀ k, k < 7 → p.2.1 6 k = nI (g2 d n (bO d n 1835104368 + lpl k)))) (F_X4_maxpHolds N V) := by
  have hn := h.1.1
  have bl := bO_le (t := 1835104368) h3
  have eb : V.1 4 (6 : Int32).toNatClampNeg = nI (bO d n 1835104368) := (h.2.2.2 6 (by decide)).1
  unfold F_X4_maxpHolds
  refine pt_let fun x9 hx => ?_
  rw [eb] at hx
  subst hx
  rw [show nI (bO d n 1835104368) + (4 : Int32) = nI (bO d n 1835104368 + 4) from nI_add _ 4, u2_c h.1 (by omega), Option.bind_some]
  dsimp only
  refine pt_let fun V19 e19 => ?_
  have h19 : CB d n V19 := by rw [e19]; exact CB_I h (by omega)
  have el : V19.1 5 (6 : Int32).toNatClampNeg = nI (lO d n 1835104368) := (h19.2.2.2 6 (by decide)).2
  have no : ∀ W : sv_V, CB d n W → ¬ K7 d n → Pt (fun p : Int32 × sv_V => IB p.1 (K7 d n) ∧ CB d n p.2 ∧ (p.1 = 1 → p.2.1 2 7 = nI (glO d n) ∧ ∀ k, k < 7 → p.2.1 6 k = nI (g2 d n (bO d n 1835104368 + lpl k)))) (some (0, W)) := fun W hW z => pt_some ⟨Or.inr ⟨rfl, z⟩, hW, fun e => absurd e (show ¬ (0 : Int32) = 1 by decide)⟩
  rw [el]
  refine pt_ite (fun q1 => ?_) (fun q1 => no _ h19 (fun z => q1 (by rw [z.1]; rfl)))
  have l32 : lO d n 1835104368 = 32 := (nI_eq (b := 32) (by omega) (by decide)).mp q1
  have a0 := g4_lt (d := d) (n := n) (P := bO d n 1835104368)
  have ag : glO d n < 65536 := g2_lt
  rw [u4_c h19.1 (by omega), Option.bind_some, c4_g (by omega)]
  dsimp only
  refine pt_ite (fun q2 => ?_) (fun q2 => no _ h19 (fun z => q2 (lgc_eq.mpr (by rw [z.2.1]; rfl))))
  have k2 := (pk_lEQ (b := 65536) (by omega) (by decide)).mp (lgc_eq.mp q2)
  have eg : V19.1 2 7 = nI (glO d n) := by
    rw [e19, vI_same, c2_g (by omega)]
    rfl
  rw [eg]
  refine pt_ite (fun q4 => no _ h19 (fun z => ?_)) (fun q4 => pt_ite (fun q5 => ?_) (fun q5 => no _ h19 (fun z => q5 ((nI_leI (b := 200) (by omega) (by decide)).mpr z.2.2.1.2))))
  · have := (nI_ltI (b := 1) (by omega) (by decide)).mp q4
    have := z.2.2.1.1
    omega
  have k3 : 1 ≤ glO d n ∧ glO d n ≤ 200 := ⟨nI_nlt2 (b := 1) q4 (by decide), (nI_leI (b := 200) (by omega) (by decide)).mp q5⟩
  refine pt_l3 (I := fun a b W => a = nI (bO d n 1835104368) ∧ CB d n W ∧ W.1 2 7 = nI (glO d n) ∧ ∃ k, b = nI k ∧ k ≤ 7 ∧ ∀ i, i < k → (lll i ≤ g2 d n (bO d n 1835104368 + lpl i) ∧ g2 d n (bO d n 1835104368 + lpl i) ≤ lml i) ∧ W.1 6 i = nI (g2 d n (bO d n 1835104368 + lpl i))) ?_ N _ _ V19 ⟨rfl, h19, eg, 0, rfl, Nat.zero_le _, fun i hi => by omega⟩
  rintro kk ih a b W ⟨rfl, hW, wg, k, rfl, k7, hk⟩
  unfold B_X4_maxpHolds_86
  refine pt_ite (fun q6 => ?_) (fun q6 => ?_)
  · have e : k = 7 := by
      have := (nI_leI (a := 7) (by decide) (by omega)).mp q6
      omega
    subst e
    have e0 : W.1 6 (0 : Int32).toNatClampNeg = nI (g2 d n (bO d n 1835104368 + 14)) := (hk 0 (by decide)).2
    have e1 : W.1 6 (1 : Int32).toNatClampNeg = nI (g2 d n (bO d n 1835104368 + 16)) := (hk 1 (by decide)).2
    have a14 := g2_lt (d := d) (n := n) (P := bO d n 1835104368 + 14)
    have a16 := g2_lt (d := d) (n := n) (P := bO d n 1835104368 + 16)
    have yes : (g2 d n (bO d n 1835104368 + 14) = 2 ∨ g2 d n (bO d n 1835104368 + 16) = 0) → Pt (fun p : Int32 × sv_V => IB p.1 (K7 d n) ∧ CB d n p.2 ∧ (p.1 = 1 → p.2.1 2 7 = nI (glO d n) ∧ ∀ k, k < 7 → p.2.1 6 k = nI (g2 d n (bO d n 1835104368 + lpl k)))) (B_X4_maxpHolds_170 N W) := fun z => pt_some ⟨Or.inl ⟨rfl, l32, k2, k3, fun i hi => (hk i hi).1, z⟩, hW, fun _ => ⟨wg, fun i hi => (hk i hi).2⟩⟩
    rw [e0, e1]
    refine pt_ite (fun q7 => yes (Or.inl ((nI_eq (b := 2) (by omega) (by decide)).mp q7))) (fun q7 => pt_ite (fun q8 => yes (Or.inr ((nI_eq (b := 0) (by omega) (by decide)).mp q8))) (fun q8 => no _ hW (fun z => ?_)))
    rcases z.2.2.2.2 with z | z
    · exact q7 (by rw [z]; rfl)
    · exact q8 (by rw [z]; rfl)
  have hk7 : k < 7 := nI_nle2 (b := 7) q6 (by omega)
  have lp : lpl k + 2 ≤ 32 ∧ lll k < 300 ∧ lml k < 300 := by
    have key : ∀ k, k < 7 → lpl k + 2 ≤ 32 ∧ lll k < 300 ∧ lml k < 300 := by decide
    exact key k hk7
  have aw := g2_lt (d := d) (n := n) (P := bO d n 1835104368 + lpl k)
  rw [nI_clamp (by omega), show W.1 1002 k = nI (lpl k) from hW.2.2.1.2.1 k hk7, nI_add, u2_c hW.1 (by omega)]
  refine pt_g fun _ => ?_
  rw [Option.bind_some, c2_g (by omega)]
  dsimp only
  rw [show W.1 1004 k = nI (lll k) from hW.2.2.1.2.2.1 k hk7, show W.1 1005 k = nI (lml k) from hW.2.2.1.2.2.2 k hk7]
  refine pt_g fun _ => pt_ite (fun q9 => no _ hW (fun z => ?_)) (fun q9 => pt_g fun _ => pt_ite (fun q10 => pt_g fun _ => pt_let fun V13 e13 => pt_let fun x14 hx => ih _ _ _ ⟨rfl, ?_, ?_, k + 1, by rw [hx, nI_1], hk7, fun i hi => ?_⟩) (fun q10 => no _ hW (fun z => q10 ((nI_leI (by omega) (by omega)).mpr (z.2.2.2.1 k hk7).2))))
  · have := (nI_ltI (by omega) (by omega)).mp q9
    have := (z.2.2.2.1 k hk7).1
    omega
  · rw [e13]
    exact CB_I hW (by omega)
  · rw [e13]
    exact wg
  · rw [e13]
    rcases Nat.lt_or_ge i k with z | z
    · rw [vI_place _ _ _ (by omega)]
      exact hk i z
    · have e : i = k := by omega
      subst e
      exact ⟨⟨nI_nlt2 q9 (by omega), (nI_leI (by omega) (by omega)).mp q10⟩, vI_same _ _ _ _⟩
theorem maxp_r (h : RB d n V) (h1 : K1 d n) (h3 : K3 d n) : Pt (fun p : Int32 × sv_V => IB p.1 (K7 d n) ∧ (p.1 = 1 → p.2.1 146 12 = nI (glO d n) ∧ p.2.1 146 19 = nI (deO d n))) (F_X12_maxp N V) := by
  have hn := h.1.1
  have bl := bO_le (t := 1835104368) h3
  unfold F_X12_maxp
  refine pt_bb (beginOf_r (t := 1835104368) h h1 (by decide)) ?_
  rintro _ rfl
  dsimp only
  rw [show nI (bO d n 1835104368) + (4 : Int32) = nI (bO d n 1835104368 + 4) from nI_add _ 4, u2_r h.1 (by omega), Option.bind_some]
  dsimp only
  refine pt_let fun W1 e1 => ?_
  have h1' : RB d n W1 := by rw [e1]; exact RB_I h (by omega)
  rw [show nI (bO d n 1835104368) + (14 : Int32) = nI (bO d n 1835104368 + 14) from nI_add _ 14, u2_r h1'.1 (by omega), Option.bind_some]
  dsimp only
  refine pt_let fun W2 e2 => ?_
  have h2 : RB d n W2 := by rw [e2]; exact RB_I h1' (by omega)
  rw [show nI (bO d n 1835104368) + (16 : Int32) = nI (bO d n 1835104368 + 16) from nI_add _ 16, u2_r h2.1 (by omega), Option.bind_some]
  dsimp only
  refine pt_let fun W3 e3 => ?_
  have h3' : RB d n W3 := by rw [e3]; exact RB_I h2 (by omega)
  rw [show nI (bO d n 1835104368) + (18 : Int32) = nI (bO d n 1835104368 + 18) from nI_add _ 18, u2_r h3'.1 (by omega), Option.bind_some]
  dsimp only
  refine pt_let fun W4 e4 => ?_
  have h4 : RB d n W4 := by rw [e4]; exact RB_I h3' (by omega)
  rw [show nI (bO d n 1835104368) + (20 : Int32) = nI (bO d n 1835104368 + 20) from nI_add _ 20, u2_r h4.1 (by omega), Option.bind_some]
  dsimp only
  refine pt_let fun W5 e5 => ?_
  have h5 : RB d n W5 := by rw [e5]; exact RB_I h4 (by omega)
  rw [show nI (bO d n 1835104368) + (22 : Int32) = nI (bO d n 1835104368 + 22) from nI_add _ 22, u2_r h5.1 (by omega), Option.bind_some]
  dsimp only
  refine pt_let fun W6 e6 => ?_
  have h6 : RB d n W6 := by rw [e6]; exact RB_I h5 (by omega)
  rw [show nI (bO d n 1835104368) + (24 : Int32) = nI (bO d n 1835104368 + 24) from nI_add _ 24, u2_r h6.1 (by omega), Option.bind_some]
  dsimp only
  refine pt_let fun W7 e7 => ?_
  have h7 : RB d n W7 := by rw [e7]; exact RB_I h6 (by omega)
  rw [show nI (bO d n 1835104368) + (30 : Int32) = nI (bO d n 1835104368 + 30) from nI_add _ 30, u2_r h7.1 (by omega), Option.bind_some]
  dsimp only
  refine pt_let fun W8 e8 => ?_
  have h8 : RB d n W8 := by rw [e8]; exact RB_I h7 (by omega)
  have r12 : W8.1 146 12 = nI (glO d n) := by rw [e8, e7, e6, e5, e4, e3, e2, e1]; rfl
  have r13 : W8.1 146 13 = nI (g2 d n (bO d n 1835104368 + 14)) := by rw [e8, e7, e6, e5, e4, e3, e2]; rfl
  have r14 : W8.1 146 14 = nI (g2 d n (bO d n 1835104368 + 16)) := by rw [e8, e7, e6, e5, e4, e3]; rfl
  have r15 : W8.1 146 15 = nI (g2 d n (bO d n 1835104368 + 18)) := by rw [e8, e7, e6, e5, e4]; rfl
  have r16 : W8.1 146 16 = nI (g2 d n (bO d n 1835104368 + 20)) := by rw [e8, e7, e6, e5]; rfl
  have r17 : W8.1 146 17 = nI (g2 d n (bO d n 1835104368 + 22)) := by rw [e8, e7, e6]; rfl
  have r18 : W8.1 146 18 = nI (g2 d n (bO d n 1835104368 + 24)) := by rw [e8, e7]; rfl
  have r19 : W8.1 146 19 = nI (deO d n) := by rw [e8]; rfl
  clear e1 e2 e3 e4 e5 e6 e7 e8
  have ag : glO d n < 65536 := g2_lt
  have ad : deO d n < 65536 := g2_lt
  have a14 := g2_lt (d := d) (n := n) (P := bO d n 1835104368 + 14)
  have a16 := g2_lt (d := d) (n := n) (P := bO d n 1835104368 + 16)
  have a18 := g2_lt (d := d) (n := n) (P := bO d n 1835104368 + 18)
  have a20 := g2_lt (d := d) (n := n) (P := bO d n 1835104368 + 20)
  have a22 := g2_lt (d := d) (n := n) (P := bO d n 1835104368 + 22)
  have a24 := g2_lt (d := d) (n := n) (P := bO d n 1835104368 + 24)
  have a0 := g4_lt (d := d) (n := n) (P := bO d n 1835104368)
  have no : ¬ K7 d n → Pt (fun p : Int32 × sv_V => IB p.1 (K7 d n) ∧ (p.1 = 1 → p.2.1 146 12 = nI (glO d n) ∧ p.2.1 146 19 = nI (deO d n))) (B_X12_maxp_249 N W8) := fun z => by
    unfold B_X12_maxp_249 B_X12_maxp_250
    exact pt_ite (fun _ => pt_some ⟨Or.inr ⟨rfl, z⟩, fun e => absurd e (show ¬ (0 : Int32) = 1 by decide)⟩) (fun q => absurd rfl q)
  refine pt_bb (lengthOf_r (t := 1835104368) h8 h1 (by decide)) ?_
  rintro _ rfl
  dsimp only
  refine pt_ite (fun q1 => ?_) (fun q1 => no (fun z => q1 (by rw [z.1]; rfl)))
  have l32 : lO d n 1835104368 = 32 := (nI_eq (b := 32) (by omega) (by decide)).mp q1
  rw [u4_r h8.1 (by omega), Option.bind_some]
  dsimp only
  refine pt_ite (fun q2 => ?_) (fun q2 => no (fun z => q2 (lgc_eq.mpr (by rw [z.2.1]; rfl))))
  have k2 := (pk_lEQ (b := 65536) (by omega) (by decide)).mp (lgc_eq.mp q2)
  rw [r12, F_inN (x := 1) (y := 200) (a := 1) (b := 200) (by omega) (by decide) (by decide) rfl rfl, Option.bind_some]
  dsimp only
  refine pt_ite (fun q => no (fun z => (ite_z.mp q) z.2.2.1)) (fun q => ?_)
  have k3 : 1 ≤ glO d n ∧ glO d n ≤ 200 := nnx (fun z => q (ite_z.mpr z))
  rw [r13, F_inN (x := 1) (y := 2) (a := 1) (b := 2) (by omega) (by decide) (by decide) rfl rfl, Option.bind_some]
  dsimp only
  refine pt_ite (fun q => no (fun z => (ite_z.mp q) (z.2.2.2.1 0 (by decide)))) (fun q => ?_)
  have k13 := nnx (fun z => q (ite_z.mpr z))
  rw [r14, F_inN (x := 0) (y := 64) (a := 0) (b := 64) (by omega) (by decide) (by decide) rfl rfl, Option.bind_some]
  dsimp only
  refine pt_ite (fun q => no (fun z => (ite_z.mp q) (z.2.2.2.1 1 (by decide)))) (fun q => ?_)
  have k14 := nnx (fun z => q (ite_z.mpr z))
  rw [r15, F_inN (x := 0) (y := 64) (a := 0) (b := 64) (by omega) (by decide) (by decide) rfl rfl, Option.bind_some]
  dsimp only
  refine pt_ite (fun q => no (fun z => (ite_z.mp q) (z.2.2.2.1 2 (by decide)))) (fun q => ?_)
  have k15 := nnx (fun z => q (ite_z.mpr z))
  rw [r16, F_inN (x := 0) (y := 64) (a := 0) (b := 64) (by omega) (by decide) (by decide) rfl rfl, Option.bind_some]
  dsimp only
  refine pt_ite (fun q => no (fun z => (ite_z.mp q) (z.2.2.2.1 3 (by decide)))) (fun q => ?_)
  have k16 := nnx (fun z => q (ite_z.mpr z))
  rw [r17, F_inN (x := 0) (y := 16) (a := 0) (b := 16) (by omega) (by decide) (by decide) rfl rfl, Option.bind_some]
  dsimp only
  refine pt_ite (fun q => no (fun z => (ite_z.mp q) (z.2.2.2.1 4 (by decide)))) (fun q => ?_)
  have k17 := nnx (fun z => q (ite_z.mpr z))
  rw [r18, F_inN (x := 0) (y := 256) (a := 0) (b := 256) (by omega) (by decide) (by decide) rfl rfl, Option.bind_some]
  dsimp only
  refine pt_ite (fun q => no (fun z => (ite_z.mp q) (z.2.2.2.1 5 (by decide)))) (fun q => ?_)
  have k18 := nnx (fun z => q (ite_z.mpr z))
  rw [r19, F_inN (x := 0) (y := 4) (a := 0) (b := 4) (by omega) (by decide) (by decide) rfl rfl, Option.bind_some]
  dsimp only
  refine pt_ite (fun q => no (fun z => (ite_z.mp q) (z.2.2.2.1 6 (by decide)))) (fun q => ?_)
  have k19 := nnx (fun z => q (ite_z.mpr z))
  have all : ∀ k, k < 7 → lll k ≤ g2 d n (bO d n 1835104368 + lpl k) ∧ g2 d n (bO d n 1835104368 + lpl k) ≤ lml k := by
    intro k hk
    match k, hk with
    | 0, _ => exact k13
    | 1, _ => exact k14
    | 2, _ => exact k15
    | 3, _ => exact k16
    | 4, _ => exact k17
    | 5, _ => exact k18
    | 6, _ => exact k19
    | k + 7, hk => omega
  unfold B_X12_maxp_250
  have yes : (g2 d n (bO d n 1835104368 + 14) = 2 ∨ g2 d n (bO d n 1835104368 + 16) = 0) → Pt (fun p : Int32 × sv_V => IB p.1 (K7 d n) ∧ (p.1 = 1 → p.2.1 146 12 = nI (glO d n) ∧ p.2.1 146 19 = nI (deO d n))) (B_X12_maxp_270 N W8) := fun z => pt_some ⟨Or.inl ⟨rfl, l32, k2, k3, all, z⟩, fun _ => ⟨r12, r19⟩⟩
  rw [r13, r14]
  refine pt_ite (fun q => absurd q (show ¬ (1 : Int32) = 0 by decide)) (fun _ => pt_ite (fun q7 => yes (Or.inl ((nI_eq (b := 2) (by omega) (by decide)).mp q7))) (fun q7 => pt_ite (fun q8 => yes (Or.inr ((nI_eq (b := 0) (by omega) (by decide)).mp q8))) (fun q8 => pt_some ⟨Or.inr ⟨rfl, fun z => ?_⟩, fun e => absurd e (show ¬ (0 : Int32) = 1 by decide)⟩)))
  rcases z.2.2.2.2 with z | z
  · exact q7 (by rw [z]; rfl)
  · exact q8 (by rw [z]; rfl)
theorem hhea_c (h : CB d n V) (h3 : K3 d n) (hg : V.1 2 7 = nI (glO d n)) : Pt (fun p : Int32 × sv_V => IB p.1 (K8 d n) ∧ CB d n p.2 ∧ (p.1 = 1 → p.2.1 2 8 = nI (meO d n))) (F_X4_hheaHolds V) := by
  have hn := h.1.1
  have bl := bO_le (t := 1751672161) h3
  have eb : V.1 4 (3 : Int32).toNatClampNeg = nI (bO d n 1751672161) := (h.2.2.2 3 (by decide)).1
  unfold F_X4_hheaHolds
  rw [eb, show nI (bO d n 1751672161) + (34 : Int32) = nI (bO d n 1751672161 + 34) from nI_add _ 34, u2_c h.1 (by omega), Option.bind_some]
  dsimp only
  refine pt_let fun V4 e4 => ?_
  have h4 : CB d n V4 := by rw [e4]; exact CB_I h (by omega)
  have el : V4.1 5 (3 : Int32).toNatClampNeg = nI (lO d n 1751672161) := (h4.2.2.2 3 (by decide)).2
  have no : ¬ K8 d n → Pt (fun p : Int32 × sv_V => IB p.1 (K8 d n) ∧ CB d n p.2 ∧ (p.1 = 1 → p.2.1 2 8 = nI (meO d n))) (some (0, V4)) := fun z => pt_some ⟨Or.inr ⟨rfl, z⟩, h4, fun e => absurd e (show ¬ (0 : Int32) = 1 by decide)⟩
  rw [el]
  refine pt_ite (fun q1 => ?_) (fun q1 => no (fun z => q1 (by rw [z.1]; rfl)))
  have l36 : lO d n 1751672161 = 36 := (nI_eq (b := 36) (by omega) (by decide)).mp q1
  have em : V4.1 2 8 = nI (meO d n) := by
    rw [e4, vI_same, c2_g (by omega)]
    rfl
  have eg : V4.1 2 7 = nI (glO d n) := by
    rw [e4]
    exact hg
  have ag : glO d n < 65536 := g2_lt
  have am : meO d n < 65536 := g2_lt
  rw [em, eg]
  refine pt_ite (fun q2 => no (fun z => ?_)) (fun q2 => pt_ite (fun q3 => no (fun z => ?_)) (fun q3 => pt_some ⟨Or.inl ⟨rfl, l36, nI_nlt2 (b := 1) q2 (by decide), nI_nlt2 q3 (by omega)⟩, h4, fun _ => em⟩))
  · have := (nI_ltI (b := 1) (by omega) (by decide)).mp q2
    have := z.2.1
    omega
  · have := (nI_ltI (by omega) (by omega)).mp q3
    have := z.2.2
    omega
theorem hmtx_c (h : CB d n V) (h3 : K3 d n) (h7 : glO d n ≤ 200) (h8 : meO d n ≤ glO d n) (hg : V.1 2 7 = nI (glO d n)) (hm : V.1 2 8 = nI (meO d n)) : Pt (fun p : Int32 × sv_V => IB p.1 (K9 d n) ∧ p.2 = V) (F_X4_hmtxHolds V) := by
  have hn := h.1.1
  have bl := bO_le (t := 1752003704) h3
  have el : V.1 5 (4 : Int32).toNatClampNeg = nI (lO d n 1752003704) := (h.2.2.2 4 (by decide)).2
  unfold F_X4_hmtxHolds
  rw [el, hg, hm, show (4 : Int32) * nI (meO d n) = nI (4 * meO d n) from pk_mul 4 _, pk_sub h8, show (2 : Int32) * nI (glO d n - meO d n) = nI (2 * (glO d n - meO d n)) from pk_mul 2 _, nI_add]
  refine pt_ite (fun q => pt_some ⟨Or.inr ⟨rfl, fun z => ?_⟩, rfl⟩) (fun q => pt_some ⟨Or.inl ⟨rfl, nI_nlt2 q (by omega)⟩, rfl⟩)
  have := (nI_ltI (by omega) (by omega)).mp q
  unfold K9 at z
  omega
end D7
end
