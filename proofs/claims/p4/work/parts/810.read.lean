/-! WHAT LOAD READS: the font's bytes as natural numbers, in the class and in the reference -/
/-- byte P of a font of n bytes d, 0 beyond it -/
def g1 (d : Nat → Int32) (n P : Nat) : Nat := if P < n then (d P).toBitVec.toNat % 256 else 0
def g2 (d : Nat → Int32) (n P : Nat) : Nat := 256 * g1 d n P + g1 d n (P + 1)
def g4 (d : Nat → Int32) (n P : Nat) : Nat := 65536 * g2 d n P + g2 d n (P + 2)
/-- the class's two bytes: 0 unless both are there -/
def c2 (d : Nat → Int32) (n P : Nat) : Nat := if P + 2 ≤ n then g2 d n P else 0
def c4 (d : Nat → Int32) (n P : Nat) : Nat := 65536 * c2 d n P + c2 d n (P + 2)
/-- a number of two bytes with a sign -/
def s16 (m : Nat) : Int32 := (nI m).toInt16.toInt32
theorem g1_lt {d : Nat → Int32} {n P : Nat} : g1 d n P < 256 := by
  unfold g1
  split
  · exact Nat.mod_lt _ (by decide)
  · decide
theorem g2_lt {d : Nat → Int32} {n P : Nat} : g2 d n P < 65536 := by
  have h1 := g1_lt (d := d) (n := n) (P := P)
  have h2 := g1_lt (d := d) (n := n) (P := P + 1)
  unfold g2
  omega
theorem g4_lt {d : Nat → Int32} {n P : Nat} : g4 d n P < 4294967296 := by
  have h1 := g2_lt (d := d) (n := n) (P := P)
  have h2 := g2_lt (d := d) (n := n) (P := P + 2)
  unfold g4
  omega
theorem c2_lt {d : Nat → Int32} {n P : Nat} : c2 d n P < 65536 := by
  have h1 := g2_lt (d := d) (n := n) (P := P)
  unfold c2
  split <;> omega
theorem c2_g {d : Nat → Int32} {n P : Nat} (h : P + 2 ≤ n) : c2 d n P = g2 d n P := if_pos h
theorem c4_g {d : Nat → Int32} {n P : Nat} (h : P + 4 ≤ n) : c4 d n P = g4 d n P := by
  unfold c4 g4
  rw [c2_g (by omega), c2_g (by omega)]
def FC (d : Nat → Int32) (n : Nat) (V : sv_V) : Prop := n ≤ 12000 ∧ V.1 2 1 = nI n ∧ ∀ j, j < n → V.1 3 j = d j
def FR (d : Nat → Int32) (n : Nat) (V : sv_V) : Prop := n ≤ 12000 ∧ V.1 146 3 = nI n ∧ ∀ j, j < n → V.1 148 j = d j
/-- the bytes are bytes -/
def DB (d : Nat → Int32) : Prop := ∀ j, (d j).toInt8.toInt32 = d j
theorem or8 {a b : Nat} (ha : a < 256) (hb : b < 256) : (nI a <<< ((8 : Int32) &&& 31)) ||| nI b = nI (256 * a + b) := by
  rw [pk_shlN ((8 : Int32) &&& 31) 8 (by decide) (by omega)]
  refine Int32.toBitVec.inj (BitVec.eq_of_toNat_eq ?_)
  rw [Int32.toBitVec_or, BitVec.toNat_or, pk_tn (by omega), pk_tn (by omega), pk_tn (by omega)]
  have h := Nat.two_pow_add_eq_or_of_lt (i := 8) (b := b) hb a
  rw [Nat.mul_comm a (2 ^ 8), ← h]
theorem lN_tn {n : Nat} (h : n < 2 ^ 64) : (lN n).toBitVec.toNat = n := Nat.mod_eq_of_lt h
theorem or16 {a b : Nat} (ha : a < 65536) (hb : b < 65536) : ((nI a).toInt64 <<< ((16 : Int32).toInt64 &&& 63)) ||| (nI b).toInt64 = lN (65536 * a + b) := by
  have e : ∀ x : Int64, x <<< ((16 : Int32).toInt64 &&& 63) = x * 65536 := fun x => by
    refine Int64.toBitVec.inj ?_
    rw [Int64.toBitVec_shiftLeft, Int64.toBitVec_mul]
    show x.toBitVec <<< (16 : Nat) = _
    rw [BitVec.shiftLeft_eq_mul_twoPow]
    rfl
  rw [e, nI_l (by omega), nI_l (by omega), show lN a * 65536 = lN (a * 65536) from lN_mul a 65536]
  refine Int64.toBitVec.inj (BitVec.eq_of_toNat_eq ?_)
  rw [Int64.toBitVec_or, BitVec.toNat_or, lN_tn (by omega), lN_tn (by omega), lN_tn (by omega)]
  have h := Nat.two_pow_add_eq_or_of_lt (i := 16) (b := b) hb a
  rw [show a * 65536 = 2 ^ 16 * a from Nat.mul_comm a 65536, ← h]
section RD
variable {d : Nat → Int32} {n P : Nat} {V : sv_V}
theorem u1_c (h : FC d n V) (hP : P < 2 ^ 31) : F_X2_u1 (nI P) V = some (nI (g1 d n P), V) := by
  obtain ⟨h1, h2, h3⟩ := h
  unfold F_X2_u1 g1
  rw [if_neg (nI_pos hP), h2]
  by_cases q : P < n
  · rw [if_neg (nI_ge q (by omega)), if_pos (sx_in_nI (by omega) (by decide)), nI_clamp hP, h3 P q, pk_and _ 8 rfl, if_pos q]
  · rw [if_pos (nI_le (by omega) hP), if_neg q]
    rfl
theorem u1_r (h : FR d n V) (hP : P < 2 ^ 31) : F_X12_u1 (nI P) V = some (nI (g1 d n P), V) := by
  obtain ⟨h1, h2, h3⟩ := h
  unfold F_X12_u1 g1
  rw [if_neg (nI_pos hP), h2]
  by_cases q : P < n
  · rw [if_neg (nI_ge q (by omega)), if_pos (sx_in_nI (by omega) (by decide)), nI_clamp hP, h3 P q, pk_and _ 8 rfl, if_pos q]
  · rw [if_pos (nI_le (by omega) hP), if_neg q]
    rfl
theorem u2_r (h : FR d n V) (hP : P + 1 < 2 ^ 31) : F_X12_u2 (nI P) V = some (nI (g2 d n P), V) := by
  unfold F_X12_u2
  rw [u1_r h (by omega), Option.bind_some]
  dsimp only
  rw [nI_1, u1_r h hP, Option.bind_some]
  dsimp only
  rw [or8 g1_lt g1_lt]
  rfl
theorem u4_r (h : FR d n V) (hP : P + 3 < 2 ^ 31) : F_X12_u4 (nI P) V = some (lN (g4 d n P), V) := by
  unfold F_X12_u4
  rw [u2_r h (by omega), Option.bind_some]
  dsimp only
  rw [show nI P + (2 : Int32) = nI (P + 2) from nI_add P 2, u2_r h (by omega), Option.bind_some]
  dsimp only
  rw [or16 g2_lt g2_lt]
  rfl
theorem s2_r (h : FR d n V) (hP : P + 1 < 2 ^ 31) : F_X12_s2 (nI P) V = some (s16 (g2 d n P), V) := by
  unfold F_X12_s2
  rw [u2_r h hP, Option.bind_some]
  rfl
theorem s1_r (h : FR d n V) (hP : P < 2 ^ 31) : F_X12_s1 (nI P) V = some ((nI (g1 d n P)).toInt8.toInt32, V) := by
  unfold F_X12_s1
  rw [u1_r h hP, Option.bind_some]
theorem u2_c (h : FC d n V) (hP : P + 2 < 2 ^ 31) : F_X2_u2 (nI P) V = some (nI (c2 d n P), V) := by
  obtain ⟨h1, h2, h3⟩ := h
  unfold F_X2_u2 c2
  rw [if_neg (nI_pos (by omega)), h2, show nI P + (2 : Int32) = nI (P + 2) from nI_add P 2, nI_1]
  by_cases q : P + 2 ≤ n
  · rw [if_pos (nI_le q (by omega)), if_pos (sx_in_nI (by omega) (by decide)), if_pos (sx_in_nI (by omega) (by decide)), nI_clamp (by omega), nI_clamp (by omega), h3 P (by omega), h3 (P + 1) (by omega), pk_and (d P) 8 rfl, pk_and (d (P + 1)) 8 rfl, if_pos q, or8 (Nat.mod_lt _ (by decide)) (Nat.mod_lt _ (by decide))]
    unfold g2 g1
    rw [if_pos (by omega), if_pos (by omega)]
  · rw [if_neg (nI_ge (by omega) (by omega)), if_neg q]
    rfl
theorem u4_c (h : FC d n V) (hP : P + 4 < 2 ^ 31) : F_X2_u4 (nI P) V = some (lN (c4 d n P), V) := by
  unfold F_X2_u4
  rw [u2_c h (by omega), Option.bind_some]
  dsimp only
  rw [show nI P + (2 : Int32) = nI (P + 2) from nI_add P 2, u2_c h (by omega), Option.bind_some]
  dsimp only
  rw [or16 c2_lt c2_lt]
  rfl
theorem s16_t {m : Nat} (h : m < 65536) : (s16 m).toInt = if m < 32768 then (m : Int) else m - 65536 := by
  unfold s16
  rw [Int16.toInt_toInt32, Int32.toInt_toInt16, nI_toInt (by omega), Int.bmod_def]
  split <;> split <;> omega
theorem s16_or {x : Int32} {b : Nat} (hx : x.toInt8.toInt32 = x) (hb : b < 256) : (x <<< ((8 : Int32) &&& 31)) ||| nI b = s16 (256 * (x.toBitVec.toNat % 256) + b) := by
  have hl := x.toBitVec.isLt
  have hr : x.toBitVec.toNat < 128 ∨ 4294967168 ≤ x.toBitVec.toNat := by
    have r : rg x (-128) 127 := by rw [← hx]; exact rg_b8
    obtain ⟨r1, r2⟩ := r
    have e : x.toInt = x.toBitVec.toInt := rfl
    rw [e, BitVec.toInt_eq_toNat_cond] at r1 r2
    split at r1 <;> omega
  refine Int32.toInt_inj.mp ?_
  rw [s16_t (by omega)]
  have e : ((x <<< ((8 : Int32) &&& 31)) ||| nI b).toBitVec.toNat = 2 ^ 8 * (x.toBitVec.toNat % 2 ^ 24) + b := by
    rw [Int32.toBitVec_or, BitVec.toNat_or, pk_shl _ _ 8 (by decide), pk_tn (by omega), show x.toBitVec.toNat * 2 ^ 8 % 2 ^ 32 = 2 ^ 8 * (x.toBitVec.toNat % 2 ^ 24) by omega]
    exact (Nat.two_pow_add_eq_or_of_lt (i := 8) (b := b) hb _).symm
  show ((x <<< ((8 : Int32) &&& 31)) ||| nI b).toBitVec.toInt = _
  rw [BitVec.toInt_eq_toNat_cond, e]
  split <;> split <;> omega
theorem s2_c (hd : DB d) (h : FC d n V) (hP : P + 2 < 2 ^ 31) : F_X2_s2 (nI P) V = some (s16 (c2 d n P), V) := by
  obtain ⟨h1, h2, h3⟩ := h
  unfold F_X2_s2 c2
  rw [if_neg (nI_pos (by omega)), h2, show nI P + (2 : Int32) = nI (P + 2) from nI_add P 2, nI_1]
  by_cases q : P + 2 ≤ n
  · rw [if_pos (nI_le q (by omega)), if_pos (sx_in_nI (by omega) (by decide)), if_pos (sx_in_nI (by omega) (by decide)), nI_clamp (by omega), nI_clamp (by omega), h3 P (by omega), h3 (P + 1) (by omega), pk_and (d (P + 1)) 8 rfl, if_pos q, s16_or (hd P) (Nat.mod_lt _ (by decide))]
    unfold g2 g1
    rw [if_pos (by omega), if_pos (by omega)]
  · rw [if_neg (nI_ge (by omega) (by omega)), if_neg q]
    rfl
end RD
