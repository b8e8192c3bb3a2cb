/-! DECODING BY ONE NUMBER: a method's bytes as one natural number -/
def bF (L : List UInt8) : Nat := match L with
  | [] => 0
  | b :: r => b.toNat + 256 * bF r
/-- byte p -/
def bN (n p : Nat) : Nat := (n >>> (8 * p)) % 256
theorem bF_at : ∀ (L : List UInt8) (p : Nat) (h : p < L.length), bN (bF L) p = (L[p]).toNat := by
  intro L
  induction L with
  | nil => intro p h; exact absurd h (Nat.not_lt_zero _)
  | cons b r ih =>
    intro p h
    have hb : b.toNat < 256 := b.toNat_lt
    match p with
    | 0 =>
      show (b.toNat + 256 * bF r) >>> (8 * 0) % 256 = b.toNat
      rw [Nat.mul_zero, Nat.shiftRight_zero]
      omega
    | p + 1 =>
      have := ih p (by simpa using h)
      show (b.toNat + 256 * bF r) >>> (8 * (p + 1)) % 256 = _
      rw [show 8 * (p + 1) = 8 + 8 * p by omega, Nat.shiftRight_add, show (b.toNat + 256 * bF r) >>> 8 = bF r by rw [Nat.shiftRight_eq_div_pow]; omega]
      exact this
/-- the bytes c are the number n, z of them -/
def CK (c : ByteArray) (n z : Nat) : Prop := c.size = z ∧ bF c.data.toList = n
theorem CK_at {c : ByteArray} {n z p : Nat} (k : CK c n z) (h : p < z) : ∃ hp : p < c.size, (c[p]).toNat = bN n p := by
  obtain ⟨k1, k2⟩ := k
  have hp : p < c.size := by omega
  refine ⟨hp, ?_⟩
  rw [← k2, bF_at c.data.toList p (by rw [Array.length_toList]; exact hp)]
  rfl
theorem u1_run {c : ByteArray} {n z p : Nat} (k : CK c n z) (h : p < z) : (Reader.u1 : Reader DecodeError Nat) c p = .ok (bN n p, p + 1) := by
  obtain ⟨hp, e⟩ := CK_at k h
  show (if h : p < c.size then _ else _ : Reader DecodeError Nat) c p = _
  rw [dif_pos hp]
  show Except.ok ((c[p]).toNat, p + 1) = _
  rw [e]
theorem u2_run {c : ByteArray} {n z p : Nat} (k : CK c n z) (h : p + 1 < z) : (Reader.u2 : Reader DecodeError Nat) c p = .ok (bN n p * 256 + bN n (p + 1), p + 2) := by
  show Except.bind ((Reader.u1 : Reader DecodeError Nat) c p) _ = _
  rw [u1_run k (by omega)]
  show Except.bind ((Reader.u1 : Reader DecodeError Nat) c (p + 1)) _ = _
  rw [u1_run k h]
  rfl
theorem dl_gen {c : ByteArray} {n z pc : Nat} (k : CK c n z) (h : pc < z) {f : Nat → Decoder Instr} (hf : Decoder.instr pc = (Reader.u1 >>= f)) {i : Instr} {q : Nat} (e : f (bN n pc) c (pc + 1) = .ok (i, q)) : decode c pc = .ok (i, q - pc) := by
  unfold decode Reader.runAt
  rw [hf]
  show Except.bind (Except.bind ((Reader.u1 : Reader DecodeError Nat) c pc) _) _ = _
  rw [u1_run k h]
  show Except.bind (f (bN n pc) c (pc + 1)) _ = _
  rw [e]
  rfl
theorem dl_0 {c : ByteArray} {n z pc op : Nat} (k : CK c n z) {f : Nat → Decoder Instr} (hf : Decoder.instr pc = (Reader.u1 >>= f)) {i : Instr} (h : (bN n pc == op && decide (pc < z)) = true) (e : ∀ s, f op c s = .ok (i, s)) : decode c pc = .ok (i, 1) := by
  rw [Bool.and_eq_true, beq_iff_eq, decide_eq_true_eq] at h
  have := dl_gen k h.2 hf (i := i) (q := pc + 1) (by rw [h.1]; exact e _)
  rw [show pc + 1 - pc = 1 by omega] at this
  exact this
theorem dl_1 {c : ByteArray} {n z pc op v : Nat} (k : CK c n z) {f : Nat → Decoder Instr} (hf : Decoder.instr pc = (Reader.u1 >>= f)) {g : Nat → Instr} (h : (bN n pc == op && bN n (pc + 1) == v && decide (pc + 1 < z)) = true) (e : ∀ s b t, (Reader.u1 : Reader DecodeError Nat) c s = .ok (b, t) → f op c s = .ok (g b, t)) : decode c pc = .ok (g v, 2) := by
  rw [Bool.and_eq_true, Bool.and_eq_true, beq_iff_eq, beq_iff_eq, decide_eq_true_eq] at h
  have := dl_gen k (by omega) hf (i := g v) (q := pc + 2) (by rw [h.1.1]; exact e _ _ _ (by rw [u1_run k h.2, h.1.2]))
  rw [show pc + 2 - pc = 2 by omega] at this
  exact this
theorem dl_2 {c : ByteArray} {n z pc op v : Nat} (k : CK c n z) {f : Nat → Decoder Instr} (hf : Decoder.instr pc = (Reader.u1 >>= f)) {g : Nat → Instr} (h : (bN n pc == op && bN n (pc + 1) * 256 + bN n (pc + 2) == v && decide (pc + 2 < z)) = true) (e : ∀ s b t, (Reader.u2 : Reader DecodeError Nat) c s = .ok (b, t) → f op c s = .ok (g b, t)) : decode c pc = .ok (g v, 3) := by
  rw [Bool.and_eq_true, Bool.and_eq_true, beq_iff_eq, beq_iff_eq, decide_eq_true_eq] at h
  have := dl_gen k (by omega) hf (i := g v) (q := pc + 3) (by rw [h.1.1]; exact e _ _ _ (by rw [u2_run k h.2, h.1.2]))
  rw [show pc + 3 - pc = 3 by omega] at this
  exact this
theorem dl_u1 {A : Type} {c : ByteArray} {s b t : Nat} {g : Nat → A} (h : (Reader.u1 : Reader DecodeError Nat) c s = .ok (b, t)) : (Except.bind ((Reader.u1 : Reader DecodeError Nat) c s) (fun x => Except.ok (g x.1, x.2)) : Except DecodeError (A × Nat)) = .ok (g b, t) := by
  rw [h]
  rfl
theorem dl_u2 {A : Type} {c : ByteArray} {s b t : Nat} {g : Nat → A} (h : (Reader.u2 : Reader DecodeError Nat) c s = .ok (b, t)) : (Except.bind ((Reader.u2 : Reader DecodeError Nat) c s) (fun x => Except.ok (g x.1, x.2)) : Except DecodeError (A × Nat)) = .ok (g b, t) := by
  rw [h]
  rfl
theorem dl_s1 {A : Type} {c : ByteArray} {s b t : Nat} {g : Int → A} (h : (Reader.u1 : Reader DecodeError Nat) c s = .ok (b, t)) : (Except.bind ((Reader.s1 : Reader DecodeError Int) c s) (fun x => Except.ok (g x.1, x.2)) : Except DecodeError (A × Nat)) = .ok (g (Reader.signed 8 b), t) := by
  have e : (Reader.s1 : Reader DecodeError Int) c s = .ok (Reader.signed 8 b, t) := by
    show Except.bind ((Reader.u1 : Reader DecodeError Nat) c s) _ = _
    rw [h]
    rfl
  rw [e]
  rfl
theorem dl_s2 {A : Type} {c : ByteArray} {s b t : Nat} {g : Int → A} (h : (Reader.u2 : Reader DecodeError Nat) c s = .ok (b, t)) : (Except.bind ((Reader.s2 : Reader DecodeError Int) c s) (fun x => Except.ok (g x.1, x.2)) : Except DecodeError (A × Nat)) = .ok (g (Reader.signed 16 b), t) := by
  have e : (Reader.s2 : Reader DecodeError Int) c s = .ok (Reader.signed 16 b, t) := by
    show Except.bind ((Reader.u2 : Reader DecodeError Nat) c s) _ = _
    rw [h]
    rfl
  rw [e]
  rfl
theorem dl_o2 {c : ByteArray} {n z pc : Nat} (k : CK c n z) (h : (bN n pc == 2 && decide (pc < z)) = true) : decode c pc = .ok (.iconst (-1), 1) := dl_0 k rfl h (fun _ => rfl)
theorem dl_o3 {c : ByteArray} {n z pc : Nat} (k : CK c n z) (h : (bN n pc == 3 && decide (pc < z)) = true) : decode c pc = .ok (.iconst 0, 1) := dl_0 k rfl h (fun _ => rfl)
theorem dl_o4 {c : ByteArray} {n z pc : Nat} (k : CK c n z) (h : (bN n pc == 4 && decide (pc < z)) = true) : decode c pc = .ok (.iconst 1, 1) := dl_0 k rfl h (fun _ => rfl)
theorem dl_o5 {c : ByteArray} {n z pc : Nat} (k : CK c n z) (h : (bN n pc == 5 && decide (pc < z)) = true) : decode c pc = .ok (.iconst 2, 1) := dl_0 k rfl h (fun _ => rfl)
theorem dl_o6 {c : ByteArray} {n z pc : Nat} (k : CK c n z) (h : (bN n pc == 6 && decide (pc < z)) = true) : decode c pc = .ok (.iconst 3, 1) := dl_0 k rfl h (fun _ => rfl)
theorem dl_o7 {c : ByteArray} {n z pc : Nat} (k : CK c n z) (h : (bN n pc == 7 && decide (pc < z)) = true) : decode c pc = .ok (.iconst 4, 1) := dl_0 k rfl h (fun _ => rfl)
theorem dl_o8 {c : ByteArray} {n z pc : Nat} (k : CK c n z) (h : (bN n pc == 8 && decide (pc < z)) = true) : decode c pc = .ok (.iconst 5, 1) := dl_0 k rfl h (fun _ => rfl)
theorem dl_o9 {c : ByteArray} {n z pc : Nat} (k : CK c n z) (h : (bN n pc == 9 && decide (pc < z)) = true) : decode c pc = .ok (.lconst 0, 1) := dl_0 k rfl h (fun _ => rfl)
theorem dl_o10 {c : ByteArray} {n z pc : Nat} (k : CK c n z) (h : (bN n pc == 10 && decide (pc < z)) = true) : decode c pc = .ok (.lconst 1, 1) := dl_0 k rfl h (fun _ => rfl)
theorem dl_o26 {c : ByteArray} {n z pc : Nat} (k : CK c n z) (h : (bN n pc == 26 && decide (pc < z)) = true) : decode c pc = .ok (.iload_n 0, 1) := dl_0 k rfl h (fun _ => rfl)
theorem dl_o30 {c : ByteArray} {n z pc : Nat} (k : CK c n z) (h : (bN n pc == 30 && decide (pc < z)) = true) : decode c pc = .ok (.lload_n 0, 1) := dl_0 k rfl h (fun _ => rfl)
theorem dl_o42 {c : ByteArray} {n z pc : Nat} (k : CK c n z) (h : (bN n pc == 42 && decide (pc < z)) = true) : decode c pc = .ok (.aload_n 0, 1) := dl_0 k rfl h (fun _ => rfl)
theorem dl_o59 {c : ByteArray} {n z pc : Nat} (k : CK c n z) (h : (bN n pc == 59 && decide (pc < z)) = true) : decode c pc = .ok (.istore_n 0, 1) := dl_0 k rfl h (fun _ => rfl)
theorem dl_o63 {c : ByteArray} {n z pc : Nat} (k : CK c n z) (h : (bN n pc == 63 && decide (pc < z)) = true) : decode c pc = .ok (.lstore_n 0, 1) := dl_0 k rfl h (fun _ => rfl)
theorem dl_o75 {c : ByteArray} {n z pc : Nat} (k : CK c n z) (h : (bN n pc == 75 && decide (pc < z)) = true) : decode c pc = .ok (.astore_n 0, 1) := dl_0 k rfl h (fun _ => rfl)
theorem dl_o27 {c : ByteArray} {n z pc : Nat} (k : CK c n z) (h : (bN n pc == 27 && decide (pc < z)) = true) : decode c pc = .ok (.iload_n 1, 1) := dl_0 k rfl h (fun _ => rfl)
theorem dl_o31 {c : ByteArray} {n z pc : Nat} (k : CK c n z) (h : (bN n pc == 31 && decide (pc < z)) = true) : decode c pc = .ok (.lload_n 1, 1) := dl_0 k rfl h (fun _ => rfl)
theorem dl_o43 {c : ByteArray} {n z pc : Nat} (k : CK c n z) (h : (bN n pc == 43 && decide (pc < z)) = true) : decode c pc = .ok (.aload_n 1, 1) := dl_0 k rfl h (fun _ => rfl)
theorem dl_o60 {c : ByteArray} {n z pc : Nat} (k : CK c n z) (h : (bN n pc == 60 && decide (pc < z)) = true) : decode c pc = .ok (.istore_n 1, 1) := dl_0 k rfl h (fun _ => rfl)
theorem dl_o64 {c : ByteArray} {n z pc : Nat} (k : CK c n z) (h : (bN n pc == 64 && decide (pc < z)) = true) : decode c pc = .ok (.lstore_n 1, 1) := dl_0 k rfl h (fun _ => rfl)
theorem dl_o76 {c : ByteArray} {n z pc : Nat} (k : CK c n z) (h : (bN n pc == 76 && decide (pc < z)) = true) : decode c pc = .ok (.astore_n 1, 1) := dl_0 k rfl h (fun _ => rfl)
theorem dl_o28 {c : ByteArray} {n z pc : Nat} (k : CK c n z) (h : (bN n pc == 28 && decide (pc < z)) = true) : decode c pc = .ok (.iload_n 2, 1) := dl_0 k rfl h (fun _ => rfl)
theorem dl_o32 {c : ByteArray} {n z pc : Nat} (k : CK c n z) (h : (bN n pc == 32 && decide (pc < z)) = true) : decode c pc = .ok (.lload_n 2, 1) := dl_0 k rfl h (fun _ => rfl)
theorem dl_o44 {c : ByteArray} {n z pc : Nat} (k : CK c n z) (h : (bN n pc == 44 && decide (pc < z)) = true) : decode c pc = .ok (.aload_n 2, 1) := dl_0 k rfl h (fun _ => rfl)
theorem dl_o61 {c : ByteArray} {n z pc : Nat} (k : CK c n z) (h : (bN n pc == 61 && decide (pc < z)) = true) : decode c pc = .ok (.istore_n 2, 1) := dl_0 k rfl h (fun _ => rfl)
theorem dl_o65 {c : ByteArray} {n z pc : Nat} (k : CK c n z) (h : (bN n pc == 65 && decide (pc < z)) = true) : decode c pc = .ok (.lstore_n 2, 1) := dl_0 k rfl h (fun _ => rfl)
theorem dl_o77 {c : ByteArray} {n z pc : Nat} (k : CK c n z) (h : (bN n pc == 77 && decide (pc < z)) = true) : decode c pc = .ok (.astore_n 2, 1) := dl_0 k rfl h (fun _ => rfl)
theorem dl_o29 {c : ByteArray} {n z pc : Nat} (k : CK c n z) (h : (bN n pc == 29 && decide (pc < z)) = true) : decode c pc = .ok (.iload_n 3, 1) := dl_0 k rfl h (fun _ => rfl)
theorem dl_o33 {c : ByteArray} {n z pc : Nat} (k : CK c n z) (h : (bN n pc == 33 && decide (pc < z)) = true) : decode c pc = .ok (.lload_n 3, 1) := dl_0 k rfl h (fun _ => rfl)
theorem dl_o45 {c : ByteArray} {n z pc : Nat} (k : CK c n z) (h : (bN n pc == 45 && decide (pc < z)) = true) : decode c pc = .ok (.aload_n 3, 1) := dl_0 k rfl h (fun _ => rfl)
theorem dl_o62 {c : ByteArray} {n z pc : Nat} (k : CK c n z) (h : (bN n pc == 62 && decide (pc < z)) = true) : decode c pc = .ok (.istore_n 3, 1) := dl_0 k rfl h (fun _ => rfl)
theorem dl_o66 {c : ByteArray} {n z pc : Nat} (k : CK c n z) (h : (bN n pc == 66 && decide (pc < z)) = true) : decode c pc = .ok (.lstore_n 3, 1) := dl_0 k rfl h (fun _ => rfl)
theorem dl_o78 {c : ByteArray} {n z pc : Nat} (k : CK c n z) (h : (bN n pc == 78 && decide (pc < z)) = true) : decode c pc = .ok (.astore_n 3, 1) := dl_0 k rfl h (fun _ => rfl)
theorem dl_o46 {c : ByteArray} {n z pc : Nat} (k : CK c n z) (h : (bN n pc == 46 && decide (pc < z)) = true) : decode c pc = .ok (.iaload, 1) := dl_0 k rfl h (fun _ => rfl)
theorem dl_o47 {c : ByteArray} {n z pc : Nat} (k : CK c n z) (h : (bN n pc == 47 && decide (pc < z)) = true) : decode c pc = .ok (.laload, 1) := dl_0 k rfl h (fun _ => rfl)
theorem dl_o50 {c : ByteArray} {n z pc : Nat} (k : CK c n z) (h : (bN n pc == 50 && decide (pc < z)) = true) : decode c pc = .ok (.aaload, 1) := dl_0 k rfl h (fun _ => rfl)
theorem dl_o51 {c : ByteArray} {n z pc : Nat} (k : CK c n z) (h : (bN n pc == 51 && decide (pc < z)) = true) : decode c pc = .ok (.baload, 1) := dl_0 k rfl h (fun _ => rfl)
theorem dl_o79 {c : ByteArray} {n z pc : Nat} (k : CK c n z) (h : (bN n pc == 79 && decide (pc < z)) = true) : decode c pc = .ok (.iastore, 1) := dl_0 k rfl h (fun _ => rfl)
theorem dl_o84 {c : ByteArray} {n z pc : Nat} (k : CK c n z) (h : (bN n pc == 84 && decide (pc < z)) = true) : decode c pc = .ok (.bastore, 1) := dl_0 k rfl h (fun _ => rfl)
theorem dl_o87 {c : ByteArray} {n z pc : Nat} (k : CK c n z) (h : (bN n pc == 87 && decide (pc < z)) = true) : decode c pc = .ok (.pop, 1) := dl_0 k rfl h (fun _ => rfl)
theorem dl_o89 {c : ByteArray} {n z pc : Nat} (k : CK c n z) (h : (bN n pc == 89 && decide (pc < z)) = true) : decode c pc = .ok (.dup, 1) := dl_0 k rfl h (fun _ => rfl)
theorem dl_o96 {c : ByteArray} {n z pc : Nat} (k : CK c n z) (h : (bN n pc == 96 && decide (pc < z)) = true) : decode c pc = .ok (.iadd, 1) := dl_0 k rfl h (fun _ => rfl)
theorem dl_o97 {c : ByteArray} {n z pc : Nat} (k : CK c n z) (h : (bN n pc == 97 && decide (pc < z)) = true) : decode c pc = .ok (.ladd, 1) := dl_0 k rfl h (fun _ => rfl)
theorem dl_o100 {c : ByteArray} {n z pc : Nat} (k : CK c n z) (h : (bN n pc == 100 && decide (pc < z)) = true) : decode c pc = .ok (.isub, 1) := dl_0 k rfl h (fun _ => rfl)
theorem dl_o101 {c : ByteArray} {n z pc : Nat} (k : CK c n z) (h : (bN n pc == 101 && decide (pc < z)) = true) : decode c pc = .ok (.lsub, 1) := dl_0 k rfl h (fun _ => rfl)
theorem dl_o104 {c : ByteArray} {n z pc : Nat} (k : CK c n z) (h : (bN n pc == 104 && decide (pc < z)) = true) : decode c pc = .ok (.imul, 1) := dl_0 k rfl h (fun _ => rfl)
theorem dl_o105 {c : ByteArray} {n z pc : Nat} (k : CK c n z) (h : (bN n pc == 105 && decide (pc < z)) = true) : decode c pc = .ok (.lmul, 1) := dl_0 k rfl h (fun _ => rfl)
theorem dl_o117 {c : ByteArray} {n z pc : Nat} (k : CK c n z) (h : (bN n pc == 117 && decide (pc < z)) = true) : decode c pc = .ok (.lneg, 1) := dl_0 k rfl h (fun _ => rfl)
theorem dl_o126 {c : ByteArray} {n z pc : Nat} (k : CK c n z) (h : (bN n pc == 126 && decide (pc < z)) = true) : decode c pc = .ok (.iand, 1) := dl_0 k rfl h (fun _ => rfl)
theorem dl_o133 {c : ByteArray} {n z pc : Nat} (k : CK c n z) (h : (bN n pc == 133 && decide (pc < z)) = true) : decode c pc = .ok (.i2l, 1) := dl_0 k rfl h (fun _ => rfl)
theorem dl_o136 {c : ByteArray} {n z pc : Nat} (k : CK c n z) (h : (bN n pc == 136 && decide (pc < z)) = true) : decode c pc = .ok (.l2i, 1) := dl_0 k rfl h (fun _ => rfl)
theorem dl_o148 {c : ByteArray} {n z pc : Nat} (k : CK c n z) (h : (bN n pc == 148 && decide (pc < z)) = true) : decode c pc = .ok (.lcmp, 1) := dl_0 k rfl h (fun _ => rfl)
theorem dl_o172 {c : ByteArray} {n z pc : Nat} (k : CK c n z) (h : (bN n pc == 172 && decide (pc < z)) = true) : decode c pc = .ok (.ireturn, 1) := dl_0 k rfl h (fun _ => rfl)
theorem dl_o173 {c : ByteArray} {n z pc : Nat} (k : CK c n z) (h : (bN n pc == 173 && decide (pc < z)) = true) : decode c pc = .ok (.lreturn, 1) := dl_0 k rfl h (fun _ => rfl)
theorem dl_o177 {c : ByteArray} {n z pc : Nat} (k : CK c n z) (h : (bN n pc == 177 && decide (pc < z)) = true) : decode c pc = .ok (.return_, 1) := dl_0 k rfl h (fun _ => rfl)
theorem dl_o92 {c : ByteArray} {n z pc : Nat} (k : CK c n z) (h : (bN n pc == 92 && decide (pc < z)) = true) : decode c pc = .ok (.dup2, 1) := dl_0 k rfl h (fun _ => rfl)
theorem dl_o108 {c : ByteArray} {n z pc : Nat} (k : CK c n z) (h : (bN n pc == 108 && decide (pc < z)) = true) : decode c pc = .ok (.idiv, 1) := dl_0 k rfl h (fun _ => rfl)
theorem dl_o127 {c : ByteArray} {n z pc : Nat} (k : CK c n z) (h : (bN n pc == 127 && decide (pc < z)) = true) : decode c pc = .ok (.land, 1) := dl_0 k rfl h (fun _ => rfl)
theorem dl_o112 {c : ByteArray} {n z pc : Nat} (k : CK c n z) (h : (bN n pc == 112 && decide (pc < z)) = true) : decode c pc = .ok (.irem, 1) := dl_0 k rfl h (fun _ => rfl)
theorem dl_o120 {c : ByteArray} {n z pc : Nat} (k : CK c n z) (h : (bN n pc == 120 && decide (pc < z)) = true) : decode c pc = .ok (.ishl, 1) := dl_0 k rfl h (fun _ => rfl)
theorem dl_o116 {c : ByteArray} {n z pc : Nat} (k : CK c n z) (h : (bN n pc == 116 && decide (pc < z)) = true) : decode c pc = .ok (.ineg, 1) := dl_0 k rfl h (fun _ => rfl)
theorem dl_o190 {c : ByteArray} {n z pc : Nat} (k : CK c n z) (h : (bN n pc == 190 && decide (pc < z)) = true) : decode c pc = .ok (.arraylength, 1) := dl_0 k rfl h (fun _ => rfl)
theorem dl_o128 {c : ByteArray} {n z pc : Nat} (k : CK c n z) (h : (bN n pc == 128 && decide (pc < z)) = true) : decode c pc = .ok (.ior, 1) := dl_0 k rfl h (fun _ => rfl)
theorem dl_o109 {c : ByteArray} {n z pc : Nat} (k : CK c n z) (h : (bN n pc == 109 && decide (pc < z)) = true) : decode c pc = .ok (.ldiv, 1) := dl_0 k rfl h (fun _ => rfl)
theorem dl_o122 {c : ByteArray} {n z pc : Nat} (k : CK c n z) (h : (bN n pc == 122 && decide (pc < z)) = true) : decode c pc = .ok (.ishr, 1) := dl_0 k rfl h (fun _ => rfl)
theorem dl_o147 {c : ByteArray} {n z pc : Nat} (k : CK c n z) (h : (bN n pc == 147 && decide (pc < z)) = true) : decode c pc = .ok (.i2s, 1) := dl_0 k rfl h (fun _ => rfl)
theorem dl_o121 {c : ByteArray} {n z pc : Nat} (k : CK c n z) (h : (bN n pc == 121 && decide (pc < z)) = true) : decode c pc = .ok (.lshl, 1) := dl_0 k rfl h (fun _ => rfl)
theorem dl_o145 {c : ByteArray} {n z pc : Nat} (k : CK c n z) (h : (bN n pc == 145 && decide (pc < z)) = true) : decode c pc = .ok (.i2b, 1) := dl_0 k rfl h (fun _ => rfl)
theorem dl_o113 {c : ByteArray} {n z pc : Nat} (k : CK c n z) (h : (bN n pc == 113 && decide (pc < z)) = true) : decode c pc = .ok (.lrem, 1) := dl_0 k rfl h (fun _ => rfl)
theorem dl_o129 {c : ByteArray} {n z pc : Nat} (k : CK c n z) (h : (bN n pc == 129 && decide (pc < z)) = true) : decode c pc = .ok (.lor, 1) := dl_0 k rfl h (fun _ => rfl)
theorem dl_o80 {c : ByteArray} {n z pc : Nat} (k : CK c n z) (h : (bN n pc == 80 && decide (pc < z)) = true) : decode c pc = .ok (.lastore, 1) := dl_0 k rfl h (fun _ => rfl)
theorem dl_o88 {c : ByteArray} {n z pc : Nat} (k : CK c n z) (h : (bN n pc == 88 && decide (pc < z)) = true) : decode c pc = .ok (.pop2, 1) := dl_0 k rfl h (fun _ => rfl)
theorem dl_o123 {c : ByteArray} {n z pc : Nat} (k : CK c n z) (h : (bN n pc == 123 && decide (pc < z)) = true) : decode c pc = .ok (.lshr, 1) := dl_0 k rfl h (fun _ => rfl)
theorem dl_o130 {c : ByteArray} {n z pc : Nat} (k : CK c n z) (h : (bN n pc == 130 && decide (pc < z)) = true) : decode c pc = .ok (.ixor, 1) := dl_0 k rfl h (fun _ => rfl)
theorem dl_o131 {c : ByteArray} {n z pc : Nat} (k : CK c n z) (h : (bN n pc == 131 && decide (pc < z)) = true) : decode c pc = .ok (.lxor, 1) := dl_0 k rfl h (fun _ => rfl)
theorem dl_o21 {c : ByteArray} {n z pc : Nat} (k : CK c n z) {v : Nat} (h : (bN n pc == 21 && bN n (pc + 1) == v && decide (pc + 1 < z)) = true) : decode c pc = .ok (.iload v, 2) := dl_1 k rfl h (g := fun x => .iload x) (fun _ _ _ e => dl_u1 (g := fun x => Instr.iload x) e)
theorem dl_o22 {c : ByteArray} {n z pc : Nat} (k : CK c n z) {v : Nat} (h : (bN n pc == 22 && bN n (pc + 1) == v && decide (pc + 1 < z)) = true) : decode c pc = .ok (.lload v, 2) := dl_1 k rfl h (g := fun x => .lload x) (fun _ _ _ e => dl_u1 (g := fun x => Instr.lload x) e)
theorem dl_o25 {c : ByteArray} {n z pc : Nat} (k : CK c n z) {v : Nat} (h : (bN n pc == 25 && bN n (pc + 1) == v && decide (pc + 1 < z)) = true) : decode c pc = .ok (.aload v, 2) := dl_1 k rfl h (g := fun x => .aload x) (fun _ _ _ e => dl_u1 (g := fun x => Instr.aload x) e)
theorem dl_o54 {c : ByteArray} {n z pc : Nat} (k : CK c n z) {v : Nat} (h : (bN n pc == 54 && bN n (pc + 1) == v && decide (pc + 1 < z)) = true) : decode c pc = .ok (.istore v, 2) := dl_1 k rfl h (g := fun x => .istore x) (fun _ _ _ e => dl_u1 (g := fun x => Instr.istore x) e)
theorem dl_o55 {c : ByteArray} {n z pc : Nat} (k : CK c n z) {v : Nat} (h : (bN n pc == 55 && bN n (pc + 1) == v && decide (pc + 1 < z)) = true) : decode c pc = .ok (.lstore v, 2) := dl_1 k rfl h (g := fun x => .lstore x) (fun _ _ _ e => dl_u1 (g := fun x => Instr.lstore x) e)
theorem dl_o58 {c : ByteArray} {n z pc : Nat} (k : CK c n z) {v : Nat} (h : (bN n pc == 58 && bN n (pc + 1) == v && decide (pc + 1 < z)) = true) : decode c pc = .ok (.astore v, 2) := dl_1 k rfl h (g := fun x => .astore x) (fun _ _ _ e => dl_u1 (g := fun x => Instr.astore x) e)
theorem dl_o18 {c : ByteArray} {n z pc : Nat} (k : CK c n z) {v : Nat} (h : (bN n pc == 18 && bN n (pc + 1) == v && decide (pc + 1 < z)) = true) : decode c pc = .ok (.ldc v, 2) := dl_1 k rfl h (g := fun x => .ldc x) (fun _ _ _ e => dl_u1 (g := fun x => Instr.ldc x) e)
theorem dl_o178 {c : ByteArray} {n z pc : Nat} (k : CK c n z) {v : Nat} (h : (bN n pc == 178 && bN n (pc + 1) * 256 + bN n (pc + 2) == v && decide (pc + 2 < z)) = true) : decode c pc = .ok (.getstatic v, 3) := dl_2 k rfl h (g := fun x => .getstatic x) (fun _ _ _ e => dl_u2 (g := fun x => Instr.getstatic x) e)
theorem dl_o180 {c : ByteArray} {n z pc : Nat} (k : CK c n z) {v : Nat} (h : (bN n pc == 180 && bN n (pc + 1) * 256 + bN n (pc + 2) == v && decide (pc + 2 < z)) = true) : decode c pc = .ok (.getfield v, 3) := dl_2 k rfl h (g := fun x => .getfield x) (fun _ _ _ e => dl_u2 (g := fun x => Instr.getfield x) e)
theorem dl_o181 {c : ByteArray} {n z pc : Nat} (k : CK c n z) {v : Nat} (h : (bN n pc == 181 && bN n (pc + 1) * 256 + bN n (pc + 2) == v && decide (pc + 2 < z)) = true) : decode c pc = .ok (.putfield v, 3) := dl_2 k rfl h (g := fun x => .putfield x) (fun _ _ _ e => dl_u2 (g := fun x => Instr.putfield x) e)
theorem dl_o182 {c : ByteArray} {n z pc : Nat} (k : CK c n z) {v : Nat} (h : (bN n pc == 182 && bN n (pc + 1) * 256 + bN n (pc + 2) == v && decide (pc + 2 < z)) = true) : decode c pc = .ok (.invokevirtual v, 3) := dl_2 k rfl h (g := fun x => .invokevirtual x) (fun _ _ _ e => dl_u2 (g := fun x => Instr.invokevirtual x) e)
theorem dl_o183 {c : ByteArray} {n z pc : Nat} (k : CK c n z) {v : Nat} (h : (bN n pc == 183 && bN n (pc + 1) * 256 + bN n (pc + 2) == v && decide (pc + 2 < z)) = true) : decode c pc = .ok (.invokespecial v, 3) := dl_2 k rfl h (g := fun x => .invokespecial x) (fun _ _ _ e => dl_u2 (g := fun x => Instr.invokespecial x) e)
theorem dl_o184 {c : ByteArray} {n z pc : Nat} (k : CK c n z) {v : Nat} (h : (bN n pc == 184 && bN n (pc + 1) * 256 + bN n (pc + 2) == v && decide (pc + 2 < z)) = true) : decode c pc = .ok (.invokestatic v, 3) := dl_2 k rfl h (g := fun x => .invokestatic x) (fun _ _ _ e => dl_u2 (g := fun x => Instr.invokestatic x) e)
theorem dl_o20 {c : ByteArray} {n z pc : Nat} (k : CK c n z) {v : Nat} (h : (bN n pc == 20 && bN n (pc + 1) * 256 + bN n (pc + 2) == v && decide (pc + 2 < z)) = true) : decode c pc = .ok (.ldc2_w v, 3) := dl_2 k rfl h (g := fun x => .ldc2_w x) (fun _ _ _ e => dl_u2 (g := fun x => Instr.ldc2_w x) e)
theorem dl_o19 {c : ByteArray} {n z pc : Nat} (k : CK c n z) {v : Nat} (h : (bN n pc == 19 && bN n (pc + 1) * 256 + bN n (pc + 2) == v && decide (pc + 2 < z)) = true) : decode c pc = .ok (.ldc_w v, 3) := dl_2 k rfl h (g := fun x => .ldc_w x) (fun _ _ _ e => dl_u2 (g := fun x => Instr.ldc_w x) e)
theorem dl_o16 {c : ByteArray} {n z pc : Nat} (k : CK c n z) (v : Nat) (h : (bN n pc == 16 && bN n (pc + 1) == v && decide (pc + 1 < z)) = true) {w : Int} (hw : (Reader.signed 8 v == w) = true) : decode c pc = .ok (.bipush w, 2) := by
  rw [← beq_iff_eq.mp hw]
  exact dl_1 k rfl h (g := fun x => .bipush (Reader.signed 8 x)) (fun _ _ _ e => dl_s1 (g := fun x => Instr.bipush x) e)
theorem dl_o17 {c : ByteArray} {n z pc : Nat} (k : CK c n z) (v : Nat) (h : (bN n pc == 17 && bN n (pc + 1) * 256 + bN n (pc + 2) == v && decide (pc + 2 < z)) = true) {w : Int} (hw : (Reader.signed 16 v == w) = true) : decode c pc = .ok (.sipush w, 3) := by
  rw [← beq_iff_eq.mp hw]
  exact dl_2 k rfl h (g := fun x => .sipush (Reader.signed 16 x)) (fun _ _ _ e => dl_s2 (g := fun x => Instr.sipush x) e)
theorem dl_o167 {c : ByteArray} {n z pc : Nat} (k : CK c n z) (v : Nat) (h : (bN n pc == 167 && bN n (pc + 1) * 256 + bN n (pc + 2) == v && decide (pc + 2 < z)) = true) {w : Int} (hw : (Reader.signed 16 v == w) = true) : decode c pc = .ok (.goto w, 3) := by
  rw [← beq_iff_eq.mp hw]
  exact dl_2 k rfl h (g := fun x => .goto (Reader.signed 16 x)) (fun _ _ _ e => dl_s2 (g := fun x => Instr.goto x) e)
theorem dl_o153 {c : ByteArray} {n z pc : Nat} (k : CK c n z) (v : Nat) (h : (bN n pc == 153 && bN n (pc + 1) * 256 + bN n (pc + 2) == v && decide (pc + 2 < z)) = true) {w : Int} (hw : (Reader.signed 16 v == w) = true) : decode c pc = .ok (.ifCond .eq w, 3) := by
  rw [← beq_iff_eq.mp hw]
  exact dl_2 k rfl h (g := fun x => .ifCond .eq (Reader.signed 16 x)) (fun _ _ _ e => dl_s2 (g := fun x => Instr.ifCond .eq x) e)
theorem dl_o159 {c : ByteArray} {n z pc : Nat} (k : CK c n z) (v : Nat) (h : (bN n pc == 159 && bN n (pc + 1) * 256 + bN n (pc + 2) == v && decide (pc + 2 < z)) = true) {w : Int} (hw : (Reader.signed 16 v == w) = true) : decode c pc = .ok (.if_icmp .eq w, 3) := by
  rw [← beq_iff_eq.mp hw]
  exact dl_2 k rfl h (g := fun x => .if_icmp .eq (Reader.signed 16 x)) (fun _ _ _ e => dl_s2 (g := fun x => Instr.if_icmp .eq x) e)
theorem dl_o154 {c : ByteArray} {n z pc : Nat} (k : CK c n z) (v : Nat) (h : (bN n pc == 154 && bN n (pc + 1) * 256 + bN n (pc + 2) == v && decide (pc + 2 < z)) = true) {w : Int} (hw : (Reader.signed 16 v == w) = true) : decode c pc = .ok (.ifCond .ne w, 3) := by
  rw [← beq_iff_eq.mp hw]
  exact dl_2 k rfl h (g := fun x => .ifCond .ne (Reader.signed 16 x)) (fun _ _ _ e => dl_s2 (g := fun x => Instr.ifCond .ne x) e)
theorem dl_o160 {c : ByteArray} {n z pc : Nat} (k : CK c n z) (v : Nat) (h : (bN n pc == 160 && bN n (pc + 1) * 256 + bN n (pc + 2) == v && decide (pc + 2 < z)) = true) {w : Int} (hw : (Reader.signed 16 v == w) = true) : decode c pc = .ok (.if_icmp .ne w, 3) := by
  rw [← beq_iff_eq.mp hw]
  exact dl_2 k rfl h (g := fun x => .if_icmp .ne (Reader.signed 16 x)) (fun _ _ _ e => dl_s2 (g := fun x => Instr.if_icmp .ne x) e)
theorem dl_o155 {c : ByteArray} {n z pc : Nat} (k : CK c n z) (v : Nat) (h : (bN n pc == 155 && bN n (pc + 1) * 256 + bN n (pc + 2) == v && decide (pc + 2 < z)) = true) {w : Int} (hw : (Reader.signed 16 v == w) = true) : decode c pc = .ok (.ifCond .lt w, 3) := by
  rw [← beq_iff_eq.mp hw]
  exact dl_2 k rfl h (g := fun x => .ifCond .lt (Reader.signed 16 x)) (fun _ _ _ e => dl_s2 (g := fun x => Instr.ifCond .lt x) e)
theorem dl_o161 {c : ByteArray} {n z pc : Nat} (k : CK c n z) (v : Nat) (h : (bN n pc == 161 && bN n (pc + 1) * 256 + bN n (pc + 2) == v && decide (pc + 2 < z)) = true) {w : Int} (hw : (Reader.signed 16 v == w) = true) : decode c pc = .ok (.if_icmp .lt w, 3) := by
  rw [← beq_iff_eq.mp hw]
  exact dl_2 k rfl h (g := fun x => .if_icmp .lt (Reader.signed 16 x)) (fun _ _ _ e => dl_s2 (g := fun x => Instr.if_icmp .lt x) e)
theorem dl_o156 {c : ByteArray} {n z pc : Nat} (k : CK c n z) (v : Nat) (h : (bN n pc == 156 && bN n (pc + 1) * 256 + bN n (pc + 2) == v && decide (pc + 2 < z)) = true) {w : Int} (hw : (Reader.signed 16 v == w) = true) : decode c pc = .ok (.ifCond .ge w, 3) := by
  rw [← beq_iff_eq.mp hw]
  exact dl_2 k rfl h (g := fun x => .ifCond .ge (Reader.signed 16 x)) (fun _ _ _ e => dl_s2 (g := fun x => Instr.ifCond .ge x) e)
theorem dl_o162 {c : ByteArray} {n z pc : Nat} (k : CK c n z) (v : Nat) (h : (bN n pc == 162 && bN n (pc + 1) * 256 + bN n (pc + 2) == v && decide (pc + 2 < z)) = true) {w : Int} (hw : (Reader.signed 16 v == w) = true) : decode c pc = .ok (.if_icmp .ge w, 3) := by
  rw [← beq_iff_eq.mp hw]
  exact dl_2 k rfl h (g := fun x => .if_icmp .ge (Reader.signed 16 x)) (fun _ _ _ e => dl_s2 (g := fun x => Instr.if_icmp .ge x) e)
theorem dl_o157 {c : ByteArray} {n z pc : Nat} (k : CK c n z) (v : Nat) (h : (bN n pc == 157 && bN n (pc + 1) * 256 + bN n (pc + 2) == v && decide (pc + 2 < z)) = true) {w : Int} (hw : (Reader.signed 16 v == w) = true) : decode c pc = .ok (.ifCond .gt w, 3) := by
  rw [← beq_iff_eq.mp hw]
  exact dl_2 k rfl h (g := fun x => .ifCond .gt (Reader.signed 16 x)) (fun _ _ _ e => dl_s2 (g := fun x => Instr.ifCond .gt x) e)
theorem dl_o163 {c : ByteArray} {n z pc : Nat} (k : CK c n z) (v : Nat) (h : (bN n pc == 163 && bN n (pc + 1) * 256 + bN n (pc + 2) == v && decide (pc + 2 < z)) = true) {w : Int} (hw : (Reader.signed 16 v == w) = true) : decode c pc = .ok (.if_icmp .gt w, 3) := by
  rw [← beq_iff_eq.mp hw]
  exact dl_2 k rfl h (g := fun x => .if_icmp .gt (Reader.signed 16 x)) (fun _ _ _ e => dl_s2 (g := fun x => Instr.if_icmp .gt x) e)
theorem dl_o158 {c : ByteArray} {n z pc : Nat} (k : CK c n z) (v : Nat) (h : (bN n pc == 158 && bN n (pc + 1) * 256 + bN n (pc + 2) == v && decide (pc + 2 < z)) = true) {w : Int} (hw : (Reader.signed 16 v == w) = true) : decode c pc = .ok (.ifCond .le w, 3) := by
  rw [← beq_iff_eq.mp hw]
  exact dl_2 k rfl h (g := fun x => .ifCond .le (Reader.signed 16 x)) (fun _ _ _ e => dl_s2 (g := fun x => Instr.ifCond .le x) e)
theorem dl_o164 {c : ByteArray} {n z pc : Nat} (k : CK c n z) (v : Nat) (h : (bN n pc == 164 && bN n (pc + 1) * 256 + bN n (pc + 2) == v && decide (pc + 2 < z)) = true) {w : Int} (hw : (Reader.signed 16 v == w) = true) : decode c pc = .ok (.if_icmp .le w, 3) := by
  rw [← beq_iff_eq.mp hw]
  exact dl_2 k rfl h (g := fun x => .if_icmp .le (Reader.signed 16 x)) (fun _ _ _ e => dl_s2 (g := fun x => Instr.if_icmp .le x) e)
