/-! 1 THE DIRECTORY -/
def IB (x : Int32) (P : Prop) : Prop := (x = 1 ∧ P) ∨ (x = 0 ∧ ¬ P)
theorem IB.y {x : Int32} {P : Prop} (h : IB x P) (e : ¬ x = 0) : P := h.elim (fun q => q.2) (fun q => absurd q.1 e)
theorem IB.n {x : Int32} {P : Prop} (h : IB x P) (e : x = 0) : ¬ P := h.elim (fun q => absurd (q.1.symm.trans e) (by decide)) (fun q => q.2)
theorem IB.o {x : Int32} {P : Prop} (h : IB x P) (e : ¬ x = 0) : x = 1 := h.elim (fun q => q.1) (fun q => absurd q.1 e)
theorem nnx {P : Prop} (h : ¬ ¬ P) : P := by
  by_cases c : P
  · exact c
  · exact absurd c h
section PL
variable {A B C D E R : Type} {Q : R → Prop}
theorem pt_l1 {f : (A → Option R) → A → Option R} {I : A → Prop} (h : ∀ k, (∀ a, I a → Pt Q (k a)) → ∀ a, I a → Pt Q (f k a)) : ∀ n a, I a → Pt Q (sx_lp1 f n a) := by
  intro n
  induction n with
  | zero => exact fun a _ x e => by cases e
  | succ n ih => exact fun a i => h _ ih a i
theorem pt_l2 {f : (A → B → Option R) → A → B → Option R} {I : A → B → Prop} (h : ∀ k, (∀ a b, I a b → Pt Q (k a b)) → ∀ a b, I a b → Pt Q (f k a b)) : ∀ n a b, I a b → Pt Q (sx_lp2 f n a b) := by
  intro n
  induction n with
  | zero => exact fun a b _ x e => by cases e
  | succ n ih => exact fun a b i => h _ ih a b i
theorem pt_l3 {f : (A → B → C → Option R) → A → B → C → Option R} {I : A → B → C → Prop} (h : ∀ k, (∀ a b c, I a b c → Pt Q (k a b c)) → ∀ a b c, I a b c → Pt Q (f k a b c)) : ∀ n a b c, I a b c → Pt Q (sx_lp3 f n a b c) := by
  intro n
  induction n with
  | zero => exact fun a b c _ x e => by cases e
  | succ n ih => exact fun a b c i => h _ ih a b c i
theorem pt_l4 {f : (A → B → C → D → Option R) → A → B → C → D → Option R} {I : A → B → C → D → Prop} (h : ∀ k, (∀ a b c d, I a b c d → Pt Q (k a b c d)) → ∀ a b c d, I a b c d → Pt Q (f k a b c d)) : ∀ n a b c d, I a b c d → Pt Q (sx_lp4 f n a b c d) := by
  intro n
  induction n with
  | zero => exact fun a b c d _ x e => by cases e
  | succ n ih => exact fun a b c d i => h _ ih a b c d i
theorem pt_l5 {f : (A → B → C → D → E → Option R) → A → B → C → D → E → Option R} {I : A → B → C → D → E → Prop} (h : ∀ k, (∀ a b c d e, I a b c d e → Pt Q (k a b c d e)) → ∀ a b c d e, I a b c d e → Pt Q (f k a b c d e)) : ∀ n a b c d e, I a b c d e → Pt Q (sx_lp5 f n a b c d e) := by
  intro n
  induction n with
  | zero => exact fun a b c d e _ x q => by cases q
  | succ n ih => exact fun a b c d e i => h _ ih a b c d e i
end PL
theorem pt_m {A : Type} {P Q : A → Prop} {o : Option A} (h : Pt P o) (k : ∀ a, P a → Q a) : Pt Q o := fun a e => k a (h a e)
theorem pt_bb {A B : Type} {P : A → Prop} {Q : B → Prop} {o : Option B} {f : B → Option A} (h : Pt Q o) (k : ∀ x, Q x → Pt P (f x)) : Pt P (o.bind f) := pt_b fun x e => k x (h x e)
def dirE (t : Nat) : Nat := if t < 2 then 0 else if t < 4 then 1 else if t < 8 then 2 else if t < 16 then 3 else 4
def tbl (d : Nat → Int32) (n : Nat) : Nat := g2 d n 4
def K1 (d : Nat → Int32) (n : Nat) : Prop := 12 ≤ n ∧ g4 d n 0 = 65536 ∧ 1 ≤ tbl d n ∧ tbl d n ≤ 16 ∧ g2 d n 6 = 16 * 2 ^ dirE (tbl d n) ∧ g2 d n 8 = dirE (tbl d n) ∧ g2 d n 10 = 16 * tbl d n - 16 * 2 ^ dirE (tbl d n) ∧ 12 + 16 * tbl d n ≤ n
theorem t16 {t : Nat} (h1 : 1 ≤ t) (h2 : t ≤ 16) {P : Nat → Prop} (p1 : P 1) (p2 : P 2) (p3 : P 3) (p4 : P 4) (p5 : P 5) (p6 : P 6) (p7 : P 7) (p8 : P 8) (p9 : P 9) (p10 : P 10) (p11 : P 11) (p12 : P 12) (p13 : P 13) (p14 : P 14) (p15 : P 15) (p16 : P 16) : P t := by
  have : t = 1 ∨ t = 2 ∨ t = 3 ∨ t = 4 ∨ t = 5 ∨ t = 6 ∨ t = 7 ∨ t = 8 ∨ t = 9 ∨ t = 10 ∨ t = 11 ∨ t = 12 ∨ t = 13 ∨ t = 14 ∨ t = 15 ∨ t = 16 := by omega
  rcases this with rfl | rfl | rfl | rfl | rfl | rfl | rfl | rfl | rfl | rfl | rfl | rfl | rfl | rfl | rfl | rfl <;> assumption
theorem dirE_s (t : Nat) : (16 : Int32) <<< (nI (dirE t) &&& 31) = nI (16 * 2 ^ dirE t) := by
  unfold dirE
  split
  · decide
  · split
    · decide
    · split
      · decide
      · split <;> decide
theorem dirE_le (t : Nat) : dirE t ≤ 4 := by
  unfold dirE
  split
  · decide
  · split
    · decide
    · split
      · decide
      · split <;> decide
theorem dirE_t {t : Nat} (h : 1 ≤ t) (h2 : t ≤ 16) : 2 ^ dirE t ≤ t := by
  unfold dirE
  split
  · omega
  · split
    · omega
    · split
      · omega
      · split <;> omega
theorem dir_cl {N M t : Nat} {V : sv_V} (h1 : 1 ≤ t) (h2 : t ≤ 16) : sx_lp4 (B_X4_directoryHolds_53 N) (M + 5) (nI t) 0 1 V = B_X4_directoryHolds_53 N (sx_lp4 (B_X4_directoryHolds_53 N) M) (nI t) (nI (dirE t)) 5 V :=
  t16 (P := fun t => sx_lp4 (B_X4_directoryHolds_53 N) (M + 5) (nI t) 0 1 V = B_X4_directoryHolds_53 N (sx_lp4 (B_X4_directoryHolds_53 N) M) (nI t) (nI (dirE t)) 5 V) h1 h2 rfl rfl rfl rfl rfl rfl rfl rfl rfl rfl rfl rfl rfl rfl rfl rfl
theorem dir_rl {N M t : Nat} {V : sv_V} (h1 : 1 ≤ t) (h2 : t ≤ 16) : sx_lp3 (B_X12_directory_57 N) (M + 5) (nI t) 0 V = B_X12_directory_57 N (fun _ _ _ => none) (nI t) (nI (dirE t)) V :=
  t16 (P := fun t => sx_lp3 (B_X12_directory_57 N) (M + 5) (nI t) 0 V = B_X12_directory_57 N (fun _ _ _ => none) (nI t) (nI (dirE t)) V) h1 h2 rfl rfl rfl rfl rfl rfl rfl rfl rfl rfl rfl rfl rfl rfl rfl rfl
theorem dir_rc {t : Nat} (h1 : 1 ≤ t) (h2 : t ≤ 16) : nI t < (2 : Int32) <<< (nI (dirE t) &&& 31) := t16 (P := fun t => nI t < (2 : Int32) <<< (nI (dirE t) &&& 31)) h1 h2 (by decide) (by decide) (by decide) (by decide) (by decide) (by decide) (by decide) (by decide) (by decide) (by decide) (by decide) (by decide) (by decide) (by decide) (by decide) (by decide)
section D1
variable {d : Nat → Int32} {n N : Nat} {V : sv_V}
theorem FC_I (h : FC d n V) {a k : Nat} {x : Int32} (e : (a ≠ 2 ∨ k ≠ 1) ∧ a ≠ 3) : FC d n (sv_I V a k x) := by
  refine ⟨h.1, ?_, fun j hj => ?_⟩
  · show (if 2 = a ∧ 1 = k then x else V.1 2 1) = _
    rw [if_neg (by omega)]
    exact h.2.1
  · show (if 3 = a ∧ j = k then x else V.1 3 j) = _
    rw [if_neg (by omega)]
    exact h.2.2 j hj
theorem FR_I (h : FR d n V) {a k : Nat} {x : Int32} (e : (a ≠ 146 ∨ k ≠ 3) ∧ a ≠ 148) : FR d n (sv_I V a k x) := by
  refine ⟨h.1, ?_, fun j hj => ?_⟩
  · show (if 146 = a ∧ 3 = k then x else V.1 146 3) = _
    rw [if_neg (by omega)]
    exact h.2.1
  · show (if 148 = a ∧ j = k then x else V.1 148 j) = _
    rw [if_neg (by omega)]
    exact h.2.2 j hj
theorem FR_L (h : FR d n V) {a k : Nat} {x : Int64} : FR d n (sv_L V a k x) := h
theorem dir_c (hN : 5 ≤ N) (h : FC d n V) : Pt (fun p : Int32 × sv_V => IB p.1 (K1 d n) ∧ (p.1 = 1 → p.2.1 2 5 = nI (tbl d n))) (F_X4_directoryHolds N V) := by
  obtain ⟨M, hM⟩ : ∃ M, N = M + 5 := ⟨N - 5, by omega⟩
  have hn := h.1
  have no : ∀ W : sv_V, ¬ K1 d n → Pt (fun p : Int32 × sv_V => IB p.1 (K1 d n) ∧ (p.1 = 1 → p.2.1 2 5 = nI (tbl d n))) (some (0, W)) := fun W k => pt_some ⟨Or.inr ⟨rfl, k⟩, fun e => absurd e (show ¬ (0 : Int32) = 1 by decide)⟩
  unfold F_X4_directoryHolds
  rw [show F_X2_u2 (4 : Int32) V = some (nI (c2 d n 4), V) from u2_c (P := 4) h (by decide), Option.bind_some]
  dsimp only
  rw [h.2.1]
  refine pt_ite (fun q => no V (fun k => ?_)) (fun q => ?_)
  · have := (nI_ltI (a := n) (b := 12) (by omega) (by decide)).mp q
    have := k.1
    omega
  have h12 : 12 ≤ n := by
    rcases Nat.lt_or_ge n 12 with z | z
    · exact absurd ((nI_ltI (a := n) (b := 12) (by omega) (by decide)).mpr z) q
    · exact z
  rw [show F_X2_u4 (0 : Int32) V = some (lN (c4 d n 0), V) from u4_c (P := 0) h (by decide), Option.bind_some, c4_g (by omega), c2_g (by omega)]
  dsimp only
  have l4 := g4_lt (d := d) (n := n) (P := 0)
  have l2 := g2_lt (d := d) (n := n) (P := 4)
  have lt : tbl d n < 65536 := l2
  refine pt_ite (fun q1 => ?_) (fun q1 => no V (fun k => q1 (lgc_eq.mpr (by rw [k.2.1]; rfl))))
  have e0 : g4 d n 0 = 65536 := (pk_lEQ (b := 65536) (by omega) (by decide)).mp (lgc_eq.mp q1)
  refine pt_ite (fun q2 => no V (fun k => absurd ((nI_ltI (b := 1) (by omega) (by decide)).mp q2) (Nat.not_lt.mpr k.2.2.1))) (fun q2 => ?_)
  refine pt_ite (fun q3 => ?_) (fun q3 => no V (fun k => q3 ((nI_leI (b := 16) (by omega) (by decide)).mpr k.2.2.2.1)))
  have t1 : 1 ≤ tbl d n := by
    rcases Nat.lt_or_ge (tbl d n) 1 with z | z
    · exact absurd ((nI_ltI (b := 1) (by omega) (by decide)).mpr z) q2
    · exact z
  have t2 : tbl d n ≤ 16 := (nI_leI (b := 16) (by omega) (by decide)).mp q3
  rw [show sx_lp4 (B_X4_directoryHolds_53 N) N (nI (g2 d n 4)) 0 1 V = sx_lp4 (B_X4_directoryHolds_53 N) (M + 5) (nI (tbl d n)) 0 1 V by rw [← hM]; rfl, dir_cl t1 t2]
  unfold B_X4_directoryHolds_53
  rw [if_pos (by decide), dirE_s]
  have sl := dirE_t t1 t2
  refine pt_let fun x3 hx => pt_let fun V4 hV => ?_
  subst hx
  have h4 : FC d n V4 := by rw [hV]; exact FC_I h (by decide)
  have a1 := g2_lt (d := d) (n := n) (P := 6)
  have a2 := g2_lt (d := d) (n := n) (P := 8)
  have a3 := g2_lt (d := d) (n := n) (P := 10)
  have le := dirE_le (tbl d n)
  rw [show F_X2_u2 (6 : Int32) V4 = some (nI (c2 d n 6), V4) from u2_c (P := 6) h4 (by decide), Option.bind_some, c2_g (by omega)]
  dsimp only
  refine pt_ite (fun q4 => ?_) (fun q4 => no V4 (fun k => q4 (by rw [k.2.2.2.2.1])))
  have e6 := (nI_eq (by omega) (by omega)).mp q4
  rw [show F_X2_u2 (8 : Int32) V4 = some (nI (c2 d n 8), V4) from u2_c (P := 8) h4 (by decide), Option.bind_some, c2_g (by omega)]
  dsimp only
  refine pt_ite (fun q5 => ?_) (fun q5 => no V4 (fun k => q5 (by rw [k.2.2.2.2.2.1])))
  have e8 := (nI_eq (by omega) (by omega)).mp q5
  rw [show F_X2_u2 (10 : Int32) V4 = some (nI (c2 d n 10), V4) from u2_c (P := 10) h4 (by decide), Option.bind_some, c2_g (by omega), show (16 : Int32) * nI (tbl d n) = nI (16 * tbl d n) from pk_mul 16 _, pk_sub (by omega), h4.2.1, show (12 : Int32) + nI (16 * tbl d n) = nI (12 + 16 * tbl d n) from nI_add 12 _]
  dsimp only
  refine pt_ite (fun q6 => ?_) (fun q6 => no V4 (fun k => q6 (by rw [k.2.2.2.2.2.2.1])))
  have e10 := (nI_eq (by omega) (by omega)).mp q6
  refine pt_ite (fun q7 => no V4 (fun k => absurd ((nI_ltI (by omega) (by omega)).mp q7) (Nat.not_lt.mpr k.2.2.2.2.2.2.2))) (fun q7 => ?_)
  have ee : 12 + 16 * tbl d n ≤ n := by
    rcases Nat.lt_or_ge n (12 + 16 * tbl d n) with z | z
    · exact absurd ((nI_ltI (by omega) (by omega)).mpr z) q7
    · exact z
  exact pt_some ⟨Or.inl ⟨rfl, h12, e0, t1, t2, e6, e8, e10, ee⟩, fun _ => by rw [hV]; exact vI_same _ _ _ _⟩
/-- an entry of the directory -/
def en (d : Nat → Int32) (n k w : Nat) : Nat := g4 d n (12 + 16 * k + 4 * w)
theorem en_lt {k w : Nat} : en d n k w < 4294967296 := g4_lt
/-- the reference has taken the entries -/
def TEx (d : Nat → Int32) (n m : Nat) (V : sv_V) : Prop := ∀ k, k < m → V.1 149 k = nI (en d n k 0) ∧ V.2.1 150 k = lN (en d n k 1) ∧ V.2.1 151 k = lN (en d n k 2) ∧ V.2.1 152 k = lN (en d n k 3)
theorem F_inN {v a b : Nat} (hv : v < 2 ^ 31) (ha : a < 2 ^ 31) (hb : b < 2 ^ 31) {x y : Int64} (ex : x = lN a) (ey : y = lN b) : F_X12_in (nI v).toInt64 x y V = some (if a ≤ v ∧ v ≤ b then 1 else 0, V) := by
  subst ex
  subst ey
  rw [F_in, nI_l hv]
  by_cases c : a ≤ v ∧ v ≤ b
  · rw [if_pos c, if_pos ⟨(pk_lLE (by omega) (by omega)).mpr c.1, (pk_lLE (by omega) (by omega)).mpr c.2⟩]
  · rw [if_neg c, if_neg (fun q => c ⟨(pk_lLE (by omega) (by omega)).mp q.1, (pk_lLE (by omega) (by omega)).mp q.2⟩)]
theorem dir_r120 (m : Nat) (hm : m ≤ 16) (hD : FR d n V) (h5 : V.1 146 5 = nI m) : ∀ M, Pt (fun p : Int32 × sv_V => p.1 = 1 ∧ p.2.1 146 5 = nI m ∧ TEx d n m p.2) (sx_lp3 (B_X12_directory_120 N) M (nI m) 0 V) := by
  refine fun M => pt_l3 (I := fun a b W => ∃ k, a = nI m ∧ b = nI k ∧ k ≤ m ∧ FR d n W ∧ W.1 146 5 = nI m ∧ TEx d n k W) ?_ M (nI m) 0 V ⟨0, rfl, rfl, Nat.zero_le _, hD, h5, fun k hk => by omega⟩
  intro kk ih a b W ⟨k, ea, eb, hk, hW, w5, hT⟩
  subst ea eb
  unfold B_X12_directory_120
  refine pt_ite (fun q => ?_) (fun q => ?_)
  · have e : k = m := by
      have := (nI_leI (by omega) (by omega)).mp q
      omega
    subst e
    exact pt_some ⟨rfl, w5, hT⟩
  have hkm : k < m := by
    rcases Nat.lt_or_ge k m with z | z
    · exact z
    · exact absurd (nI_le z (by omega)) q
  refine pt_let fun x2 hx => ?_
  have hx2 : x2 = nI (12 + 16 * k) := by rw [hx, show (16 : Int32) * nI k = nI (16 * k) from pk_mul 16 _, show (12 : Int32) + nI (16 * k) = nI (12 + 16 * k) from nI_add 12 _]
  subst hx2
  rw [u4_r hW (by omega), Option.bind_some]
  dsimp only
  refine pt_g fun _ => pt_let fun V7 e7 => ?_
  have h7 : FR d n V7 := by rw [e7]; exact FR_I hW ⟨Or.inl (by decide), by decide⟩
  rw [show nI (12 + 16 * k) + (4 : Int32) = nI (12 + 16 * k + 4) from nI_add _ 4, u4_r h7 (by omega), Option.bind_some]
  dsimp only
  refine pt_g fun _ => pt_let fun V12 e12 => ?_
  have h12 : FR d n V12 := by rw [e12]; exact h7
  rw [show nI (12 + 16 * k) + (8 : Int32) = nI (12 + 16 * k + 8) from nI_add _ 8, u4_r h12 (by omega), Option.bind_some]
  dsimp only
  refine pt_g fun _ => pt_let fun V17 e17 => ?_
  have h17 : FR d n V17 := by rw [e17]; exact h12
  rw [show nI (12 + 16 * k) + (12 : Int32) = nI (12 + 16 * k + 12) from nI_add _ 12, u4_r h17 (by omega), Option.bind_some]
  dsimp only
  refine pt_g fun _ => pt_let fun V22 e22 => pt_let fun x23 hx3 => ?_
  have h22 : FR d n V22 := by rw [e22]; exact h17
  refine ih _ _ _ ⟨k + 1, rfl, by rw [hx3, nI_1], hkm, h22, ?_, fun j hj => ?_⟩
  · rw [e22, e17, e12, e7]
    exact w5
  · rw [nI_clamp (by omega)] at e7 e12 e17 e22
    rw [e22, e17, e12, e7]
    by_cases e : j = k
    · subst e
      refine ⟨?_, ?_, ?_, ?_⟩
      · simp only [sv_I, sv_L, and_self, if_true, lN_i]
        rfl
      · simp [sv_I, sv_L, en]
      · simp [sv_I, sv_L, en]
      · simp [sv_I, sv_L, en]
    · obtain ⟨t0, t1, t2, t3⟩ := hT j (by omega)
      refine ⟨?_, ?_, ?_, ?_⟩
      · simp [sv_I, sv_L, e, t0]
      · simp [sv_I, sv_L, e, t1]
      · simp [sv_I, sv_L, e, t2]
      · simp [sv_I, sv_L, e, t3]
theorem dir_r (hN : 5 ≤ N) (h : FR d n V) : Pt (fun p : Int32 × sv_V => IB p.1 (K1 d n) ∧ (p.1 = 1 → p.2.1 146 5 = nI (tbl d n) ∧ TEx d n (tbl d n) p.2)) (F_X12_directory N V) := by
  obtain ⟨M, hM⟩ : ∃ M, N = M + 5 := ⟨N - 5, by omega⟩
  have hn := h.1
  have no : ∀ W : sv_V, ¬ K1 d n → Pt (fun p : Int32 × sv_V => IB p.1 (K1 d n) ∧ (p.1 = 1 → p.2.1 146 5 = nI (tbl d n) ∧ TEx d n (tbl d n) p.2)) (some (0, W)) := fun W k => pt_some ⟨Or.inr ⟨rfl, k⟩, fun e => absurd e (show ¬ (0 : Int32) = 1 by decide)⟩
  have l4 := g4_lt (d := d) (n := n) (P := 0)
  have l2 := g2_lt (d := d) (n := n) (P := 4)
  unfold F_X12_directory
  rw [show F_X12_u2 (4 : Int32) V = some (nI (tbl d n), V) from u2_r (P := 4) h (by decide), Option.bind_some]
  dsimp only
  rw [h.2.1]
  refine pt_ite (fun q => no V (fun k => ?_)) (fun q => ?_)
  · have := (nI_ltI (a := n) (b := 12) (by omega) (by decide)).mp q
    have := k.1
    omega
  have h12 : 12 ≤ n := by
    rcases Nat.lt_or_ge n 12 with z | z
    · exact absurd ((nI_ltI (a := n) (b := 12) (by omega) (by decide)).mpr z) q
    · exact z
  rw [show F_X12_u4 (0 : Int32) V = some (lN (g4 d n 0), V) from u4_r (P := 0) h (by decide), Option.bind_some]
  dsimp only
  refine pt_ite (fun q1 => ?_) (fun q1 => no V (fun k => q1 (lgc_eq.mpr (by rw [k.2.1]; rfl))))
  have e0 : g4 d n 0 = 65536 := (pk_lEQ (b := 65536) (by omega) (by decide)).mp (lgc_eq.mp q1)
  have lt : tbl d n < 65536 := l2
  rw [F_inN (x := 1) (y := 16) (a := 1) (b := 16) (by omega) (by decide) (by decide) rfl rfl, Option.bind_some]
  dsimp only
  refine pt_ite (fun q2 => no V (fun k => ?_)) (fun q2 => ?_)
  · rw [if_pos ⟨k.2.2.1, k.2.2.2.1⟩] at q2
    exact absurd q2 (by decide)
  have tt : 1 ≤ tbl d n ∧ tbl d n ≤ 16 := by
    by_cases c : 1 ≤ tbl d n ∧ tbl d n ≤ 16
    · exact c
    · rw [if_neg c] at q2
      exact absurd rfl q2
  obtain ⟨t1, t2⟩ := tt
  have sl := dirE_t t1 t2
  rw [h.2.1, show (16 : Int32) * nI (tbl d n) = nI (16 * tbl d n) from pk_mul 16 _, show (12 : Int32) + nI (16 * tbl d n) = nI (12 + 16 * tbl d n) from nI_add 12 _]
  refine pt_ite (fun q3 => ?_) (fun q3 => no V (fun k => q3 ((nI_leI (by omega) (by omega)).mpr k.2.2.2.2.2.2.2)))
  have ee := (nI_leI (by omega) (by omega)).mp q3
  rw [show sx_lp3 (B_X12_directory_57 N) N (nI (tbl d n)) 0 V = sx_lp3 (B_X12_directory_57 N) (M + 5) (nI (tbl d n)) 0 V by rw [← hM], dir_rl t1 t2]
  unfold B_X12_directory_57
  rw [if_pos (dir_rc t1 t2), dirE_s]
  have a1 := g2_lt (d := d) (n := n) (P := 6)
  have a2 := g2_lt (d := d) (n := n) (P := 8)
  have a3 := g2_lt (d := d) (n := n) (P := 10)
  have le := dirE_le (tbl d n)
  rw [show F_X12_u2 (6 : Int32) V = some (nI (g2 d n 6), V) from u2_r (P := 6) h (by decide), Option.bind_some]
  dsimp only
  refine pt_ite (fun q4 => ?_) (fun q4 => no V (fun k => q4 (by rw [k.2.2.2.2.1])))
  have e6 := (nI_eq (by omega) (by omega)).mp q4
  rw [show F_X12_u2 (8 : Int32) V = some (nI (g2 d n 8), V) from u2_r (P := 8) h (by decide), Option.bind_some]
  dsimp only
  refine pt_ite (fun q5 => ?_) (fun q5 => no V (fun k => q5 (by rw [k.2.2.2.2.2.1])))
  have e8 := (nI_eq (by omega) (by omega)).mp q5
  rw [show F_X12_u2 (10 : Int32) V = some (nI (g2 d n 10), V) from u2_r (P := 10) h (by decide), Option.bind_some, show (16 : Int32) * nI (tbl d n) = nI (16 * tbl d n) from pk_mul 16 _, pk_sub (by omega)]
  dsimp only
  refine pt_ite (fun q6 => ?_) (fun q6 => no V (fun k => q6 (by rw [k.2.2.2.2.2.2.1])))
  have e10 := (nI_eq (by omega) (by omega)).mp q6
  refine pt_let fun V37 hV => ?_
  refine pt_m (dir_r120 (tbl d n) t2 (V := V37) (by rw [hV]; exact FR_I h (by decide)) (by rw [hV]; exact vI_same _ _ _ _) N) ?_
  rintro ⟨r, W⟩ ⟨er, g5, gT⟩
  exact ⟨Or.inl ⟨er, h12, e0, t1, t2, e6, e8, e10, ee⟩, fun _ => ⟨g5, gT⟩⟩
end D1
