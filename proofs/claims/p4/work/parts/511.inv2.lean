/-! FRAMES AND CLAUSES over the invariant of ranges -/
section S2
variable {T : Tb} {G V V2 : sv_V} {md : List (Nat × Option Nat)}
theorem rd_fr (f : sv_eq md V V2) {a k : Nat} (e : sv_hit md a k = false) : V2.1 a k = V.1 a k := (f a k e).1
theorem rd_frS (f : sv_eq md V V2) {L : List Nat} {a k : Nat} (m : a ∈ L) (e : L.all (fun a => !(sv_hit md a k)) = true) : V2.1 a k = V.1 a k := (f a k (by have := List.all_eq_true.mp e a m; simpa using this)).1
theorem wr_fr (f : sv_eq md V V2) {a k : Nat} {l h : Int} (e : sv_hit md a k = false) (p : rg (V.1 a k) l h) : rg (V2.1 a k) l h := by
  rw [rd_fr f e]
  exact p
theorem wr_frS (f : sv_eq md V V2) {L : List Nat} {a k : Nat} {l h : Int} (m : a ∈ L) (e : L.all (fun a => !(sv_hit md a k)) = true) (p : rg (V.1 a k) l h) : rg (V2.1 a k) l h := by
  rw [rd_frS f m e]
  exact p
theorem sf_eI {B : Type} {P : B → Prop} {o : Option (Int32 × sv_V)} {f : Int32 × sv_V → Option B} {l h : Int} (H : Sg (QI T G l h) o) (K : ∀ x V, o = some (x, V) → SIx T G V → rg x l h → Sg P (f (x, V))) : Sg P (o.bind f) := by
  obtain ⟨⟨x, V⟩, rfl, S, r⟩ := H
  exact K x V rfl S r
theorem sf_eL {B : Type} {P : B → Prop} {o : Option (Int64 × sv_V)} {f : Int64 × sv_V → Option B} {l h : Int} (H : Sg (QL T G l h) o) (K : ∀ x V, o = some (x, V) → SIx T G V → rl x l h → Sg P (f (x, V))) : Sg P (o.bind f) := by
  obtain ⟨⟨x, V⟩, rfl, S, r⟩ := H
  exact K x V rfl S r
theorem sf_eV {B : Type} {P : B → Prop} {o : Option sv_V} {f : sv_V → Option B} (H : Sg (SIx T G) o) (K : ∀ V, o = some V → SIx T G V → Sg P (f V)) : Sg P (o.bind f) := by
  obtain ⟨V, rfl, S⟩ := H
  exact K V rfl S
theorem sf_eXI {B : Type} {P : B → Prop} {o : Option (Int32 × sv_V)} {f : Int32 × sv_V → Option B} {l h : Int} {p : sv_V → Prop} (H : Sg (QX (QI T G l h) p) o) (K : ∀ x V, o = some (x, V) → SIx T G V → rg x l h → p V → Sg P (f (x, V))) : Sg P (o.bind f) := by
  obtain ⟨⟨x, V⟩, rfl, ⟨S, r⟩, k⟩ := H
  exact K x V rfl S r k
theorem sf_eY {B : Type} {P : B → Prop} {o : Option sv_V} {f : sv_V → Option B} {p : sv_V → Prop} (H : Sg (QY (SIx T G) p) o) (K : ∀ V, o = some V → SIx T G V → p V → Sg P (f V)) : Sg P (o.bind f) := by
  obtain ⟨V, rfl, S, k⟩ := H
  exact K V rfl S k
/-- an answer of a function that leaves the memory as it was, with a relation -/
def QZ (V : sv_V) (l h : Int) (p : Int32 → Prop) (a : Int32 × sv_V) : Prop := (a.2 = V ∧ rg a.1 l h) ∧ p a.1
theorem sf_zI {x : Int32} {l h : Int} {p : Int32 → Prop} (r : rg x l h) (k : p x) : Sg (QZ V l h p) (some (x, V)) := ⟨_, rfl, ⟨rfl, r⟩, k⟩
theorem sf_yI {B : Type} {P : B → Prop} {o : Option (Int32 × sv_V)} {f : Int32 × sv_V → Option B} {l h : Int} {p : Int32 → Prop} (H : Sg (QZ V l h p) o) (K : ∀ x, rg x l h → p x → Sg P (f (x, V))) : Sg P (o.bind f) := by
  obtain ⟨⟨x, W⟩, rfl, ⟨e, r⟩, k⟩ := H
  cases e
  exact K x r k
/-- writes where the clause speaks -/
theorem SIx.wX (S : SIx T G V) {a k : Nat} {x : Int32} (g : T.2.1 a k = false) (r : ∀ l h, T.1 a k = some (l, h) → rg x l h) (hx : T.2.2.1 (sv_I V a k x)) : SIx T G (sv_I V a k x) := by
  refine ⟨fun b j l h e => ?_, fun b j e => ⟨?_, (S.2.1 b j e).2⟩, S.2.2.1, S.2.2.2.1, hx, S.2.2.2.2.2⟩
  · show rg (if b = a ∧ j = k then x else V.1 b j) l h
    by_cases q : b = a ∧ j = k
    · rw [if_pos q]
      obtain ⟨rfl, rfl⟩ := q
      exact r l h e
    · rw [if_neg q]
      exact S.1 b j l h e
  · show (if b = a ∧ j = k then x else V.1 b j) = _
    rw [if_neg]
    · exact (S.2.1 b j e).1
    · rintro ⟨rfl, rfl⟩
      rw [g] at e
      cases e
theorem SIx.wX2 (S : SIx T G V) {a k b j : Nat} {x y : Int32} (g : T.2.1 a k = false) (g2 : T.2.1 b j = false) (r : ∀ l h, T.1 a k = some (l, h) → rg x l h) (r2 : ∀ l h, T.1 b j = some (l, h) → rg y l h) (hx : T.2.2.1 (sv_I (sv_I V a k x) b j y)) : SIx T G (sv_I (sv_I V a k x) b j y) := by
  have S1 : SIx (T.1, T.2.1, (fun _ => True), fun _ _ => false) G V := ⟨S.1, S.2.1, S.2.2.1, S.2.2.2.1, trivial, fun _ _ _ _ => trivial⟩
  have S2 := (S1.wX (a := a) (k := k) (x := x) g r trivial).wX (a := b) (k := j) (x := y) g2 r2 trivial
  exact ⟨S2.1, S2.2.1, S2.2.2.1, S2.2.2.2.1, hx, S.2.2.2.2.2⟩
/-- the same ranges with other ghosts: the memory itself -/
theorem SIx.own (S : SIx T G V) (gh : Nat → Nat → Bool) : SIx (T.1, gh, T.2.2) V V := ⟨S.1, fun _ _ _ => ⟨rfl, rfl, rfl⟩, S.2.2.1, S.2.2.2.1, S.2.2.2.2.1, S.2.2.2.2.2⟩
theorem SIx.back {gh : Nat → Nat → Bool} (S : SIx T G V) (S2 : SIx (T.1, gh, T.2.2) V V2) (h : ∀ a k, T.2.1 a k = true → gh a k = true) : SIx T G V2 := ⟨S2.1, fun a k e => by
  obtain ⟨a1, a2, a3⟩ := S2.2.1 a k (h a k e)
  obtain ⟨b1, b2, b3⟩ := S.2.1 a k e
  exact ⟨a1.trans b1, a2.trans b2, a3.trans b3⟩, S2.2.2.1, S2.2.2.2.1, S2.2.2.2.2.1, S2.2.2.2.2.2⟩
end S2
/-- in every outline: the ends of its contours lie within its points -/
def ocl : List Nat := [93, 103, 113, 123, 133]
def X1 (V : sv_V) : Prop := ∀ b, b ∈ ocl → ∀ k : Nat, (k : Int) < (V.1 b 10).toInt → (V.1 (b + 1) k).toInt < (V.1 b 9).toInt
def xs1 (a k : Nat) : Bool := match a with
  | 93 => k == 9 || k == 10
  | 103 => k == 9 || k == 10
  | 113 => k == 9 || k == 10
  | 123 => k == 9 || k == 10
  | 133 => k == 9 || k == 10
  | 94 => true
  | 104 => true
  | 114 => true
  | 124 => true
  | 134 => true
  | _ => false
theorem xs1_b {b : Nat} (m : b ∈ ocl) : xs1 b 9 = true ∧ xs1 b 10 = true ∧ ∀ k, xs1 (b + 1) k = true := by
  simp only [ocl, List.mem_cons, List.not_mem_nil, or_false] at m
  rcases m with rfl | rfl | rfl | rfl | rfl <;> exact ⟨rfl, rfl, fun _ => rfl⟩
theorem X1_sup : Sup X1 xs1 := by
  intro V W h H b m k hk
  obtain ⟨h9, h10, he⟩ := xs1_b m
  rw [(h b 9 h9).1, (h (b + 1) k (he k)).1]
  rw [(h b 10 h10).1] at hk
  exact H b m k hk
theorem ocl_ne {b c : Nat} (m : b ∈ ocl) (n : c ∈ ocl) : b ≠ c + 1 := by
  simp only [ocl, List.mem_cons, List.not_mem_nil, or_false] at m n
  rcases m with rfl | rfl | rfl | rfl | rfl <;> rcases n with rfl | rfl | rfl | rfl | rfl <;> decide
theorem ocl_cr {b : Nat} (m : b ∈ ocl) : cr b 6 = some (b + 1) := by
  simp only [ocl, List.mem_cons, List.not_mem_nil, or_false] at m
  rcases m with rfl | rfl | rfl | rfl | rfl <;> decide
theorem X1_end {V : sv_V} (H : X1 V) {b j : Nat} {x : Int32} (m : b ∈ ocl) (h : (V.1 b 10).toInt ≤ (j : Int)) : X1 (sv_I V (b + 1) j x) := by
  intro c n k hk
  rw [vI_cell _ _ _ _ (ocl_ne n m)] at hk ⊢
  by_cases e : c = b
  · subst e
    rw [vI_place _ _ _ (show k ≠ j by omega)]
    exact H c n k hk
  · rw [vI_cell _ _ _ _ (show c + 1 ≠ b + 1 by omega)]
    exact H c n k hk
/-- count and contours of one outline are written anew -/
theorem X1_cc {V W : sv_V} (H : X1 V) {b : Nat} (m : b ∈ ocl) (h : ∀ a k, ¬ (a = b ∧ (k = 9 ∨ k = 10)) → W.1 a k = V.1 a k) (hn : ∀ k : Nat, (k : Int) < (W.1 b 10).toInt → (V.1 (b + 1) k).toInt < (W.1 b 9).toInt) : X1 W := by
  intro c n k hk
  by_cases e : c = b
  · subst e
    rw [h (c + 1) k (fun q => absurd q.1 (by omega))]
    exact hn k hk
  · rw [h c 9 (fun q => e q.1), h (c + 1) k (fun q => ocl_ne m n q.1.symm)]
    rw [h c 10 (fun q => e q.1)] at hk
    exact H c n k hk
theorem sv2_o {V : sv_V} {b i j : Nat} {x y : Int32} : ∀ a k, ¬ (a = b ∧ (k = i ∨ k = j)) → (sv_I (sv_I V b i x) b j y).1 a k = V.1 a k := by
  intro a k h
  show (if a = b ∧ k = j then y else if a = b ∧ k = i then x else V.1 a k) = _
  rw [if_neg (fun q => h ⟨q.1, Or.inr q.2⟩), if_neg (fun q => h ⟨q.1, Or.inl q.2⟩)]
theorem X1_begin {V : sv_V} (H : X1 V) {b : Nat} (m : b ∈ ocl) : X1 (sv_I (sv_I V b 9 0) b 10 0) := by
  refine X1_cc H m sv2_o (fun k hk => ?_)
  rw [vI_same] at hk
  have : (0 : Int32).toInt = 0 := rfl
  omega
theorem X1_910 {V : sv_V} (H : X1 V) {b : Nat} {x y : Int32} (m : b ∈ ocl) (hn : ∀ k : Nat, (k : Int) < y.toInt → (V.1 (b + 1) k).toInt < x.toInt) : X1 (sv_I (sv_I V b 9 x) b 10 y) := by
  refine X1_cc H m sv2_o (fun k hk => ?_)
  rw [vI_same] at hk
  rw [vI_place _ _ _ (show 9 ≠ 10 by decide), vI_same]
  exact hn k hk
theorem X1_109 {V : sv_V} (H : X1 V) {b : Nat} {x y : Int32} (m : b ∈ ocl) (hn : ∀ k : Nat, (k : Int) < y.toInt → (V.1 (b + 1) k).toInt < x.toInt) : X1 (sv_I (sv_I V b 10 y) b 9 x) := by
  refine X1_cc H m (fun a k h => sv2_o a k (fun q => h ⟨q.1, q.2.symm⟩)) (fun k hk => ?_)
  rw [vI_place _ _ _ (show 10 ≠ 9 by decide), vI_same] at hk
  rw [vI_same]
  exact hn k hk
/-- an array of the running outline -/
def OA (bo l : Nat) : Prop := ∃ j, j < 6 ∧ cr bo j = some l
theorem outl_pt {b : Nat} (m : b ∈ [82, 93, 103, 113, 123, 133]) : b ∈ ptL := by
  simp only [List.mem_cons, List.not_mem_nil, or_false] at m
  rcases m with rfl | rfl | rfl | rfl | rfl | rfl <;> decide
theorem oa_len {bo l n : Nat} (h : OA bo l) (m : bo ∈ [82, 93, 103, 113, 123, 133]) (q : sv_len 0 l = some n) : cap bo ≤ n := by
  obtain ⟨j, hj, e⟩ := h
  exact cap_len (outl_pt m) e q hj
theorem cr6_bo {b : Nat} (m : b ∈ [82, 93, 103, 113, 123, 133]) : cr b 6 = some (b + 1) := by
  simp only [List.mem_cons, List.not_mem_nil, or_false] at m
  rcases m with rfl | rfl | rfl | rfl | rfl | rfl <;> decide
theorem bo1_mem {b : Nat} (m : b ∈ [82, 93, 103, 113, 123, 133]) : b + 1 ∈ [83, 94, 104, 114, 124, 134] := by
  simp only [List.mem_cons, List.not_mem_nil, or_false] at m
  rcases m with rfl | rfl | rfl | rfl | rfl | rfl <;> decide
/-- a remainder by a number above 0: below it, and not below the number itself or 0 -/
theorem rg_remb {x y : Int32} {l h l2 h2 : Int} (p : rg x l h) (q : rg y l2 h2) (c : 0 < l2) : (x - x / y * y).toInt < y.toInt ∧ (0 ≤ (x - x / y * y).toInt ∨ x.toInt ≤ (x - x / y * y).toInt) := by
  rcases Int.lt_or_le x.toInt 0 with hx | hx
  · have e := rg_dv (x := x) (l := l) (h := h) q c
    have xl := x.toInt_lt
    have xm := x.le_toInt
    unfold rg at *
    have k := tdiv_rem2 (x := x.toInt) (y := y.toInt) (by omega)
    have k3 : 0 ≤ (-x.toInt).tdiv y.toInt := Int.tdiv_nonneg (by omega) (by omega)
    have k4 : 0 ≤ (-x.toInt).tdiv y.toInt * y.toInt := Int.mul_nonneg k3 (by omega)
    rw [Int.neg_tdiv, Int.neg_mul] at k4
    rw [Int32.toInt_sub, Int32.toInt_mul, e, bm32 (x := x.toInt.tdiv y.toInt * y.toInt) (by omega) (by omega), bm32 (by omega) (by omega)]
    omega
  · have := rg_remlt (l := 0) (h := h) ⟨hx, p.2⟩ q (by decide) c
    exact ⟨this.2, Or.inl this.1⟩
theorem in_cap2 {i : Int32} {b n : Nat} (a : 0 ≤ i.toInt) (k : i.toInt < cap b) (c : cap b ≤ n) : sx_in i n = true := in_rg (l := i.toInt) (h := i.toInt) ⟨Int.le_refl _, Int.le_refl _⟩ a (by omega)
theorem rg_lo {x : Int32} {n : Int} (h : n ≤ x.toInt) : rg x n 2147483647 := ⟨h, by have := x.toInt_lt; omega⟩
theorem rg_hi {x : Int32} {n : Int} (h : x.toInt ≤ n) : rg x (-2147483648) n := ⟨by have := x.le_toInt; omega, h⟩
/-- the ends read so far -/
def EN (b : Nat) (l4 l5 : Int32) (V : sv_V) : Prop := ∀ k : Nat, (k : Int) < l5.toInt → (V.1 (b + 1) k).toInt ≤ l4.toInt
theorem EN_0 {b : Nat} {x : Int32} {V : sv_V} : EN b x 0 V := fun k hk => absurd hk (by rw [show (0 : Int32).toInt = 0 from rfl]; omega)
theorem ocl1 {b : Nat} (m : b ∈ [93, 103, 113, 123, 133]) : b + 1 ∈ [94, 104, 114, 124, 134] := by
  simp only [List.mem_cons, List.not_mem_nil, or_false] at m
  rcases m with rfl | rfl | rfl | rfl | rfl <;> decide
theorem EN_step {b : Nat} {l4 l5 x y : Int32} {V V1 V2 : sv_V} (h : EN b l4 l5 V) (fr : ∀ k, V1.1 (b + 1) k = V.1 (b + 1) k) (q : V2 = sv_I V1 (b + 1) l5.toNatClampNeg x) (q2 : y = l5 + 1) (r : rg l5 0 12) (hx : l4 < x) : EN b x y V2 := by
  intro k hk
  have a := r.1
  have c := r.2
  have hx := Int32.lt_iff_toInt_lt.mp hx
  have e5 : y.toInt = l5.toInt + 1 := by
    rw [q2, Int32.toInt_add, show (1 : Int32).toInt = 1 from rfl, bm32 (by omega) (by omega)]
  by_cases e : k = l5.toNatClampNeg
  · subst e
    rw [rd_s q]
    exact Int.le_refl _
  · rw [rd_k q e, fr k]
    have : (k : Int) ≠ l5.toInt := fun z => e (by
      show k = l5.toInt.toNat
      omega)
    have := h k (by omega)
    omega
theorem fb_SI {T : Tb} {G V : sv_V} (S : SIx T G V) {a : Nat} (e : ∀ k, T.1 a k = some (-128, 127)) (s n : Nat) : sv_fb V a s n = true := by
  unfold sv_fb
  rw [List.all_eq_true]
  intro i _
  have r := S.rdA (k := s + i) e
  generalize V.1 a (s + i) = x at r
  have h1 : (-128 : Int32) ≤ x := Int32.le_iff_toInt_le.mpr r.1
  have h2 : x ≤ (127 : Int32) := Int32.le_iff_toInt_le.mpr r.2
  simp [fits, h1, h2]
theorem and_c {x y : Int32} (c : Int32) (h : x = y) : (x &&& c).toInt = (y &&& c).toInt := by rw [h]
theorem hit_S {L : List Nat} {Lm : List (Nat × Option Nat)} {a : Nat} (m : a ∈ L) (k : Nat) (e : L.all (fun a => sv_hit Lm a k) = true) : sv_hit Lm a k = true := List.all_eq_true.mp e a m
theorem nz_om {x : Int32} (h : ¬ x.toInt = 0) : ¬ x = 0 := fun e => h (by rw [e]; rfl)
theorem nz_oml {x : Int64} (h : ¬ x.toInt = 0) : ¬ x = 0 := fun e => h (by rw [e]; rfl)
theorem rg_tmc {x y : Int32} {c l h : Int} (e : x.toInt = c) (p : rg y l h) (a : -2147483648 ≤ min (c * l) (c * h)) (b : max (c * l) (c * h) ≤ 2147483647) : (x * y).toInt = c * y.toInt := by
  have h1 := p.1
  have h2 := p.2
  have k1 : min (c * l) (c * h) ≤ c * y.toInt := by
    rcases Int.le_total 0 c with q | q
    · exact Int.le_trans (Int.min_le_left _ _) (Int.mul_le_mul_of_nonneg_left h1 q)
    · exact Int.le_trans (Int.min_le_right _ _) (Int.mul_le_mul_of_nonpos_left q h2)
  have k2 : c * y.toInt ≤ max (c * l) (c * h) := by
    rcases Int.le_total 0 c with q | q
    · exact Int.le_trans (Int.mul_le_mul_of_nonneg_left h2 q) (Int.le_max_right _ _)
    · exact Int.le_trans (Int.mul_le_mul_of_nonpos_left q h1) (Int.le_max_left _ _)
  rw [Int32.toInt_mul, e, bm32 (by omega) (by omega)]
theorem rl_tmc {x y : Int64} {c l h : Int} (e : x.toInt = c) (p : rl y l h) (a : -9223372036854775808 ≤ min (c * l) (c * h)) (b : max (c * l) (c * h) ≤ 9223372036854775807) : (x * y).toInt = c * y.toInt := by
  have h1 := p.1
  have h2 := p.2
  have k1 : min (c * l) (c * h) ≤ c * y.toInt := by
    rcases Int.le_total 0 c with q | q
    · exact Int.le_trans (Int.min_le_left _ _) (Int.mul_le_mul_of_nonneg_left h1 q)
    · exact Int.le_trans (Int.min_le_right _ _) (Int.mul_le_mul_of_nonpos_left q h2)
  have k2 : c * y.toInt ≤ max (c * l) (c * h) := by
    rcases Int.le_total 0 c with q | q
    · exact Int.le_trans (Int.mul_le_mul_of_nonneg_left h2 q) (Int.le_max_right _ _)
    · exact Int.le_trans (Int.mul_le_mul_of_nonpos_left q h1) (Int.le_max_left _ _)
  rw [Int64.toInt_mul, e, bm64 (by omega) (by omega)]
theorem sh2 {x y : Int32} (r : rg x 0 4) (r2 : rg y 0 16) (h : (2 : Int32) <<< (x &&& 31) ≤ y) : x.toInt ≤ 3 := by
  have h1 := r.1
  have h2 := r.2
  rcases Int.lt_or_le x.toInt 4 with q | q
  · omega
  · have : x = 4 := Int32.toInt_inj.mp (show x.toInt = 4 by omega)
    subst this
    have k := Int32.le_iff_toInt_le.mp h
    have e : ((2 : Int32) <<< ((4 : Int32) &&& 31)).toInt = 32 := by decide
    have := r2.2
    omega
theorem bm32_any (n : Int) (h1 : -8589934592 < n) (h2 : n < 8589934592) : n.bmod 4294967296 = n ∨ n.bmod 4294967296 = n + 4294967296 ∨ n.bmod 4294967296 = n - 4294967296 ∨ n.bmod 4294967296 = n + 8589934592 ∨ n.bmod 4294967296 = n - 8589934592 := by
  have := Int.bmod_eq_emod_of_lt (x := n) (m := 4294967296)
  rw [Int.bmod_def]
  split <;> omega
theorem rg_anya (x y : Int32) : ((x + y).toInt = x.toInt + y.toInt ∨ (x + y).toInt = x.toInt + y.toInt + 4294967296 ∨ (x + y).toInt = x.toInt + y.toInt - 4294967296) ∧ -2147483648 ≤ (x + y).toInt ∧ (x + y).toInt ≤ 2147483647 := by
  have h1 := x.le_toInt
  have h2 := x.toInt_lt
  have h3 := y.le_toInt
  have h4 := y.toInt_lt
  have h5 := (x + y).le_toInt
  have h6 := (x + y).toInt_lt
  have e := Int32.toInt_add x y
  have k := bm32_any (x.toInt + y.toInt) (by omega) (by omega)
  rw [show (2 : Nat) ^ 32 = 4294967296 from rfl] at e
  omega
theorem rg_anys (x y : Int32) : ((x - y).toInt = x.toInt - y.toInt ∨ (x - y).toInt = x.toInt - y.toInt + 4294967296 ∨ (x - y).toInt = x.toInt - y.toInt - 4294967296) ∧ -2147483648 ≤ (x - y).toInt ∧ (x - y).toInt ≤ 2147483647 := by
  have h1 := x.le_toInt
  have h2 := x.toInt_lt
  have h3 := y.le_toInt
  have h4 := y.toInt_lt
  have h5 := (x - y).le_toInt
  have h6 := (x - y).toInt_lt
  have e := Int32.toInt_sub x y
  have k := bm32_any (x.toInt - y.toInt) (by omega) (by omega)
  rw [show (2 : Nat) ^ 32 = 4294967296 from rfl] at e
  omega
theorem rg_sh32 {x : Int32} (r : rg x 0 2) : rg ((32 : Int32) <<< (x &&& 31)) 32 128 := by
  have h1 := r.1
  have h2 := r.2
  have : x = 0 ∨ x = 1 ∨ x = 2 := by
    rcases Int.lt_trichotomy x.toInt 1 with q | q | q
    · exact Or.inl (Int32.toInt_inj.mp (show x.toInt = 0 by omega))
    · exact Or.inr (Or.inl (Int32.toInt_inj.mp q))
    · exact Or.inr (Or.inr (Int32.toInt_inj.mp (show x.toInt = 2 by omega)))
  rcases this with rfl | rfl | rfl <;> exact ⟨by decide, by decide⟩
theorem ti_1 {x y : Int32} {h : Int} (q : y = x + 1) (r : rg x 0 h) (c : h ≤ 2147483646) : y.toInt = x.toInt + 1 := by
  have := r.1
  have := r.2
  rw [q, Int32.toInt_add, show (1 : Int32).toInt = 1 from rfl, bm32 (by omega) (by omega)]
