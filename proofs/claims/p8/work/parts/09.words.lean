/-! words for the functions that the methods are: loops, fewer locals, names for values -/
theorem sx_s0 {α : Type} {l : List α} : ∀ x ∈ ([] : List α), x ∈ l := fun _ h => absurd h List.not_mem_nil
theorem sx_s1 {α : Type} {a : α} {l m : List α} (h : a ∈ l) (t : ∀ x ∈ m, x ∈ l) : ∀ x ∈ a :: m, x ∈ l := List.forall_mem_cons.mpr ⟨h, t⟩
theorem sx_wk {g : sx_G} {q : sx_Y} {d pc : Nat} {lo lo' : List (Nat × Value)} {st : List Value} {M : sx_M} {bc bs : Nat} {P : Option Value → sx_M → Prop} (hs : ∀ x ∈ lo', x ∈ lo) (k : sx_J g q d pc lo' st M bc bs P) : sx_J g q d pc lo st M bc bs P := by
  intro p e R s m args below meth c H locs cells slots mc ms ls C S Wd hS hl h1 h2
  refine k p e R s m args below meth c H locs cells slots mc ms ls C S Wd hS ⟨hl.1, hl.2.1, fun x hx => ?_⟩ h1 h2
  obtain ⟨y, hy, rfl⟩ := List.mem_map.mp hx
  exact hl.2.2 _ (List.mem_map.mpr ⟨y, hs y hy, rfl⟩)
theorem sv_tI {g : sx_G} {q : sx_Y} {d pc : Nat} {lo : List (Nat × Value)} {st : List Value} {V : sv_V} {P : Option Value → sv_V → Prop} {y : Int32} (k : ∀ x, x = y → sv_N g q d pc lo (.int x :: st) V P) : sv_N g q d pc lo (.int y :: st) V P := k y rfl
theorem sv_tJ {g : sx_G} {q : sx_Y} {d pc : Nat} {lo : List (Nat × Value)} {st : List Value} {V : sv_V} {P : Option Value → sv_V → Prop} {y : Int64} (k : ∀ x, x = y → sv_N g q d pc lo (.long x :: st) V P) : sv_N g q d pc lo (.long y :: st) V P := k y rfl
def sx_lp1 {A0 R : Type} (f : (A0 → Option R) → A0 → Option R) : Nat → A0 → Option R
  | 0 => fun _ => none
  | n + 1 => f (sx_lp1 f n)
theorem sx_lp1_ind {A0 R : Type} {f : (A0 → Option R) → A0 → Option R} {r : R} {Q : A0 → Prop} (hf : ∀ k : (A0 → Option R), (∀ a0, k a0 = some r → Q a0) → ∀ a0, f k a0 = some r → Q a0) : ∀ (n : Nat) a0, sx_lp1 f n a0 = some r → Q a0 := by
  intro n
  induction n with
  | zero => intro a0 h; cases h
  | succ n ih => intro a0 h; exact hf _ ih a0 h
def sx_lp2 {A0 A1 R : Type} (f : (A0 → A1 → Option R) → A0 → A1 → Option R) : Nat → A0 → A1 → Option R
  | 0 => fun _ _ => none
  | n + 1 => f (sx_lp2 f n)
theorem sx_lp2_ind {A0 A1 R : Type} {f : (A0 → A1 → Option R) → A0 → A1 → Option R} {r : R} {Q : A0 → A1 → Prop} (hf : ∀ k : (A0 → A1 → Option R), (∀ a0 a1, k a0 a1 = some r → Q a0 a1) → ∀ a0 a1, f k a0 a1 = some r → Q a0 a1) : ∀ (n : Nat) a0 a1, sx_lp2 f n a0 a1 = some r → Q a0 a1 := by
  intro n
  induction n with
  | zero => intro a0 a1 h; cases h
  | succ n ih => intro a0 a1 h; exact hf _ ih a0 a1 h
def sx_lp3 {A0 A1 A2 R : Type} (f : (A0 → A1 → A2 → Option R) → A0 → A1 → A2 → Option R) : Nat → A0 → A1 → A2 → Option R
  | 0 => fun _ _ _ => none
  | n + 1 => f (sx_lp3 f n)
theorem sx_lp3_ind {A0 A1 A2 R : Type} {f : (A0 → A1 → A2 → Option R) → A0 → A1 → A2 → Option R} {r : R} {Q : A0 → A1 → A2 → Prop} (hf : ∀ k : (A0 → A1 → A2 → Option R), (∀ a0 a1 a2, k a0 a1 a2 = some r → Q a0 a1 a2) → ∀ a0 a1 a2, f k a0 a1 a2 = some r → Q a0 a1 a2) : ∀ (n : Nat) a0 a1 a2, sx_lp3 f n a0 a1 a2 = some r → Q a0 a1 a2 := by
  intro n
  induction n with
  | zero => intro a0 a1 a2 h; cases h
  | succ n ih => intro a0 a1 a2 h; exact hf _ ih a0 a1 a2 h
def sx_lp4 {A0 A1 A2 A3 R : Type} (f : (A0 → A1 → A2 → A3 → Option R) → A0 → A1 → A2 → A3 → Option R) : Nat → A0 → A1 → A2 → A3 → Option R
  | 0 => fun _ _ _ _ => none
  | n + 1 => f (sx_lp4 f n)
theorem sx_lp4_ind {A0 A1 A2 A3 R : Type} {f : (A0 → A1 → A2 → A3 → Option R) → A0 → A1 → A2 → A3 → Option R} {r : R} {Q : A0 → A1 → A2 → A3 → Prop} (hf : ∀ k : (A0 → A1 → A2 → A3 → Option R), (∀ a0 a1 a2 a3, k a0 a1 a2 a3 = some r → Q a0 a1 a2 a3) → ∀ a0 a1 a2 a3, f k a0 a1 a2 a3 = some r → Q a0 a1 a2 a3) : ∀ (n : Nat) a0 a1 a2 a3, sx_lp4 f n a0 a1 a2 a3 = some r → Q a0 a1 a2 a3 := by
  intro n
  induction n with
  | zero => intro a0 a1 a2 a3 h; cases h
  | succ n ih => intro a0 a1 a2 a3 h; exact hf _ ih a0 a1 a2 a3 h
def sx_lp5 {A0 A1 A2 A3 A4 R : Type} (f : (A0 → A1 → A2 → A3 → A4 → Option R) → A0 → A1 → A2 → A3 → A4 → Option R) : Nat → A0 → A1 → A2 → A3 → A4 → Option R
  | 0 => fun _ _ _ _ _ => none
  | n + 1 => f (sx_lp5 f n)
theorem sx_lp5_ind {A0 A1 A2 A3 A4 R : Type} {f : (A0 → A1 → A2 → A3 → A4 → Option R) → A0 → A1 → A2 → A3 → A4 → Option R} {r : R} {Q : A0 → A1 → A2 → A3 → A4 → Prop} (hf : ∀ k : (A0 → A1 → A2 → A3 → A4 → Option R), (∀ a0 a1 a2 a3 a4, k a0 a1 a2 a3 a4 = some r → Q a0 a1 a2 a3 a4) → ∀ a0 a1 a2 a3 a4, f k a0 a1 a2 a3 a4 = some r → Q a0 a1 a2 a3 a4) : ∀ (n : Nat) a0 a1 a2 a3 a4, sx_lp5 f n a0 a1 a2 a3 a4 = some r → Q a0 a1 a2 a3 a4 := by
  intro n
  induction n with
  | zero => intro a0 a1 a2 a3 a4 h; cases h
  | succ n ih => intro a0 a1 a2 a3 a4 h; exact hf _ ih a0 a1 a2 a3 a4 h
def sx_lp6 {A0 A1 A2 A3 A4 A5 R : Type} (f : (A0 → A1 → A2 → A3 → A4 → A5 → Option R) → A0 → A1 → A2 → A3 → A4 → A5 → Option R) : Nat → A0 → A1 → A2 → A3 → A4 → A5 → Option R
  | 0 => fun _ _ _ _ _ _ => none
  | n + 1 => f (sx_lp6 f n)
theorem sx_lp6_ind {A0 A1 A2 A3 A4 A5 R : Type} {f : (A0 → A1 → A2 → A3 → A4 → A5 → Option R) → A0 → A1 → A2 → A3 → A4 → A5 → Option R} {r : R} {Q : A0 → A1 → A2 → A3 → A4 → A5 → Prop} (hf : ∀ k : (A0 → A1 → A2 → A3 → A4 → A5 → Option R), (∀ a0 a1 a2 a3 a4 a5, k a0 a1 a2 a3 a4 a5 = some r → Q a0 a1 a2 a3 a4 a5) → ∀ a0 a1 a2 a3 a4 a5, f k a0 a1 a2 a3 a4 a5 = some r → Q a0 a1 a2 a3 a4 a5) : ∀ (n : Nat) a0 a1 a2 a3 a4 a5, sx_lp6 f n a0 a1 a2 a3 a4 a5 = some r → Q a0 a1 a2 a3 a4 a5 := by
  intro n
  induction n with
  | zero => intro a0 a1 a2 a3 a4 a5 h; cases h
  | succ n ih => intro a0 a1 a2 a3 a4 a5 h; exact hf _ ih a0 a1 a2 a3 a4 a5 h
def sx_lp7 {A0 A1 A2 A3 A4 A5 A6 R : Type} (f : (A0 → A1 → A2 → A3 → A4 → A5 → A6 → Option R) → A0 → A1 → A2 → A3 → A4 → A5 → A6 → Option R) : Nat → A0 → A1 → A2 → A3 → A4 → A5 → A6 → Option R
  | 0 => fun _ _ _ _ _ _ _ => none
  | n + 1 => f (sx_lp7 f n)
theorem sx_lp7_ind {A0 A1 A2 A3 A4 A5 A6 R : Type} {f : (A0 → A1 → A2 → A3 → A4 → A5 → A6 → Option R) → A0 → A1 → A2 → A3 → A4 → A5 → A6 → Option R} {r : R} {Q : A0 → A1 → A2 → A3 → A4 → A5 → A6 → Prop} (hf : ∀ k : (A0 → A1 → A2 → A3 → A4 → A5 → A6 → Option R), (∀ a0 a1 a2 a3 a4 a5 a6, k a0 a1 a2 a3 a4 a5 a6 = some r → Q a0 a1 a2 a3 a4 a5 a6) → ∀ a0 a1 a2 a3 a4 a5 a6, f k a0 a1 a2 a3 a4 a5 a6 = some r → Q a0 a1 a2 a3 a4 a5 a6) : ∀ (n : Nat) a0 a1 a2 a3 a4 a5 a6, sx_lp7 f n a0 a1 a2 a3 a4 a5 a6 = some r → Q a0 a1 a2 a3 a4 a5 a6 := by
  intro n
  induction n with
  | zero => intro a0 a1 a2 a3 a4 a5 a6 h; cases h
  | succ n ih => intro a0 a1 a2 a3 a4 a5 a6 h; exact hf _ ih a0 a1 a2 a3 a4 a5 a6 h
def sx_lp8 {A0 A1 A2 A3 A4 A5 A6 A7 R : Type} (f : (A0 → A1 → A2 → A3 → A4 → A5 → A6 → A7 → Option R) → A0 → A1 → A2 → A3 → A4 → A5 → A6 → A7 → Option R) : Nat → A0 → A1 → A2 → A3 → A4 → A5 → A6 → A7 → Option R
  | 0 => fun _ _ _ _ _ _ _ _ => none
  | n + 1 => f (sx_lp8 f n)
theorem sx_lp8_ind {A0 A1 A2 A3 A4 A5 A6 A7 R : Type} {f : (A0 → A1 → A2 → A3 → A4 → A5 → A6 → A7 → Option R) → A0 → A1 → A2 → A3 → A4 → A5 → A6 → A7 → Option R} {r : R} {Q : A0 → A1 → A2 → A3 → A4 → A5 → A6 → A7 → Prop} (hf : ∀ k : (A0 → A1 → A2 → A3 → A4 → A5 → A6 → A7 → Option R), (∀ a0 a1 a2 a3 a4 a5 a6 a7, k a0 a1 a2 a3 a4 a5 a6 a7 = some r → Q a0 a1 a2 a3 a4 a5 a6 a7) → ∀ a0 a1 a2 a3 a4 a5 a6 a7, f k a0 a1 a2 a3 a4 a5 a6 a7 = some r → Q a0 a1 a2 a3 a4 a5 a6 a7) : ∀ (n : Nat) a0 a1 a2 a3 a4 a5 a6 a7, sx_lp8 f n a0 a1 a2 a3 a4 a5 a6 a7 = some r → Q a0 a1 a2 a3 a4 a5 a6 a7 := by
  intro n
  induction n with
  | zero => intro a0 a1 a2 a3 a4 a5 a6 a7 h; cases h
  | succ n ih => intro a0 a1 a2 a3 a4 a5 a6 a7 h; exact hf _ ih a0 a1 a2 a3 a4 a5 a6 a7 h
def sx_lp9 {A0 A1 A2 A3 A4 A5 A6 A7 A8 R : Type} (f : (A0 → A1 → A2 → A3 → A4 → A5 → A6 → A7 → A8 → Option R) → A0 → A1 → A2 → A3 → A4 → A5 → A6 → A7 → A8 → Option R) : Nat → A0 → A1 → A2 → A3 → A4 → A5 → A6 → A7 → A8 → Option R
  | 0 => fun _ _ _ _ _ _ _ _ _ => none
  | n + 1 => f (sx_lp9 f n)
theorem sx_lp9_ind {A0 A1 A2 A3 A4 A5 A6 A7 A8 R : Type} {f : (A0 → A1 → A2 → A3 → A4 → A5 → A6 → A7 → A8 → Option R) → A0 → A1 → A2 → A3 → A4 → A5 → A6 → A7 → A8 → Option R} {r : R} {Q : A0 → A1 → A2 → A3 → A4 → A5 → A6 → A7 → A8 → Prop} (hf : ∀ k : (A0 → A1 → A2 → A3 → A4 → A5 → A6 → A7 → A8 → Option R), (∀ a0 a1 a2 a3 a4 a5 a6 a7 a8, k a0 a1 a2 a3 a4 a5 a6 a7 a8 = some r → Q a0 a1 a2 a3 a4 a5 a6 a7 a8) → ∀ a0 a1 a2 a3 a4 a5 a6 a7 a8, f k a0 a1 a2 a3 a4 a5 a6 a7 a8 = some r → Q a0 a1 a2 a3 a4 a5 a6 a7 a8) : ∀ (n : Nat) a0 a1 a2 a3 a4 a5 a6 a7 a8, sx_lp9 f n a0 a1 a2 a3 a4 a5 a6 a7 a8 = some r → Q a0 a1 a2 a3 a4 a5 a6 a7 a8 := by
  intro n
  induction n with
  | zero => intro a0 a1 a2 a3 a4 a5 a6 a7 a8 h; cases h
  | succ n ih => intro a0 a1 a2 a3 a4 a5 a6 a7 a8 h; exact hf _ ih a0 a1 a2 a3 a4 a5 a6 a7 a8 h
def sx_lp10 {A0 A1 A2 A3 A4 A5 A6 A7 A8 A9 R : Type} (f : (A0 → A1 → A2 → A3 → A4 → A5 → A6 → A7 → A8 → A9 → Option R) → A0 → A1 → A2 → A3 → A4 → A5 → A6 → A7 → A8 → A9 → Option R) : Nat → A0 → A1 → A2 → A3 → A4 → A5 → A6 → A7 → A8 → A9 → Option R
  | 0 => fun _ _ _ _ _ _ _ _ _ _ => none
  | n + 1 => f (sx_lp10 f n)
theorem sx_lp10_ind {A0 A1 A2 A3 A4 A5 A6 A7 A8 A9 R : Type} {f : (A0 → A1 → A2 → A3 → A4 → A5 → A6 → A7 → A8 → A9 → Option R) → A0 → A1 → A2 → A3 → A4 → A5 → A6 → A7 → A8 → A9 → Option R} {r : R} {Q : A0 → A1 → A2 → A3 → A4 → A5 → A6 → A7 → A8 → A9 → Prop} (hf : ∀ k : (A0 → A1 → A2 → A3 → A4 → A5 → A6 → A7 → A8 → A9 → Option R), (∀ a0 a1 a2 a3 a4 a5 a6 a7 a8 a9, k a0 a1 a2 a3 a4 a5 a6 a7 a8 a9 = some r → Q a0 a1 a2 a3 a4 a5 a6 a7 a8 a9) → ∀ a0 a1 a2 a3 a4 a5 a6 a7 a8 a9, f k a0 a1 a2 a3 a4 a5 a6 a7 a8 a9 = some r → Q a0 a1 a2 a3 a4 a5 a6 a7 a8 a9) : ∀ (n : Nat) a0 a1 a2 a3 a4 a5 a6 a7 a8 a9, sx_lp10 f n a0 a1 a2 a3 a4 a5 a6 a7 a8 a9 = some r → Q a0 a1 a2 a3 a4 a5 a6 a7 a8 a9 := by
  intro n
  induction n with
  | zero => intro a0 a1 a2 a3 a4 a5 a6 a7 a8 a9 h; cases h
  | succ n ih => intro a0 a1 a2 a3 a4 a5 a6 a7 a8 a9 h; exact hf _ ih a0 a1 a2 a3 a4 a5 a6 a7 a8 a9 h
def sx_lp11 {A0 A1 A2 A3 A4 A5 A6 A7 A8 A9 A10 R : Type} (f : (A0 → A1 → A2 → A3 → A4 → A5 → A6 → A7 → A8 → A9 → A10 → Option R) → A0 → A1 → A2 → A3 → A4 → A5 → A6 → A7 → A8 → A9 → A10 → Option R) : Nat → A0 → A1 → A2 → A3 → A4 → A5 → A6 → A7 → A8 → A9 → A10 → Option R
  | 0 => fun _ _ _ _ _ _ _ _ _ _ _ => none
  | n + 1 => f (sx_lp11 f n)
theorem sx_lp11_ind {A0 A1 A2 A3 A4 A5 A6 A7 A8 A9 A10 R : Type} {f : (A0 → A1 → A2 → A3 → A4 → A5 → A6 → A7 → A8 → A9 → A10 → Option R) → A0 → A1 → A2 → A3 → A4 → A5 → A6 → A7 → A8 → A9 → A10 → Option R} {r : R} {Q : A0 → A1 → A2 → A3 → A4 → A5 → A6 → A7 → A8 → A9 → A10 → Prop} (hf : ∀ k : (A0 → A1 → A2 → A3 → A4 → A5 → A6 → A7 → A8 → A9 → A10 → Option R), (∀ a0 a1 a2 a3 a4 a5 a6 a7 a8 a9 a10, k a0 a1 a2 a3 a4 a5 a6 a7 a8 a9 a10 = some r → Q a0 a1 a2 a3 a4 a5 a6 a7 a8 a9 a10) → ∀ a0 a1 a2 a3 a4 a5 a6 a7 a8 a9 a10, f k a0 a1 a2 a3 a4 a5 a6 a7 a8 a9 a10 = some r → Q a0 a1 a2 a3 a4 a5 a6 a7 a8 a9 a10) : ∀ (n : Nat) a0 a1 a2 a3 a4 a5 a6 a7 a8 a9 a10, sx_lp11 f n a0 a1 a2 a3 a4 a5 a6 a7 a8 a9 a10 = some r → Q a0 a1 a2 a3 a4 a5 a6 a7 a8 a9 a10 := by
  intro n
  induction n with
  | zero => intro a0 a1 a2 a3 a4 a5 a6 a7 a8 a9 a10 h; cases h
  | succ n ih => intro a0 a1 a2 a3 a4 a5 a6 a7 a8 a9 a10 h; exact hf _ ih a0 a1 a2 a3 a4 a5 a6 a7 a8 a9 a10 h
def sx_lp12 {A0 A1 A2 A3 A4 A5 A6 A7 A8 A9 A10 A11 R : Type} (f : (A0 → A1 → A2 → A3 → A4 → A5 → A6 → A7 → A8 → A9 → A10 → A11 → Option R) → A0 → A1 → A2 → A3 → A4 → A5 → A6 → A7 → A8 → A9 → A10 → A11 → Option R) : Nat → A0 → A1 → A2 → A3 → A4 → A5 → A6 → A7 → A8 → A9 → A10 → A11 → Option R
  | 0 => fun _ _ _ _ _ _ _ _ _ _ _ _ => none
  | n + 1 => f (sx_lp12 f n)
theorem sx_lp12_ind {A0 A1 A2 A3 A4 A5 A6 A7 A8 A9 A10 A11 R : Type} {f : (A0 → A1 → A2 → A3 → A4 → A5 → A6 → A7 → A8 → A9 → A10 → A11 → Option R) → A0 → A1 → A2 → A3 → A4 → A5 → A6 → A7 → A8 → A9 → A10 → A11 → Option R} {r : R} {Q : A0 → A1 → A2 → A3 → A4 → A5 → A6 → A7 → A8 → A9 → A10 → A11 → Prop} (hf : ∀ k : (A0 → A1 → A2 → A3 → A4 → A5 → A6 → A7 → A8 → A9 → A10 → A11 → Option R), (∀ a0 a1 a2 a3 a4 a5 a6 a7 a8 a9 a10 a11, k a0 a1 a2 a3 a4 a5 a6 a7 a8 a9 a10 a11 = some r → Q a0 a1 a2 a3 a4 a5 a6 a7 a8 a9 a10 a11) → ∀ a0 a1 a2 a3 a4 a5 a6 a7 a8 a9 a10 a11, f k a0 a1 a2 a3 a4 a5 a6 a7 a8 a9 a10 a11 = some r → Q a0 a1 a2 a3 a4 a5 a6 a7 a8 a9 a10 a11) : ∀ (n : Nat) a0 a1 a2 a3 a4 a5 a6 a7 a8 a9 a10 a11, sx_lp12 f n a0 a1 a2 a3 a4 a5 a6 a7 a8 a9 a10 a11 = some r → Q a0 a1 a2 a3 a4 a5 a6 a7 a8 a9 a10 a11 := by
  intro n
  induction n with
  | zero => intro a0 a1 a2 a3 a4 a5 a6 a7 a8 a9 a10 a11 h; cases h
  | succ n ih => intro a0 a1 a2 a3 a4 a5 a6 a7 a8 a9 a10 a11 h; exact hf _ ih a0 a1 a2 a3 a4 a5 a6 a7 a8 a9 a10 a11 h
def sx_lp13 {A0 A1 A2 A3 A4 A5 A6 A7 A8 A9 A10 A11 A12 R : Type} (f : (A0 → A1 → A2 → A3 → A4 → A5 → A6 → A7 → A8 → A9 → A10 → A11 → A12 → Option R) → A0 → A1 → A2 → A3 → A4 → A5 → A6 → A7 → A8 → A9 → A10 → A11 → A12 → Option R) : Nat → A0 → A1 → A2 → A3 → A4 → A5 → A6 → A7 → A8 → A9 → A10 → A11 → A12 → Option R
  | 0 => fun _ _ _ _ _ _ _ _ _ _ _ _ _ => none
  | n + 1 => f (sx_lp13 f n)
theorem sx_lp13_ind {A0 A1 A2 A3 A4 A5 A6 A7 A8 A9 A10 A11 A12 R : Type} {f : (A0 → A1 → A2 → A3 → A4 → A5 → A6 → A7 → A8 → A9 → A10 → A11 → A12 → Option R) → A0 → A1 → A2 → A3 → A4 → A5 → A6 → A7 → A8 → A9 → A10 → A11 → A12 → Option R} {r : R} {Q : A0 → A1 → A2 → A3 → A4 → A5 → A6 → A7 → A8 → A9 → A10 → A11 → A12 → Prop} (hf : ∀ k : (A0 → A1 → A2 → A3 → A4 → A5 → A6 → A7 → A8 → A9 → A10 → A11 → A12 → Option R), (∀ a0 a1 a2 a3 a4 a5 a6 a7 a8 a9 a10 a11 a12, k a0 a1 a2 a3 a4 a5 a6 a7 a8 a9 a10 a11 a12 = some r → Q a0 a1 a2 a3 a4 a5 a6 a7 a8 a9 a10 a11 a12) → ∀ a0 a1 a2 a3 a4 a5 a6 a7 a8 a9 a10 a11 a12, f k a0 a1 a2 a3 a4 a5 a6 a7 a8 a9 a10 a11 a12 = some r → Q a0 a1 a2 a3 a4 a5 a6 a7 a8 a9 a10 a11 a12) : ∀ (n : Nat) a0 a1 a2 a3 a4 a5 a6 a7 a8 a9 a10 a11 a12, sx_lp13 f n a0 a1 a2 a3 a4 a5 a6 a7 a8 a9 a10 a11 a12 = some r → Q a0 a1 a2 a3 a4 a5 a6 a7 a8 a9 a10 a11 a12 := by
  intro n
  induction n with
  | zero => intro a0 a1 a2 a3 a4 a5 a6 a7 a8 a9 a10 a11 a12 h; cases h
  | succ n ih => intro a0 a1 a2 a3 a4 a5 a6 a7 a8 a9 a10 a11 a12 h; exact hf _ ih a0 a1 a2 a3 a4 a5 a6 a7 a8 a9 a10 a11 a12 h
def sx_lp14 {A0 A1 A2 A3 A4 A5 A6 A7 A8 A9 A10 A11 A12 A13 R : Type} (f : (A0 → A1 → A2 → A3 → A4 → A5 → A6 → A7 → A8 → A9 → A10 → A11 → A12 → A13 → Option R) → A0 → A1 → A2 → A3 → A4 → A5 → A6 → A7 → A8 → A9 → A10 → A11 → A12 → A13 → Option R) : Nat → A0 → A1 → A2 → A3 → A4 → A5 → A6 → A7 → A8 → A9 → A10 → A11 → A12 → A13 → Option R
  | 0 => fun _ _ _ _ _ _ _ _ _ _ _ _ _ _ => none
  | n + 1 => f (sx_lp14 f n)
theorem sx_lp14_ind {A0 A1 A2 A3 A4 A5 A6 A7 A8 A9 A10 A11 A12 A13 R : Type} {f : (A0 → A1 → A2 → A3 → A4 → A5 → A6 → A7 → A8 → A9 → A10 → A11 → A12 → A13 → Option R) → A0 → A1 → A2 → A3 → A4 → A5 → A6 → A7 → A8 → A9 → A10 → A11 → A12 → A13 → Option R} {r : R} {Q : A0 → A1 → A2 → A3 → A4 → A5 → A6 → A7 → A8 → A9 → A10 → A11 → A12 → A13 → Prop} (hf : ∀ k : (A0 → A1 → A2 → A3 → A4 → A5 → A6 → A7 → A8 → A9 → A10 → A11 → A12 → A13 → Option R), (∀ a0 a1 a2 a3 a4 a5 a6 a7 a8 a9 a10 a11 a12 a13, k a0 a1 a2 a3 a4 a5 a6 a7 a8 a9 a10 a11 a12 a13 = some r → Q a0 a1 a2 a3 a4 a5 a6 a7 a8 a9 a10 a11 a12 a13) → ∀ a0 a1 a2 a3 a4 a5 a6 a7 a8 a9 a10 a11 a12 a13, f k a0 a1 a2 a3 a4 a5 a6 a7 a8 a9 a10 a11 a12 a13 = some r → Q a0 a1 a2 a3 a4 a5 a6 a7 a8 a9 a10 a11 a12 a13) : ∀ (n : Nat) a0 a1 a2 a3 a4 a5 a6 a7 a8 a9 a10 a11 a12 a13, sx_lp14 f n a0 a1 a2 a3 a4 a5 a6 a7 a8 a9 a10 a11 a12 a13 = some r → Q a0 a1 a2 a3 a4 a5 a6 a7 a8 a9 a10 a11 a12 a13 := by
  intro n
  induction n with
  | zero => intro a0 a1 a2 a3 a4 a5 a6 a7 a8 a9 a10 a11 a12 a13 h; cases h
  | succ n ih => intro a0 a1 a2 a3 a4 a5 a6 a7 a8 a9 a10 a11 a12 a13 h; exact hf _ ih a0 a1 a2 a3 a4 a5 a6 a7 a8 a9 a10 a11 a12 a13 h
def sx_lp15 {A0 A1 A2 A3 A4 A5 A6 A7 A8 A9 A10 A11 A12 A13 A14 R : Type} (f : (A0 → A1 → A2 → A3 → A4 → A5 → A6 → A7 → A8 → A9 → A10 → A11 → A12 → A13 → A14 → Option R) → A0 → A1 → A2 → A3 → A4 → A5 → A6 → A7 → A8 → A9 → A10 → A11 → A12 → A13 → A14 → Option R) : Nat → A0 → A1 → A2 → A3 → A4 → A5 → A6 → A7 → A8 → A9 → A10 → A11 → A12 → A13 → A14 → Option R
  | 0 => fun _ _ _ _ _ _ _ _ _ _ _ _ _ _ _ => none
  | n + 1 => f (sx_lp15 f n)
theorem sx_lp15_ind {A0 A1 A2 A3 A4 A5 A6 A7 A8 A9 A10 A11 A12 A13 A14 R : Type} {f : (A0 → A1 → A2 → A3 → A4 → A5 → A6 → A7 → A8 → A9 → A10 → A11 → A12 → A13 → A14 → Option R) → A0 → A1 → A2 → A3 → A4 → A5 → A6 → A7 → A8 → A9 → A10 → A11 → A12 → A13 → A14 → Option R} {r : R} {Q : A0 → A1 → A2 → A3 → A4 → A5 → A6 → A7 → A8 → A9 → A10 → A11 → A12 → A13 → A14 → Prop} (hf : ∀ k : (A0 → A1 → A2 → A3 → A4 → A5 → A6 → A7 → A8 → A9 → A10 → A11 → A12 → A13 → A14 → Option R), (∀ a0 a1 a2 a3 a4 a5 a6 a7 a8 a9 a10 a11 a12 a13 a14, k a0 a1 a2 a3 a4 a5 a6 a7 a8 a9 a10 a11 a12 a13 a14 = some r → Q a0 a1 a2 a3 a4 a5 a6 a7 a8 a9 a10 a11 a12 a13 a14) → ∀ a0 a1 a2 a3 a4 a5 a6 a7 a8 a9 a10 a11 a12 a13 a14, f k a0 a1 a2 a3 a4 a5 a6 a7 a8 a9 a10 a11 a12 a13 a14 = some r → Q a0 a1 a2 a3 a4 a5 a6 a7 a8 a9 a10 a11 a12 a13 a14) : ∀ (n : Nat) a0 a1 a2 a3 a4 a5 a6 a7 a8 a9 a10 a11 a12 a13 a14, sx_lp15 f n a0 a1 a2 a3 a4 a5 a6 a7 a8 a9 a10 a11 a12 a13 a14 = some r → Q a0 a1 a2 a3 a4 a5 a6 a7 a8 a9 a10 a11 a12 a13 a14 := by
  intro n
  induction n with
  | zero => intro a0 a1 a2 a3 a4 a5 a6 a7 a8 a9 a10 a11 a12 a13 a14 h; cases h
  | succ n ih => intro a0 a1 a2 a3 a4 a5 a6 a7 a8 a9 a10 a11 a12 a13 a14 h; exact hf _ ih a0 a1 a2 a3 a4 a5 a6 a7 a8 a9 a10 a11 a12 a13 a14 h
def sx_lp16 {A0 A1 A2 A3 A4 A5 A6 A7 A8 A9 A10 A11 A12 A13 A14 A15 R : Type} (f : (A0 → A1 → A2 → A3 → A4 → A5 → A6 → A7 → A8 → A9 → A10 → A11 → A12 → A13 → A14 → A15 → Option R) → A0 → A1 → A2 → A3 → A4 → A5 → A6 → A7 → A8 → A9 → A10 → A11 → A12 → A13 → A14 → A15 → Option R) : Nat → A0 → A1 → A2 → A3 → A4 → A5 → A6 → A7 → A8 → A9 → A10 → A11 → A12 → A13 → A14 → A15 → Option R
  | 0 => fun _ _ _ _ _ _ _ _ _ _ _ _ _ _ _ _ => none
  | n + 1 => f (sx_lp16 f n)
theorem sx_lp16_ind {A0 A1 A2 A3 A4 A5 A6 A7 A8 A9 A10 A11 A12 A13 A14 A15 R : Type} {f : (A0 → A1 → A2 → A3 → A4 → A5 → A6 → A7 → A8 → A9 → A10 → A11 → A12 → A13 → A14 → A15 → Option R) → A0 → A1 → A2 → A3 → A4 → A5 → A6 → A7 → A8 → A9 → A10 → A11 → A12 → A13 → A14 → A15 → Option R} {r : R} {Q : A0 → A1 → A2 → A3 → A4 → A5 → A6 → A7 → A8 → A9 → A10 → A11 → A12 → A13 → A14 → A15 → Prop} (hf : ∀ k : (A0 → A1 → A2 → A3 → A4 → A5 → A6 → A7 → A8 → A9 → A10 → A11 → A12 → A13 → A14 → A15 → Option R), (∀ a0 a1 a2 a3 a4 a5 a6 a7 a8 a9 a10 a11 a12 a13 a14 a15, k a0 a1 a2 a3 a4 a5 a6 a7 a8 a9 a10 a11 a12 a13 a14 a15 = some r → Q a0 a1 a2 a3 a4 a5 a6 a7 a8 a9 a10 a11 a12 a13 a14 a15) → ∀ a0 a1 a2 a3 a4 a5 a6 a7 a8 a9 a10 a11 a12 a13 a14 a15, f k a0 a1 a2 a3 a4 a5 a6 a7 a8 a9 a10 a11 a12 a13 a14 a15 = some r → Q a0 a1 a2 a3 a4 a5 a6 a7 a8 a9 a10 a11 a12 a13 a14 a15) : ∀ (n : Nat) a0 a1 a2 a3 a4 a5 a6 a7 a8 a9 a10 a11 a12 a13 a14 a15, sx_lp16 f n a0 a1 a2 a3 a4 a5 a6 a7 a8 a9 a10 a11 a12 a13 a14 a15 = some r → Q a0 a1 a2 a3 a4 a5 a6 a7 a8 a9 a10 a11 a12 a13 a14 a15 := by
  intro n
  induction n with
  | zero => intro a0 a1 a2 a3 a4 a5 a6 a7 a8 a9 a10 a11 a12 a13 a14 a15 h; cases h
  | succ n ih => intro a0 a1 a2 a3 a4 a5 a6 a7 a8 a9 a10 a11 a12 a13 a14 a15 h; exact hf _ ih a0 a1 a2 a3 a4 a5 a6 a7 a8 a9 a10 a11 a12 a13 a14 a15 h
