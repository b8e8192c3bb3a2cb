/-! FRAMES: which places a function may change. A list of (cell, field) or (cell, none: the whole array) -/
def sv_hit (L : List (Nat × Option Nat)) (a k : Nat) : Bool := L.any fun q => q.1 == a && (q.2 == none || q.2 == some k)
def sv_eq (L : List (Nat × Option Nat)) (V W : sv_V) : Prop := ∀ a k, sv_hit L a k = false → W.1 a k = V.1 a k ∧ W.2.1 a k = V.2.1 a k ∧ W.2.2 a k = V.2.2 a k
def sv_sub (A B : List (Nat × Option Nat)) : Prop := ∀ a k, sv_hit A a k = true → sv_hit B a k = true
theorem sv_eq_rf {L : List (Nat × Option Nat)} {V : sv_V} : sv_eq L V V := fun _ _ _ => ⟨rfl, rfl, rfl⟩
theorem sv_eq.trans {L : List (Nat × Option Nat)} {U V W : sv_V} (h1 : sv_eq L U V) (h2 : sv_eq L V W) : sv_eq L U W := fun a k h => ⟨(h2 a k h).1.trans (h1 a k h).1, (h2 a k h).2.1.trans (h1 a k h).2.1, (h2 a k h).2.2.trans (h1 a k h).2.2⟩
theorem sv_eq_I {L : List (Nat × Option Nat)} {V W : sv_V} {a k : Nat} {x : Int32} (hW : W = sv_I V a k x) (h : sv_hit L a k = true) : sv_eq L V W := by
  subst hW
  intro b j hb
  refine ⟨?_, rfl, rfl⟩
  show (if b = a ∧ j = k then x else V.1 b j) = V.1 b j
  rw [if_neg]
  rintro ⟨rfl, rfl⟩
  rw [h] at hb
  cases hb
theorem sv_eq_L {L : List (Nat × Option Nat)} {V W : sv_V} {a k : Nat} {x : Int64} (hW : W = sv_L V a k x) (h : sv_hit L a k = true) : sv_eq L V W := by
  subst hW
  intro b j hb
  refine ⟨rfl, ?_, rfl⟩
  show (if b = a ∧ j = k then x else V.2.1 b j) = V.2.1 b j
  rw [if_neg]
  rintro ⟨rfl, rfl⟩
  rw [h] at hb
  cases hb
theorem sv_eq_R {L : List (Nat × Option Nat)} {V W : sv_V} {a k : Nat} {x : Option Nat} (hW : W = sv_R V a k x) (h : sv_hit L a k = true) : sv_eq L V W := by
  subst hW
  intro b j hb
  refine ⟨rfl, rfl, ?_⟩
  show (if b = a ∧ j = k then x else V.2.2 b j) = V.2.2 b j
  rw [if_neg]
  rintro ⟨rfl, rfl⟩
  rw [h] at hb
  cases hb
theorem sv_eq_C {L : List (Nat × Option Nat)} {V W : sv_V} {a sp b dp n : Nat} (hW : W = sv_C V a sp b dp n) (h : ∀ k, sv_hit L b k = true) : sv_eq L V W := by
  subst hW
  intro c j hb
  refine ⟨?_, rfl, rfl⟩
  show (if c = b then va_cpy (V.1 a) (V.1 b) sp dp n j else V.1 c j) = V.1 c j
  rw [if_neg]
  rintro rfl
  rw [h] at hb
  cases hb
theorem sv_hit_n {L : List (Nat × Option Nat)} {a : Nat} (h : L.contains (a, none) = true) (k : Nat) : sv_hit L a k = true := by
  unfold sv_hit
  rw [List.any_eq_true]
  exact ⟨(a, none), List.contains_iff_mem.mp h, by simp⟩
theorem sv_sub.sub {A B C : List (Nat × Option Nat)} (h : sv_sub B C) (hs : A.all (fun q => B.contains q) = true) : sv_sub A C := fun a k hk => by
  refine h a k ?_
  unfold sv_hit at hk ⊢
  rw [List.any_eq_true] at hk ⊢
  obtain ⟨q, hq, hv⟩ := hk
  exact ⟨q, List.contains_iff_mem.mp (List.all_eq_true.mp hs q hq), hv⟩
theorem sv_sub_rf {A : List (Nat × Option Nat)} : sv_sub A A := fun _ _ h => h
theorem sx_letX {α β : Type} {e : α} {f : α → β} {y : β} (h : sx_let e f = y) : ∃ x, x = e ∧ f x = y := ⟨e, rfl, h⟩
theorem sx_ite {α : Type} {c : Prop} [Decidable c] {a b y : α} (h : (if c then a else b) = y) : (c ∧ a = y) ∨ (¬ c ∧ b = y) := by
  by_cases hc : c
  · exact Or.inl ⟨hc, sx_pos hc h⟩
  · exact Or.inr ⟨hc, sx_neg hc h⟩
theorem lay_i8 {p : Nat} (h : lay p = .inl 8) : p ∈ [17, 34, 48, 82, 93, 103, 113, 123, 133] := by
  have hp := (lay_o h).1
  have key : ∀ p, p < 206 → lay p = .inl 8 → p ∈ [17, 34, 48, 82, 93, 103, 113, 123, 133] := by decide +kernel
  exact key p hp h
theorem sv_hitO8 {L : List (Nat × Option Nat)} {p k : Nat} (h : ([17, 34, 48, 82, 93, 103, 113, 123, 133]).all (fun p => sv_hit L p k) = true) (hp : lay p = .inl 8) : sv_hit L p k = true := List.all_eq_true.mp h p (lay_i8 hp)
theorem sv_hitA8 {L : List (Nat × Option Nat)} {p k b : Nat} (h : ([17, 34, 48, 82, 93, 103, 113, 123, 133]).all (fun p => match cr p k with | some b => L.contains (b, none) | none => true) = true) (hp : lay p = .inl 8) (hb : cr p k = some b) (j : Nat) : sv_hit L b j = true := by
  have := List.all_eq_true.mp h p (lay_i8 hp)
  rw [hb] at this
  exact sv_hit_n this j
theorem lay_i7 {p : Nat} (h : lay p = .inl 7) : p ∈ [31, 45] := by
  have hp := (lay_o h).1
  have key : ∀ p, p < 206 → lay p = .inl 7 → p ∈ [31, 45] := by decide +kernel
  exact key p hp h
theorem sv_hitO7 {L : List (Nat × Option Nat)} {p k : Nat} (h : ([31, 45]).all (fun p => sv_hit L p k) = true) (hp : lay p = .inl 7) : sv_hit L p k = true := List.all_eq_true.mp h p (lay_i7 hp)
theorem sv_hitA7 {L : List (Nat × Option Nat)} {p k b : Nat} (h : ([31, 45]).all (fun p => match cr p k with | some b => L.contains (b, none) | none => true) = true) (hp : lay p = .inl 7) (hb : cr p k = some b) (j : Nat) : sv_hit L b j = true := by
  have := List.all_eq_true.mp h p (lay_i7 hp)
  rw [hb] at this
  exact sv_hit_n this j
theorem cr_rows7 {i b : Nat} (h : cr 7 i = some b) : b ∈ [8, 9, 10, 11, 12, 13, 14, 15] := by
  have key : ∀ i, i < 8 → ∀ b, cr 7 i = some b → b ∈ [8, 9, 10, 11, 12, 13, 14, 15] := by
    intro i hi
    have : ∀ i, i < 8 → (match cr 7 i with | some b => decide (b ∈ [8, 9, 10, 11, 12, 13, 14, 15]) | none => true) = true := by decide +kernel
    intro b hb
    have h2 := this i hi
    rw [hb] at h2
    exact of_decide_eq_true h2
  by_cases hi : i < 8
  · exact key i hi b h
  · have : cr 7 i = none := by
      unfold cr
      have e : (crL.getD 7 []).getD i 0 = 0 := by
        rw [List.getD_eq_getElem?_getD, List.getElem?_eq_none (by show 8 ≤ i; omega)]
        rfl
      rw [e]
    rw [this] at h
    cases h
theorem sv_hitR7 {L : List (Nat × Option Nat)} {i b : Nat} (h : ([8, 9, 10, 11, 12, 13, 14, 15]).all (fun b => L.contains (b, none)) = true) (hb : cr 7 i = some b) (j : Nat) : sv_hit L b j = true := sv_hit_n (List.all_eq_true.mp h b (cr_rows7 hb)) j
theorem cr_rows59 {i b : Nat} (h : cr 59 i = some b) : b ∈ [93, 103, 113, 123, 133] := by
  have key : ∀ i, i < 5 → ∀ b, cr 59 i = some b → b ∈ [93, 103, 113, 123, 133] := by
    intro i hi
    have : ∀ i, i < 5 → (match cr 59 i with | some b => decide (b ∈ [93, 103, 113, 123, 133]) | none => true) = true := by decide +kernel
    intro b hb
    have h2 := this i hi
    rw [hb] at h2
    exact of_decide_eq_true h2
  by_cases hi : i < 5
  · exact key i hi b h
  · have : cr 59 i = none := by
      unfold cr
      have e : (crL.getD 59 []).getD i 0 = 0 := by
        rw [List.getD_eq_getElem?_getD, List.getElem?_eq_none (by show 5 ≤ i; omega)]
        rfl
      rw [e]
    rw [this] at h
    cases h
theorem sv_hitR59 {L : List (Nat × Option Nat)} {i b : Nat} (h : ([93, 103, 113, 123, 133]).all (fun b => L.contains (b, none)) = true) (hb : cr 59 i = some b) (j : Nat) : sv_hit L b j = true := sv_hit_n (List.all_eq_true.mp h b (cr_rows59 hb)) j
