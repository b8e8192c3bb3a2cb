/-! 11 GLYPHS: what is asked -/
def GB (d : Nat → Int32) (n g : Nat) : Nat := bO d n 1735162214 + pl d n g
/-- how many points: the last contour's last one and 1 -/
def gM (d : Nat → Int32) (n b c : Nat) : Nat := if c = 0 then 0 else g2 d n (b + 8 + 2 * c) + 1
def cons (f : Nat) (one other : Int32) : Nat := if nI f &&& one = 0 then (if nI f &&& other = 0 then 2 else 0) else 1
def csum (f : Nat → Nat) (one other : Int32) (m : Nat) : Nat := match m with
  | 0 => 0
  | m + 1 => csum f one other m + cons (f m) one other
/-- how many bytes flags take, how many more points -/
def fW (d : Nat → Int32) (n p : Nat) : Nat := if nI (g1 d n p) &&& 8 = 0 then 1 else 2
def fMo (d : Nat → Int32) (n p : Nat) : Nat := if nI (g1 d n p) &&& 8 = 0 then 0 else g1 d n (p + 1)
/-- after t flags: the place, the points, their flags -/
def fst' (d : Nat → Int32) (n q t : Nat) : Nat × Nat × (Nat → Nat) := match t with
  | 0 => (q, 0, fun _ => 0)
  | t + 1 => ((fst' d n q t).1 + fW d n (fst' d n q t).1, (fst' d n q t).2.1 + fMo d n (fst' d n q t).1 + 1, fun i => if (fst' d n q t).2.1 ≤ i then g1 d n (fst' d n q t).1 else (fst' d n q t).2.2 i)
def fP (d : Nat → Int32) (n q t : Nat) : Nat := (fst' d n q t).1
def fK (d : Nat → Int32) (n q t : Nat) : Nat := (fst' d n q t).2.1
def fF (d : Nat → Int32) (n q t : Nat) : Nat → Nat := (fst' d n q t).2.2
def FLn (d : Nat → Int32) (n q m e t : Nat) : Prop := (∀ j, j < t → fK d n q j < m ∧ fP d n q (j + 1) ≤ e ∧ fK d n q (j + 1) ≤ m) ∧ fK d n q t = m
def SPr (d : Nat → Int32) (n b e c t : Nat) : Prop := b + 12 + 2 * c ≤ e ∧ (∀ j, j < c → g2 d n (b + 10 + 2 * j) < 100 ∧ (1 ≤ j → g2 d n (b + 8 + 2 * j) < g2 d n (b + 10 + 2 * j))) ∧ g2 d n (b + 10 + 2 * c) ≤ 400 ∧ b + 12 + 2 * c + g2 d n (b + 10 + 2 * c) ≤ e ∧ FLn d n (b + 12 + 2 * c + g2 d n (b + 10 + 2 * c)) (gM d n b c) e t ∧ fP d n (b + 12 + 2 * c + g2 d n (b + 10 + 2 * c)) t + csum (fF d n (b + 12 + 2 * c + g2 d n (b + 10 + 2 * c)) t) 2 16 (gM d n b c) + csum (fF d n (b + 12 + 2 * c + g2 d n (b + 10 + 2 * c)) t) 4 32 (gM d n b c) ≤ e
def SPv (d : Nat → Int32) (n b e c : Nat) : Prop := ∃ t, SPr d n b e c t
/-- the parts -/
def pW (f : Nat) : Nat := if nI f &&& 1 = 0 then 2 else 4
def pS (f : Nat) : Nat := if nI f &&& 8 = 0 then (if nI f &&& 64 = 0 then (if nI f &&& 128 = 0 then 0 else 4) else 2) else 1
def pos (d : Nat → Int32) (n b k : Nat) : Nat := match k with
  | 0 => b + 10
  | k + 1 => pos d n b k + 4 + pW (g2 d n (pos d n b k)) + 2 * pS (g2 d n (pos d n b k))
def CPk (d : Nat → Int32) (n b e k : Nat) : Prop := g2 d n (pos d n b k + 2) < glO d n ∧ pos d n b (k + 1) ≤ e
def CPn (d : Nat → Int32) (n b e m : Nat) : Prop := 1 ≤ m ∧ m ≤ 8 ∧ (∀ k, k < m → CPk d n b e k) ∧ (∀ k, k + 1 < m → ¬ nI (g2 d n (pos d n b k)) &&& 32 = 0) ∧ nI (g2 d n (pos d n b (m - 1))) &&& 32 = 0
def CPg (d : Nat → Int32) (n b e m : Nat) : Prop := nI (g2 d n (pos d n b (m - 1))) &&& 256 = 0 ∨ (pos d n b m + 2 ≤ e ∧ g2 d n (pos d n b m) ≤ 400 ∧ pos d n b m + 2 + g2 d n (pos d n b m) ≤ e)
def CPv (d : Nat → Int32) (n b e : Nat) : Prop := ∃ m, CPn d n b e m ∧ CPg d n b e m
def GH (d : Nat → Int32) (n g : Nat) : Prop := GB d n g = GB d n (g + 1) ∨ (GB d n g + 10 ≤ GB d n (g + 1) ∧ ((g2 d n (GB d n g) ≤ 12 ∧ SPv d n (GB d n g) (GB d n (g + 1)) (g2 d n (GB d n g))) ∨ (g2 d n (GB d n g) = 65535 ∧ CPv d n (GB d n g) (GB d n (g + 1)))))
section GS
variable {d : Nat → Int32} {n : Nat}
theorem CPn_u {b e m m' : Nat} (h : CPn d n b e m) (h' : CPn d n b e m') : m = m' := by
  rcases Nat.lt_trichotomy m m' with z | z | z
  · exact absurd h.2.2.2.2 (h'.2.2.2.1 (m - 1) (by have := h.1; omega))
  · exact z
  · exact absurd h'.2.2.2.2 (h.2.2.2.1 (m' - 1) (by have := h'.1; omega))
theorem fW_b {p : Nat} : 1 ≤ fW d n p ∧ fW d n p ≤ 2 := by
  unfold fW
  split <;> omega
theorem fMo_b {p : Nat} : fMo d n p < 256 := by
  unfold fMo
  split
  · decide
  · exact g1_lt
theorem fP_s {q t : Nat} : fP d n q (t + 1) = fP d n q t + fW d n (fP d n q t) := rfl
theorem fK_s {q t : Nat} : fK d n q (t + 1) = fK d n q t + fMo d n (fP d n q t) + 1 := rfl
theorem fF_s {q t i : Nat} : fF d n q (t + 1) i = if fK d n q t ≤ i then g1 d n (fP d n q t) else fF d n q t i := rfl
theorem fK_ge {q : Nat} : ∀ t, t ≤ fK d n q t := by
  intro t
  induction t with
  | zero => exact Nat.zero_le _
  | succ t ih =>
    rw [fK_s]
    omega
theorem fK_lt {q : Nat} {s : Nat} : ∀ t, s < t → fK d n q s < fK d n q t := by
  intro t
  induction t with
  | zero => intro h; omega
  | succ t ih =>
    intro h
    rw [fK_s]
    rcases Nat.lt_or_ge s t with z | z
    · have := ih z
      omega
    · rw [show s = t by omega]
      omega
theorem FLn_u {q m e t t' : Nat} (h : FLn d n q m e t) (h' : FLn d n q m e t') : t = t' := by
  rcases Nat.lt_trichotomy t t' with z | z | z
  · have := fK_lt (d := d) (n := n) (q := q) _ z
    have := h.2
    have := h'.2
    omega
  · exact z
  · have := fK_lt (d := d) (n := n) (q := q) _ z
    have := h.2
    have := h'.2
    omega
theorem pW_b {f : Nat} : 2 ≤ pW f ∧ pW f ≤ 4 := by
  unfold pW
  split <;> omega
theorem pS_b {f : Nat} : pS f ≤ 4 := by
  unfold pS
  split
  · split
    · split <;> omega
    · omega
  · omega
theorem pos_s {b k : Nat} : pos d n b (k + 1) = pos d n b k + 4 + pW (g2 d n (pos d n b k)) + 2 * pS (g2 d n (pos d n b k)) := rfl
theorem pos_mono {b j : Nat} : ∀ k, j ≤ k → pos d n b j ≤ pos d n b k := by
  intro k
  induction k with
  | zero => intro h; rw [show j = 0 by omega]; exact Nat.le_refl _
  | succ k ih =>
    intro h
    rcases Nat.lt_or_ge j (k + 1) with z | z
    · have := ih (by omega)
      rw [pos_s]
      omega
    · rw [show j = k + 1 by omega]
      exact Nat.le_refl _
theorem pos_le {b : Nat} : ∀ k, pos d n b k ≤ b + 10 + 16 * k := by
  intro k
  induction k with
  | zero => exact Nat.le_refl _
  | succ k ih =>
    have h1 := pW_b (f := g2 d n (pos d n b k))
    have h2 := pS_b (f := g2 d n (pos d n b k))
    rw [pos_s]
    omega
theorem cons_b {f : Nat} {x y : Int32} : cons f x y ≤ 2 := by
  unfold cons
  split
  · split <;> omega
  · omega
theorem csum_b {f : Nat → Nat} {x y : Int32} : ∀ m, csum f x y m ≤ 2 * m := by
  intro m
  induction m with
  | zero => exact Nat.le_refl _
  | succ m ih =>
    have := cons_b (f := f m) (x := x) (y := y)
    show csum f x y m + _ ≤ _
    omega
theorem csum_mono {f : Nat → Nat} {x y : Int32} {j : Nat} : ∀ m, j ≤ m → csum f x y j ≤ csum f x y m := by
  intro m
  induction m with
  | zero => intro h; rw [show j = 0 by omega]; exact Nat.le_refl _
  | succ m ih =>
    intro h
    rcases Nat.lt_or_ge j (m + 1) with z | z
    · exact Nat.le_trans (ih (by omega)) (Nat.le_add_right _ _)
    · rw [show j = m + 1 by omega]
      exact Nat.le_refl _
end GS
