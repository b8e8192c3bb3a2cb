/-! WHAT THE TWO CONSTRUCTORS LEAVE: ints (0, but where a constructor wrote), longs 0 -/
/-- what was written last at (a, k), else 0 -/
def wl (w : List (Nat × Nat × Int32)) (a k : Nat) : Int32 := match w with
  | [] => 0
  | q :: r => if q.1 = a ∧ q.2.1 = k then q.2.2 else wl r a k
def PI (n : Nat) (M : sx_M) (w : List (Nat × Nat × Int32)) : Prop := M.1 = n ∧ (∀ q ∈ w, q.1 < n) ∧ (∀ a k, a < n → M.2.1 a k = wl w a k) ∧ ∀ a k, M.2.2.1 a k = 0
theorem wl_no {w : List (Nat × Nat × Int32)} {a : Nat} (h : ∀ q ∈ w, q.1 ≠ a) (k : Nat) : wl w a k = 0 := by
  induction w with
  | nil => rfl
  | cons q r ih =>
    unfold wl
    rw [if_neg (fun e => h q List.mem_cons_self e.1)]
    exact ih (fun q hq => h q (List.mem_cons_of_mem _ hq))
theorem pi_nw {n : Nat} {M : sx_M} {w : List (Nat × Nat × Int32)} (h : PI n M w) : PI (n + 1) (sx_nw M) w := by
  obtain ⟨rfl, h2, h3, h4⟩ := h
  refine ⟨rfl, fun q hq => Nat.lt_succ_of_lt (h2 q hq), fun a k ha => ?_, fun a k => ?_⟩
  · show (if a = M.1 then 0 else M.2.1 a k) = _
    by_cases e : a = M.1
    · rw [if_pos e, wl_no (fun q hq q2 => absurd (h2 q hq) (by omega))]
    · rw [if_neg e]; exact h3 a k (by omega)
  · show (if a = M.1 then 0 else M.2.2.1 a k) = 0
    split
    · rfl
    · exact h4 a k
theorem pi_nm {n N : Nat} {M : sx_M} {w : List (Nat × Nat × Int32)} (h : PI n M w) : PI (n + (1 + N)) (sx_nm M N) w := by
  obtain ⟨rfl, h2, h3, h4⟩ := h
  refine ⟨rfl, fun q hq => Nat.lt_of_lt_of_le (h2 q hq) (by omega), fun a k ha => ?_, fun a k => ?_⟩
  · show (if M.1 ≤ a ∧ a < M.1 + (1 + N) then 0 else M.2.1 a k) = _
    by_cases e : M.1 ≤ a ∧ a < M.1 + (1 + N)
    · rw [if_pos e, wl_no (fun q hq q2 => absurd (h2 q hq) (by omega))]
    · rw [if_neg e]; exact h3 a k (by omega)
  · show (if M.1 ≤ a ∧ a < M.1 + (1 + N) then 0 else M.2.2.1 a k) = 0
    split
    · rfl
    · exact h4 a k
theorem pi_sR {n a k : Nat} {x : Option Nat} {M : sx_M} {w : List (Nat × Nat × Int32)} (h : PI n M w) : PI n (sx_sR M a k x) w := h
theorem pi_sI {n a k : Nat} {x : Int32} {M : sx_M} {w : List (Nat × Nat × Int32)} (ha : a < n) (h : PI n M w) : PI n (sx_sI M a k x) ((a, k, x) :: w) := by
  obtain ⟨h1, h2, h3, h4⟩ := h
  refine ⟨h1, List.forall_mem_cons.mpr ⟨ha, h2⟩, fun b j hb => ?_, h4⟩
  show (if b = a ∧ j = k then x else M.2.1 b j) = (if a = b ∧ k = j then x else wl w b j)
  by_cases e : b = a ∧ j = k
  · rw [if_pos e, if_pos ⟨e.1.symm, e.2.symm⟩]
  · rw [if_neg e, if_neg (fun q => e ⟨q.1.symm, q.2.symm⟩)]; exact h3 b j hb
def lwr_0 (w : List (Nat × Nat × Int32)) : List (Nat × Nat × Int32) := w
theorem e_0_I {M : sx_M} {w : List (Nat × Nat × Int32)} (h : PI 3 M w) : PI 16 (e_0 M) (lwr_0 w) := pi_sR (pi_nm (pi_sR (pi_nw (pi_sR (pi_nw (pi_sR (pi_nw (pi_sR (pi_nw (h))))))))))
def lwr_1 (w : List (Nat × Nat × Int32)) : List (Nat × Nat × Int32) := (17, 11, 0) :: (w)
theorem e_1_I {M : sx_M} {w : List (Nat × Nat × Int32)} (h : PI 18 M w) : PI 27 (e_1 M) (lwr_1 w) := pi_sI (by decide) (pi_sR (pi_nw (pi_sR (pi_nw (pi_sR (pi_nw (pi_sR (pi_nw (pi_sR (pi_nw (pi_sR (pi_nw (pi_sR (pi_nw (pi_sR (pi_nw (pi_sR (pi_nw (h)))))))))))))))))))
def lwr_2 (w : List (Nat × Nat × Int32)) : List (Nat × Nat × Int32) := lwr_1 (w)
theorem e_2_I {M : sx_M} {w : List (Nat × Nat × Int32)} (h : PI 17 M w) : PI 29 (e_2 M) (lwr_2 w) := pi_sR (pi_sR (pi_nw (pi_sR (pi_nw (pi_sR (e_1_I (pi_nw (h))))))))
def lwr_3 (w : List (Nat × Nat × Int32)) : List (Nat × Nat × Int32) := w
theorem e_3_I {M : sx_M} {w : List (Nat × Nat × Int32)} (h : PI 30 M w) : PI 30 (e_3 M) (lwr_3 w) := pi_sR (pi_sR (h))
def lwr_4 (w : List (Nat × Nat × Int32)) : List (Nat × Nat × Int32) := (34, 11, 0) :: (w)
theorem e_4_I {M : sx_M} {w : List (Nat × Nat × Int32)} (h : PI 35 M w) : PI 44 (e_4 M) (lwr_4 w) := pi_sI (by decide) (pi_sR (pi_nw (pi_sR (pi_nw (pi_sR (pi_nw (pi_sR (pi_nw (pi_sR (pi_nw (pi_sR (pi_nw (pi_sR (pi_nw (pi_sR (pi_nw (pi_sR (pi_nw (h)))))))))))))))))))
def lwr_5 (w : List (Nat × Nat × Int32)) : List (Nat × Nat × Int32) := lwr_4 (w)
theorem e_5_I {M : sx_M} {w : List (Nat × Nat × Int32)} (h : PI 32 M w) : PI 45 (e_5 M) (lwr_5 w) := pi_sR (pi_nw (pi_sR (e_4_I (pi_nw (pi_sR (pi_nw (pi_sR (pi_nw (h)))))))))
def lwr_6 (w : List (Nat × Nat × Int32)) : List (Nat × Nat × Int32) := (48, 11, 0) :: (w)
theorem e_6_I {M : sx_M} {w : List (Nat × Nat × Int32)} (h : PI 49 M w) : PI 58 (e_6 M) (lwr_6 w) := pi_sI (by decide) (pi_sR (pi_nw (pi_sR (pi_nw (pi_sR (pi_nw (pi_sR (pi_nw (pi_sR (pi_nw (pi_sR (pi_nw (pi_sR (pi_nw (pi_sR (pi_nw (pi_sR (pi_nw (h)))))))))))))))))))
def lwr_7 (w : List (Nat × Nat × Int32)) : List (Nat × Nat × Int32) := lwr_6 (w)
theorem e_7_I {M : sx_M} {w : List (Nat × Nat × Int32)} (h : PI 46 M w) : PI 59 (e_7 M) (lwr_7 w) := pi_sR (pi_nw (pi_sR (e_6_I (pi_nw (pi_sR (pi_nw (pi_sR (pi_nw (h)))))))))
def lwr_8 (w : List (Nat × Nat × Int32)) : List (Nat × Nat × Int32) := w
theorem e_8_I {M : sx_M} {w : List (Nat × Nat × Int32)} (h : PI 61 M w) : PI 69 (e_8 M) (lwr_8 w) := pi_sR (pi_nw (pi_sR (pi_nw (pi_sR (pi_nw (pi_sR (pi_nw (pi_sR (pi_nw (pi_sR (pi_nw (pi_sR (pi_nw (pi_sR (pi_nw (h))))))))))))))))
def lwr_9 (w : List (Nat × Nat × Int32)) : List (Nat × Nat × Int32) := w
theorem e_9_I {M : sx_M} {w : List (Nat × Nat × Int32)} (h : PI 71 M w) : PI 73 (e_9 M) (lwr_9 w) := pi_sR (pi_nw (pi_sR (pi_nw (h))))
def lwr_10 (w : List (Nat × Nat × Int32)) : List (Nat × Nat × Int32) := w
theorem e_10_I {M : sx_M} {w : List (Nat × Nat × Int32)} (h : PI 74 M w) : PI 82 (e_10 M) (lwr_10 w) := pi_sR (pi_nw (pi_sR (pi_nw (pi_sR (pi_nw (pi_sR (pi_nw (pi_sR (pi_nw (pi_sR (pi_nw (pi_sR (pi_nw (pi_sR (pi_nw (h))))))))))))))))
def lwr_11 (w : List (Nat × Nat × Int32)) : List (Nat × Nat × Int32) := (82, 11, 0) :: (w)
theorem e_11_I {M : sx_M} {w : List (Nat × Nat × Int32)} (h : PI 83 M w) : PI 92 (e_11 M) (lwr_11 w) := pi_sI (by decide) (pi_sR (pi_nw (pi_sR (pi_nw (pi_sR (pi_nw (pi_sR (pi_nw (pi_sR (pi_nw (pi_sR (pi_nw (pi_sR (pi_nw (pi_sR (pi_nw (pi_sR (pi_nw (h)))))))))))))))))))
def lwr_12 (w : List (Nat × Nat × Int32)) : List (Nat × Nat × Int32) := (69, 15, (-1)) :: (lwr_11 (lwr_10 (lwr_9 (w))))
theorem e_12_I {M : sx_M} {w : List (Nat × Nat × Int32)} (h : PI 70 M w) : PI 93 (e_12 M) (lwr_12 w) := pi_sR (pi_sR (pi_sI (by decide) (pi_sR (pi_sR (pi_nw (pi_sR (e_11_I (pi_nw (pi_sR (e_10_I (pi_nw (pi_sR (e_9_I (pi_nw (h)))))))))))))))
def lwr_13 (w : List (Nat × Nat × Int32)) : List (Nat × Nat × Int32) := (93, 11, 2) :: (w)
theorem e_13_I {M : sx_M} {w : List (Nat × Nat × Int32)} (h : PI 94 M w) : PI 103 (e_13 M) (lwr_13 w) := pi_sI (by decide) (pi_sR (pi_nw (pi_sR (pi_nw (pi_sR (pi_nw (pi_sR (pi_nw (pi_sR (pi_nw (pi_sR (pi_nw (pi_sR (pi_nw (pi_sR (pi_nw (pi_sR (pi_nw (h)))))))))))))))))))
def lwr_14 (w : List (Nat × Nat × Int32)) : List (Nat × Nat × Int32) := (103, 11, 2) :: (w)
theorem e_14_I {M : sx_M} {w : List (Nat × Nat × Int32)} (h : PI 104 M w) : PI 113 (e_14 M) (lwr_14 w) := pi_sI (by decide) (pi_sR (pi_nw (pi_sR (pi_nw (pi_sR (pi_nw (pi_sR (pi_nw (pi_sR (pi_nw (pi_sR (pi_nw (pi_sR (pi_nw (pi_sR (pi_nw (pi_sR (pi_nw (h)))))))))))))))))))
def lwr_15 (w : List (Nat × Nat × Int32)) : List (Nat × Nat × Int32) := (113, 11, 2) :: (w)
theorem e_15_I {M : sx_M} {w : List (Nat × Nat × Int32)} (h : PI 114 M w) : PI 123 (e_15 M) (lwr_15 w) := pi_sI (by decide) (pi_sR (pi_nw (pi_sR (pi_nw (pi_sR (pi_nw (pi_sR (pi_nw (pi_sR (pi_nw (pi_sR (pi_nw (pi_sR (pi_nw (pi_sR (pi_nw (pi_sR (pi_nw (h)))))))))))))))))))
def lwr_16 (w : List (Nat × Nat × Int32)) : List (Nat × Nat × Int32) := (123, 11, 2) :: (w)
theorem e_16_I {M : sx_M} {w : List (Nat × Nat × Int32)} (h : PI 124 M w) : PI 133 (e_16 M) (lwr_16 w) := pi_sI (by decide) (pi_sR (pi_nw (pi_sR (pi_nw (pi_sR (pi_nw (pi_sR (pi_nw (pi_sR (pi_nw (pi_sR (pi_nw (pi_sR (pi_nw (pi_sR (pi_nw (pi_sR (pi_nw (h)))))))))))))))))))
def lwr_17 (w : List (Nat × Nat × Int32)) : List (Nat × Nat × Int32) := (133, 11, 2) :: (w)
theorem e_17_I {M : sx_M} {w : List (Nat × Nat × Int32)} (h : PI 134 M w) : PI 143 (e_17 M) (lwr_17 w) := pi_sI (by decide) (pi_sR (pi_nw (pi_sR (pi_nw (pi_sR (pi_nw (pi_sR (pi_nw (pi_sR (pi_nw (pi_sR (pi_nw (pi_sR (pi_nw (pi_sR (pi_nw (pi_sR (pi_nw (h)))))))))))))))))))
def lwr_18 (w : List (Nat × Nat × Int32)) : List (Nat × Nat × Int32) := lwr_17 (lwr_16 (lwr_15 (lwr_14 (lwr_13 (lwr_12 (lwr_8 (lwr_7 (lwr_5 (w)))))))))
theorem e_18_I {M : sx_M} {w : List (Nat × Nat × Int32)} (h : PI 31 M w) : PI 143 (e_18 M) (lwr_18 w) := pi_sR (e_17_I (pi_nw (pi_sR (e_16_I (pi_nw (pi_sR (e_15_I (pi_nw (pi_sR (e_14_I (pi_nw (pi_sR (e_13_I (pi_nw (pi_sR (e_12_I (pi_nw (pi_sR (pi_sR (pi_sR (e_8_I (pi_nw (pi_sR (pi_nw (pi_sR (e_7_I (pi_nw (pi_sR (e_5_I (pi_nw (h)))))))))))))))))))))))))))))))
def lwr_19 (w : List (Nat × Nat × Int32)) : List (Nat × Nat × Int32) := w
theorem e_19_I {M : sx_M} {w : List (Nat × Nat × Int32)} (h : PI 144 M w) : PI 145 (e_19 M) (lwr_19 w) := pi_sR (pi_nw (h))
def lwr_20 (w : List (Nat × Nat × Int32)) : List (Nat × Nat × Int32) := lwr_19 (lwr_18 (lwr_3 (lwr_2 (lwr_0 (w)))))
theorem e_20_I {M : sx_M} {w : List (Nat × Nat × Int32)} (h : PI 1 M w) : PI 146 (e_20 M) (lwr_20 w) := pi_sR (pi_nw (pi_sR (e_19_I (pi_nw (pi_sR (e_18_I (pi_nw (pi_sR (e_3_I (pi_nw (e_2_I (pi_nw (pi_sR (e_0_I (pi_nw (pi_sR (pi_nw (h))))))))))))))))))
def lwr_21 (w : List (Nat × Nat × Int32)) : List (Nat × Nat × Int32) := (146, 112, (-1)) :: (w)
theorem e_21_I {M : sx_M} {w : List (Nat × Nat × Int32)} (h : PI 147 M w) : PI 206 (e_21 M) (lwr_21 w) := pi_sR (pi_nw (pi_sR (pi_nw (pi_sR (pi_nw (pi_sR (pi_nw (pi_sR (pi_nw (pi_sR (pi_nw (pi_sR (pi_nw (pi_sR (pi_nw (pi_sR (pi_nw (pi_sR (pi_nw (pi_sR (pi_nw (pi_sR (pi_nw (pi_sR (pi_nw (pi_sR (pi_nw (pi_sR (pi_nw (pi_sR (pi_nw (pi_sR (pi_nw (pi_sR (pi_nw (pi_sR (pi_nw (pi_sR (pi_nw (pi_sR (pi_nw (pi_sI (by decide) (pi_sR (pi_nw (pi_sR (pi_nw (pi_sR (pi_nw (pi_sR (pi_nw (pi_sR (pi_nw (pi_sR (pi_nw (pi_sR (pi_nw (pi_sR (pi_nw (pi_sR (pi_nw (pi_sR (pi_nw (pi_sR (pi_nw (pi_sR (pi_nw (pi_sR (pi_nw (pi_sR (pi_nw (pi_sR (pi_nw (pi_sR (pi_nw (pi_sR (pi_nw (pi_sR (pi_nw (pi_sR (pi_nw (pi_sR (pi_nw (pi_sR (pi_nw (pi_sR (pi_nw (pi_sR (pi_nw (pi_sR (pi_nw (pi_sR (pi_nw (pi_sR (pi_nw (pi_sR (pi_nw (pi_sR (pi_nw (pi_sR (pi_nw (pi_sR (pi_nw (pi_sR (pi_nw (pi_sR (pi_nw (pi_sR (pi_nw (pi_sR (pi_nw (pi_sR (pi_nw (pi_sR (pi_nw (pi_sR (pi_nw (pi_sR (pi_nw (h)))))))))))))))))))))))))))))))))))))))))))))))))))))))))))))))))))))))))))))))))))))))))))))))))))))))))))))))))))))))
theorem lw_pi (xs : Nat → Int32) : PI 206 (lw_Me xs) (lwr_21 (lwr_20 [])) := e_21_I (pi_nw (e_20_I (pi_nw ⟨rfl, fun q h => absurd h List.not_mem_nil, fun a k h => absurd h (Nat.not_lt_zero a), fun _ _ => rfl⟩)))
/-- all that the constructors wrote of ints -/
def lw_wr : List (Nat × Nat × Int32) := lwr_21 (lwr_20 [])
theorem V0_I (xs : Nat → Int32) {a : Nat} (k : Nat) (h : a < 206) : (lw_V0 xs).1 a k = wl lw_wr a k := (lw_pi xs).2.2.1 a k h
theorem V0_0 (xs : Nat → Int32) {a : Nat} (k : Nat) (h : a < 206) (hn : lw_wr.all (fun q => q.1 != a) = true) : (lw_V0 xs).1 a k = 0 := by
  rw [V0_I xs k h]
  exact wl_no (fun q hq => by have := List.all_eq_true.mp hn q hq; simpa using this) k
theorem V0_L (xs : Nat → Int32) (a k : Nat) : (lw_V0 xs).2.1 a k = 0 := (lw_pi xs).2.2.2 a k
theorem V0_R (xs : Nat → Int32) (a k : Nat) : (lw_V0 xs).2.2 a k = (lw_Me (fun _ => 0)).2.2.2 a k := by
  show (lw_Me xs).2.2.2 a k = _
  rw [(lw_rq xs (fun _ => 0)).2]
theorem V0_mem (xs : Nat → Int32) : (lw_V0 xs).2.2 69 6 = some 31 ∧ (lw_V0 xs).2.2 69 7 = some 82 := by
  rw [V0_R, V0_R]
  decide +kernel
