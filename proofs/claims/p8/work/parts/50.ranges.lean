section
/-! SAFETY BY RANGES: words and rows -/
def Sg {A : Type} (P : A → Prop) (o : Option A) : Prop := ∃ a, o = some a ∧ P a
theorem bm32 {x : Int} (h1 : -2147483648 ≤ x) (h2 : x ≤ 2147483647) : x.bmod (2 ^ 32) = x := by
  rw [Int.bmod_def]
  omega
theorem bm64 {x : Int} (h1 : -9223372036854775808 ≤ x) (h2 : x ≤ 9223372036854775807) : x.bmod (2 ^ 64) = x := by
  rw [Int.bmod_def]
  omega
theorem mul_box {x y a b c d : Int} (h1 : a ≤ x) (h2 : x ≤ b) (h3 : c ≤ y) (h4 : y ≤ d) : (a * c ≤ x * y ∨ a * d ≤ x * y ∨ b * c ≤ x * y ∨ b * d ≤ x * y) ∧ (x * y ≤ a * c ∨ x * y ≤ a * d ∨ x * y ≤ b * c ∨ x * y ≤ b * d) := by
  have m1 : ∀ {p q r : Int}, p ≤ q → 0 ≤ r → p * r ≤ q * r := fun h k => Int.mul_le_mul_of_nonneg_right h k
  have m2 : ∀ {p q r : Int}, p ≤ q → r ≤ 0 → q * r ≤ p * r := fun h k => Int.mul_le_mul_of_nonpos_right h k
  have n1 : ∀ {p q r : Int}, p ≤ q → 0 ≤ r → r * p ≤ r * q := fun h k => Int.mul_le_mul_of_nonneg_left h k
  have n2 : ∀ {p q r : Int}, p ≤ q → r ≤ 0 → r * q ≤ r * p := fun h k => Int.mul_le_mul_of_nonpos_left k h
  constructor
  · rcases Int.le_total 0 y with hy | hy
    · have s := m1 h1 hy
      rcases Int.le_total 0 a with ha | ha
      · have := n1 h3 ha; omega
      · have := n2 h4 ha; omega
    · have s := m2 h2 hy
      rcases Int.le_total 0 b with hb | hb
      · have := n1 h3 hb; omega
      · have := n2 h4 hb; omega
  · rcases Int.le_total 0 y with hy | hy
    · have s := m1 h2 hy
      rcases Int.le_total 0 b with hb | hb
      · have := n1 h4 hb; omega
      · have := n2 h3 hb; omega
    · have s := m2 h1 hy
      rcases Int.le_total 0 a with ha | ha
      · have := n1 h4 ha; omega
      · have := n2 h3 ha; omega
theorem tdiv_box {x h y : Int} (a : 0 ≤ x) (b : x ≤ h) (c : 0 < y) : 0 ≤ x.tdiv y ∧ x.tdiv y ≤ h := by
  rw [Int.tdiv_eq_ediv_of_nonneg a]
  exact ⟨Int.ediv_nonneg a (by omega), Int.le_trans (Int.ediv_le_self y a) b⟩
theorem tdiv_box2 {x m y : Int} (a : -m ≤ x) (b : x ≤ m) (c : 0 < y) : -m ≤ x.tdiv y ∧ x.tdiv y ≤ m := by
  rcases Int.le_total 0 x with h | h
  · have := tdiv_box h b c
    omega
  · have k := tdiv_box (x := -x) (h := m) (by omega) (by omega) c
    rw [Int.neg_tdiv] at k
    omega
theorem tdiv_rem1 {x y : Int} (a : 0 ≤ x) (c : 0 < y) : x - x.tdiv y * y ≤ y - 1 ∧ 0 ≤ x - x.tdiv y * y ∧ 0 ≤ x.tdiv y * y := by
  rw [Int.tdiv_eq_ediv_of_nonneg a]
  have h1 := Int.emod_nonneg x (show y ≠ 0 by omega)
  have h2 := Int.emod_lt_of_pos x c
  have h3 := Int.emod_def x y
  have h4 : x / y * y = y * (x / y) := Int.mul_comm _ _
  have h5 := Int.mul_nonneg (show 0 ≤ x / y from Int.ediv_nonneg a (by omega)) (show 0 ≤ y by omega)
  omega
theorem tdiv_rem2 {x y : Int} (c : 0 < y) : x - x.tdiv y * y ≤ y - 1 ∧ -(y - 1) ≤ x - x.tdiv y * y ∧ (0 ≤ x → 0 ≤ x.tdiv y * y ∧ x.tdiv y * y ≤ x) ∧ (x ≤ 0 → x.tdiv y * y ≤ 0 ∧ x ≤ x.tdiv y * y) := by
  rcases Int.le_total 0 x with h | h
  · have k := tdiv_rem1 h c
    have : x = 0 → x.tdiv y * y = 0 := fun e => by subst e; simp
    omega
  · have k := tdiv_rem1 (x := -x) (by omega) c
    rw [Int.neg_tdiv, Int.neg_mul] at k
    have : x = 0 → x.tdiv y * y = 0 := fun e => by subst e; simp
    omega
def rg (x : Int32) (l h : Int) : Prop := l ≤ x.toInt ∧ x.toInt ≤ h
theorem rg_t {x : Int32} : rg x ((-2147483648)) 2147483647 := by
  have h1 := x.le_toInt
  have h2 := x.toInt_lt
  unfold rg
  omega
theorem rg_c {x : Int32} {n : Int} (h : x.toInt = n) : rg x n n := ⟨Int.le_of_eq h.symm, Int.le_of_eq h⟩
theorem rg_m {x : Int32} {l h l2 h2 : Int} (p : rg x l h) (a : l2 ≤ l) (b : h ≤ h2) : rg x l2 h2 := ⟨Int.le_trans a p.1, Int.le_trans p.2 b⟩
theorem rg_i {x : Int32} {l h l2 h2 : Int} (p : rg x l h) (q : rg x l2 h2) : rg x l h2 := ⟨p.1, q.2⟩
theorem rg_eq {x y : Int32} {l h : Int} (e : x = y) (p : rg y l h) : rg x l h := e ▸ p
theorem rg_add {x y : Int32} {l h l2 h2 : Int} (p : rg x l h) (q : rg y l2 h2) (a : (-2147483648) ≤ l + l2) (b : h + h2 ≤ 2147483647) : rg (x + y) (l + l2) (h + h2) := by
  unfold rg at *
  rw [Int32.toInt_add, bm32 (by omega) (by omega)]
  omega
theorem rg_sub {x y : Int32} {l h l2 h2 : Int} (p : rg x l h) (q : rg y l2 h2) (a : (-2147483648) ≤ l - h2) (b : h - l2 ≤ 2147483647) : rg (x - y) (l - h2) (h - l2) := by
  unfold rg at *
  rw [Int32.toInt_sub, bm32 (by omega) (by omega)]
  omega
theorem rg_neg {x : Int32} {l h : Int} (p : rg x l h) (a : -l ≤ 2147483647) : rg (-x) (-h) (-l) := by
  have h1 := x.toInt_lt
  unfold rg at *
  rw [Int32.toInt_neg, bm32 (by omega) (by omega)]
  omega
theorem rg_addL {x y : Int32} {l h l1 h1 l2 h2 : Int} (r : rg (x + y) l h) (p : rg x l1 h1) (q : rg y l2 h2) (a : (-2147483648) ≤ l1 + l2) (b : h1 + h2 ≤ 2147483647) : rg x (l - h2) (h - l2) := by
  unfold rg at *
  rw [Int32.toInt_add, bm32 (by omega) (by omega)] at r
  omega
theorem rg_addR {x y : Int32} {l h l1 h1 l2 h2 : Int} (r : rg (x + y) l h) (p : rg x l1 h1) (q : rg y l2 h2) (a : (-2147483648) ≤ l1 + l2) (b : h1 + h2 ≤ 2147483647) : rg y (l - h1) (h - l1) := by
  unfold rg at *
  rw [Int32.toInt_add, bm32 (by omega) (by omega)] at r
  omega
theorem rg_subL {x y : Int32} {l h l1 h1 l2 h2 : Int} (r : rg (x - y) l h) (p : rg x l1 h1) (q : rg y l2 h2) (a : (-2147483648) ≤ l1 - h2) (b : h1 - l2 ≤ 2147483647) : rg x (l + l2) (h + h2) := by
  unfold rg at *
  rw [Int32.toInt_sub, bm32 (by omega) (by omega)] at r
  omega
theorem rg_subR {x y : Int32} {l h l1 h1 l2 h2 : Int} (r : rg (x - y) l h) (p : rg x l1 h1) (q : rg y l2 h2) (a : (-2147483648) ≤ l1 - h2) (b : h1 - l2 ≤ 2147483647) : rg y (l1 - h) (h1 - l) := by
  unfold rg at *
  rw [Int32.toInt_sub, bm32 (by omega) (by omega)] at r
  omega
theorem rg_mul {x y : Int32} {l h l1 h1 l2 h2 : Int} (p : rg x l1 h1) (q : rg y l2 h2) (c : (decide ((-2147483648) ≤ l) && decide (h ≤ 2147483647) && decide (l ≤ l1 * l2) && decide (l ≤ l1 * h2) && decide (l ≤ h1 * l2) && decide (l ≤ h1 * h2) && decide (l1 * l2 ≤ h) && decide (l1 * h2 ≤ h) && decide (h1 * l2 ≤ h) && decide (h1 * h2 ≤ h)) = true) : rg (x * y) l h := by
  simp only [Bool.and_eq_true, decide_eq_true_eq] at c
  obtain ⟨⟨⟨⟨⟨⟨⟨⟨⟨c1, c2⟩, c3⟩, c4⟩, c5⟩, c6⟩, c7⟩, c8⟩, c9⟩, c10⟩ := c
  have k := mul_box p.1 p.2 q.1 q.2
  unfold rg
  rw [Int32.toInt_mul, bm32 (by omega) (by omega)]
  omega
theorem rg_hlt {x y : Int32} {l h l2 h2 : Int} (e : x < y) (p : rg x l h) (q : rg y l2 h2) : rg x l (h2 - 1) := by
  have e := Int32.lt_iff_toInt_lt.mp e
  unfold rg at *
  omega
theorem rg_llt {x y : Int32} {l h l2 h2 : Int} (e : x < y) (p : rg x l h) (q : rg y l2 h2) : rg y (l + 1) h2 := by
  have e := Int32.lt_iff_toInt_lt.mp e
  unfold rg at *
  omega
theorem rg_hle {x y : Int32} {l h l2 h2 : Int} (e : x ≤ y) (p : rg x l h) (q : rg y l2 h2) : rg x l h2 := by
  have e := Int32.le_iff_toInt_le.mp e
  unfold rg at *
  omega
theorem rg_lle {x y : Int32} {l h l2 h2 : Int} (e : x ≤ y) (p : rg x l h) (q : rg y l2 h2) : rg y l h2 := by
  have e := Int32.le_iff_toInt_le.mp e
  unfold rg at *
  omega
theorem rg_nolt {x y : Int32} {l h l2 h2 : Int} (e : x < y) (p : rg x l h) (q : rg y l2 h2) (c : h2 ≤ l) : False := by
  have e := Int32.lt_iff_toInt_lt.mp e
  unfold rg at *
  omega
theorem rg_nole {x y : Int32} {l h l2 h2 : Int} (e : x ≤ y) (p : rg x l h) (q : rg y l2 h2) (c : h2 < l) : False := by
  have e := Int32.le_iff_toInt_le.mp e
  unfold rg at *
  omega
theorem rg_noeq {x y : Int32} {l h l2 h2 : Int} (e : x = y) (p : rg x l h) (q : rg y l2 h2) (c : h2 < l ∨ h < l2) : False := by
  subst e
  unfold rg at *
  omega
theorem rg_none {x y : Int32} {l : Int} (e : ¬ x = y) (p : rg x l l) (q : rg y l l) : False := by
  refine e (Int32.toInt_inj.mp ?_)
  unfold rg at *
  omega
theorem rg_nel {x y : Int32} {l h : Int} (e : ¬ x = y) (p : rg x l h) (q : rg y l l) : rg x (l + 1) h := by
  have e : ¬ x.toInt = y.toInt := fun k => e (Int32.toInt_inj.mp k)
  unfold rg at *
  omega
theorem rg_neh {x y : Int32} {l h : Int} (e : ¬ x = y) (p : rg x l h) (q : rg y h h) : rg x l (h - 1) := by
  have e : ¬ x.toInt = y.toInt := fun k => e (Int32.toInt_inj.mp k)
  unfold rg at *
  omega
theorem rg_nz1 {x : Int32} {l h : Int} (p : rg x l h) (c : 0 < l) : ¬ x = 0 := by
  rintro rfl
  have : (0 : Int32).toInt = 0 := rfl
  unfold rg at *
  omega
theorem rg_nz2 {x : Int32} {l h : Int} (p : rg x l h) (c : h < 0) : ¬ x = 0 := by
  rintro rfl
  have : (0 : Int32).toInt = 0 := rfl
  unfold rg at *
  omega
theorem rg_dv {x y : Int32} {l h l2 h2 : Int} (q : rg y l2 h2) (c : 0 < l2) : (x / y).toInt = x.toInt.tdiv y.toInt := by
  refine Int32.toInt_div_of_ne_right x y ?_
  rintro rfl
  have : (-1 : Int32).toInt = -1 := rfl
  unfold rg at *
  omega
theorem rg_tia {x y : Int32} {l h l2 h2 : Int} (p : rg x l h) (q : rg y l2 h2) (a : (-2147483648) ≤ l + l2) (b : h + h2 ≤ 2147483647) : (x + y).toInt = x.toInt + y.toInt := by
  unfold rg at *
  rw [Int32.toInt_add, bm32 (by omega) (by omega)]
theorem rg_tis {x y : Int32} {l h l2 h2 : Int} (p : rg x l h) (q : rg y l2 h2) (a : (-2147483648) ≤ l - h2) (b : h - l2 ≤ 2147483647) : (x - y).toInt = x.toInt - y.toInt := by
  unfold rg at *
  rw [Int32.toInt_sub, bm32 (by omega) (by omega)]
theorem rg_divp {x y : Int32} {l h l2 h2 : Int} (p : rg x l h) (q : rg y l2 h2) (a : 0 ≤ l) (c : 0 < l2) : rg (x / y) 0 h := by
  have e := rg_dv (x := x) (l := l) (h := h) q c
  unfold rg at *
  rw [e]
  exact tdiv_box (by omega) p.2 (by omega)
theorem rg_divc {x y : Int32} {l h n : Int} (p : rg x l h) (q : rg y n n) (a : 0 ≤ l) (c : 0 < n) : rg (x / y) (l / n) (h / n) := by
  have e := rg_dv (x := x) (l := l) (h := h) q c
  unfold rg at *
  have e2 : y.toInt = n := by omega
  rw [e, e2, Int.tdiv_eq_ediv_of_nonneg (by omega)]
  exact ⟨Int.ediv_le_ediv c p.1, Int.ediv_le_ediv c p.2⟩
theorem rg_tdc {x y : Int32} {l h n : Int} (p : rg x l h) (q : rg y n n) (a : 0 ≤ l) (c : 0 < n) : (x / y).toInt = x.toInt / n := by
  have e := rg_dv (x := x) (l := l) (h := h) q c
  unfold rg at *
  have e2 : y.toInt = n := by omega
  rw [e, e2, Int.tdiv_eq_ediv_of_nonneg (by omega)]
theorem rg_div {x y : Int32} {l h l2 h2 m : Int} (p : rg x l h) (q : rg y l2 h2) (a : -m ≤ l) (b : h ≤ m) (c : 0 < l2) : rg (x / y) (-m) m := by
  have e := rg_dv (x := x) (l := l) (h := h) q c
  unfold rg at *
  rw [e]
  exact tdiv_box2 (by omega) (by omega) (by omega)
theorem rg_remp {x y : Int32} {l h l2 h2 : Int} (p : rg x l h) (q : rg y l2 h2) (a : 0 ≤ l) (c : 0 < l2) : rg (x - x / y * y) 0 (h2 - 1) := by
  have e := rg_dv (x := x) (l := l) (h := h) q c
  have p' := p
  have q' := q
  have xl := x.toInt_lt
  have yl := y.toInt_lt
  unfold rg at *
  have k := tdiv_rem1 (x := x.toInt) (y := y.toInt) (by omega) (by omega)
  have k2 := tdiv_box (x := x.toInt) (h := x.toInt) (y := y.toInt) (by omega) (by omega) (by omega)
  rw [Int32.toInt_sub, Int32.toInt_mul, e, bm32 (x := x.toInt.tdiv y.toInt * y.toInt) (by omega) (by omega), bm32 (by omega) (by omega)]
  omega
theorem rg_remlt {x y : Int32} {l h l2 h2 : Int} (p : rg x l h) (q : rg y l2 h2) (a : 0 ≤ l) (c : 0 < l2) : 0 ≤ (x - x / y * y).toInt ∧ (x - x / y * y).toInt < y.toInt := by
  have e := rg_dv (x := x) (l := l) (h := h) q c
  have xl := x.toInt_lt
  have yl := y.toInt_lt
  unfold rg at *
  have k := tdiv_rem1 (x := x.toInt) (y := y.toInt) (by omega) (by omega)
  rw [Int32.toInt_sub, Int32.toInt_mul, e, bm32 (x := x.toInt.tdiv y.toInt * y.toInt) (by omega) (by omega), bm32 (by omega) (by omega)]
  omega
theorem rg_rem {x y : Int32} {l h l2 h2 : Int} (p : rg x l h) (q : rg y l2 h2) (c : 0 < l2) : rg (x - x / y * y) (-(h2 - 1)) (h2 - 1) := by
  have e := rg_dv (x := x) (l := l) (h := h) q c
  have xl := x.toInt_lt
  have xm := x.le_toInt
  unfold rg at *
  have k := tdiv_rem2 (x := x.toInt) (y := y.toInt) (by omega)
  rw [Int32.toInt_sub, Int32.toInt_mul, e, bm32 (x := x.toInt.tdiv y.toInt * y.toInt) (by omega) (by omega), bm32 (by omega) (by omega)]
  omega
def rl (x : Int64) (l h : Int) : Prop := l ≤ x.toInt ∧ x.toInt ≤ h
theorem rl_t {x : Int64} : rl x ((-9223372036854775808)) 9223372036854775807 := by
  have h1 := x.le_toInt
  have h2 := x.toInt_lt
  unfold rl
  omega
theorem rl_c {x : Int64} {n : Int} (h : x.toInt = n) : rl x n n := ⟨Int.le_of_eq h.symm, Int.le_of_eq h⟩
theorem rl_m {x : Int64} {l h l2 h2 : Int} (p : rl x l h) (a : l2 ≤ l) (b : h ≤ h2) : rl x l2 h2 := ⟨Int.le_trans a p.1, Int.le_trans p.2 b⟩
theorem rl_i {x : Int64} {l h l2 h2 : Int} (p : rl x l h) (q : rl x l2 h2) : rl x l h2 := ⟨p.1, q.2⟩
theorem rl_eq {x y : Int64} {l h : Int} (e : x = y) (p : rl y l h) : rl x l h := e ▸ p
theorem rl_add {x y : Int64} {l h l2 h2 : Int} (p : rl x l h) (q : rl y l2 h2) (a : (-9223372036854775808) ≤ l + l2) (b : h + h2 ≤ 9223372036854775807) : rl (x + y) (l + l2) (h + h2) := by
  unfold rl at *
  rw [Int64.toInt_add, bm64 (by omega) (by omega)]
  omega
theorem rl_sub {x y : Int64} {l h l2 h2 : Int} (p : rl x l h) (q : rl y l2 h2) (a : (-9223372036854775808) ≤ l - h2) (b : h - l2 ≤ 9223372036854775807) : rl (x - y) (l - h2) (h - l2) := by
  unfold rl at *
  rw [Int64.toInt_sub, bm64 (by omega) (by omega)]
  omega
theorem rl_neg {x : Int64} {l h : Int} (p : rl x l h) (a : -l ≤ 9223372036854775807) : rl (-x) (-h) (-l) := by
  have h1 := x.toInt_lt
  unfold rl at *
  rw [Int64.toInt_neg, bm64 (by omega) (by omega)]
  omega
theorem rl_addL {x y : Int64} {l h l1 h1 l2 h2 : Int} (r : rl (x + y) l h) (p : rl x l1 h1) (q : rl y l2 h2) (a : (-9223372036854775808) ≤ l1 + l2) (b : h1 + h2 ≤ 9223372036854775807) : rl x (l - h2) (h - l2) := by
  unfold rl at *
  rw [Int64.toInt_add, bm64 (by omega) (by omega)] at r
  omega
theorem rl_addR {x y : Int64} {l h l1 h1 l2 h2 : Int} (r : rl (x + y) l h) (p : rl x l1 h1) (q : rl y l2 h2) (a : (-9223372036854775808) ≤ l1 + l2) (b : h1 + h2 ≤ 9223372036854775807) : rl y (l - h1) (h - l1) := by
  unfold rl at *
  rw [Int64.toInt_add, bm64 (by omega) (by omega)] at r
  omega
theorem rl_subL {x y : Int64} {l h l1 h1 l2 h2 : Int} (r : rl (x - y) l h) (p : rl x l1 h1) (q : rl y l2 h2) (a : (-9223372036854775808) ≤ l1 - h2) (b : h1 - l2 ≤ 9223372036854775807) : rl x (l + l2) (h + h2) := by
  unfold rl at *
  rw [Int64.toInt_sub, bm64 (by omega) (by omega)] at r
  omega
theorem rl_subR {x y : Int64} {l h l1 h1 l2 h2 : Int} (r : rl (x - y) l h) (p : rl x l1 h1) (q : rl y l2 h2) (a : (-9223372036854775808) ≤ l1 - h2) (b : h1 - l2 ≤ 9223372036854775807) : rl y (l1 - h) (h1 - l) := by
  unfold rl at *
  rw [Int64.toInt_sub, bm64 (by omega) (by omega)] at r
  omega
theorem rl_mul {x y : Int64} {l h l1 h1 l2 h2 : Int} (p : rl x l1 h1) (q : rl y l2 h2) (c : (decide ((-9223372036854775808) ≤ l) && decide (h ≤ 9223372036854775807) && decide (l ≤ l1 * l2) && decide (l ≤ l1 * h2) && decide (l ≤ h1 * l2) && decide (l ≤ h1 * h2) && decide (l1 * l2 ≤ h) && decide (l1 * h2 ≤ h) && decide (h1 * l2 ≤ h) && decide (h1 * h2 ≤ h)) = true) : rl (x * y) l h := by
  simp only [Bool.and_eq_true, decide_eq_true_eq] at c
  obtain ⟨⟨⟨⟨⟨⟨⟨⟨⟨c1, c2⟩, c3⟩, c4⟩, c5⟩, c6⟩, c7⟩, c8⟩, c9⟩, c10⟩ := c
  have k := mul_box p.1 p.2 q.1 q.2
  unfold rl
  rw [Int64.toInt_mul, bm64 (by omega) (by omega)]
  omega
theorem rl_hlt {x y : Int64} {l h l2 h2 : Int} (e : x < y) (p : rl x l h) (q : rl y l2 h2) : rl x l (h2 - 1) := by
  have e := Int64.lt_iff_toInt_lt.mp e
  unfold rl at *
  omega
theorem rl_llt {x y : Int64} {l h l2 h2 : Int} (e : x < y) (p : rl x l h) (q : rl y l2 h2) : rl y (l + 1) h2 := by
  have e := Int64.lt_iff_toInt_lt.mp e
  unfold rl at *
  omega
theorem rl_hle {x y : Int64} {l h l2 h2 : Int} (e : x ≤ y) (p : rl x l h) (q : rl y l2 h2) : rl x l h2 := by
  have e := Int64.le_iff_toInt_le.mp e
  unfold rl at *
  omega
theorem rl_lle {x y : Int64} {l h l2 h2 : Int} (e : x ≤ y) (p : rl x l h) (q : rl y l2 h2) : rl y l h2 := by
  have e := Int64.le_iff_toInt_le.mp e
  unfold rl at *
  omega
theorem rl_nolt {x y : Int64} {l h l2 h2 : Int} (e : x < y) (p : rl x l h) (q : rl y l2 h2) (c : h2 ≤ l) : False := by
  have e := Int64.lt_iff_toInt_lt.mp e
  unfold rl at *
  omega
theorem rl_nole {x y : Int64} {l h l2 h2 : Int} (e : x ≤ y) (p : rl x l h) (q : rl y l2 h2) (c : h2 < l) : False := by
  have e := Int64.le_iff_toInt_le.mp e
  unfold rl at *
  omega
theorem rl_noeq {x y : Int64} {l h l2 h2 : Int} (e : x = y) (p : rl x l h) (q : rl y l2 h2) (c : h2 < l ∨ h < l2) : False := by
  subst e
  unfold rl at *
  omega
theorem rl_none {x y : Int64} {l : Int} (e : ¬ x = y) (p : rl x l l) (q : rl y l l) : False := by
  refine e (Int64.toInt_inj.mp ?_)
  unfold rl at *
  omega
theorem rl_nel {x y : Int64} {l h : Int} (e : ¬ x = y) (p : rl x l h) (q : rl y l l) : rl x (l + 1) h := by
  have e : ¬ x.toInt = y.toInt := fun k => e (Int64.toInt_inj.mp k)
  unfold rl at *
  omega
theorem rl_neh {x y : Int64} {l h : Int} (e : ¬ x = y) (p : rl x l h) (q : rl y h h) : rl x l (h - 1) := by
  have e : ¬ x.toInt = y.toInt := fun k => e (Int64.toInt_inj.mp k)
  unfold rl at *
  omega
theorem rl_nz1 {x : Int64} {l h : Int} (p : rl x l h) (c : 0 < l) : ¬ x = 0 := by
  rintro rfl
  have : (0 : Int64).toInt = 0 := rfl
  unfold rl at *
  omega
theorem rl_nz2 {x : Int64} {l h : Int} (p : rl x l h) (c : h < 0) : ¬ x = 0 := by
  rintro rfl
  have : (0 : Int64).toInt = 0 := rfl
  unfold rl at *
  omega
theorem rl_dv {x y : Int64} {l h l2 h2 : Int} (q : rl y l2 h2) (c : 0 < l2) : (x / y).toInt = x.toInt.tdiv y.toInt := by
  refine Int64.toInt_div_of_ne_right x y ?_
  rintro rfl
  have : (-1 : Int64).toInt = -1 := rfl
  unfold rl at *
  omega
theorem rl_tia {x y : Int64} {l h l2 h2 : Int} (p : rl x l h) (q : rl y l2 h2) (a : (-9223372036854775808) ≤ l + l2) (b : h + h2 ≤ 9223372036854775807) : (x + y).toInt = x.toInt + y.toInt := by
  unfold rl at *
  rw [Int64.toInt_add, bm64 (by omega) (by omega)]
theorem rl_tis {x y : Int64} {l h l2 h2 : Int} (p : rl x l h) (q : rl y l2 h2) (a : (-9223372036854775808) ≤ l - h2) (b : h - l2 ≤ 9223372036854775807) : (x - y).toInt = x.toInt - y.toInt := by
  unfold rl at *
  rw [Int64.toInt_sub, bm64 (by omega) (by omega)]
theorem rl_divp {x y : Int64} {l h l2 h2 : Int} (p : rl x l h) (q : rl y l2 h2) (a : 0 ≤ l) (c : 0 < l2) : rl (x / y) 0 h := by
  have e := rl_dv (x := x) (l := l) (h := h) q c
  unfold rl at *
  rw [e]
  exact tdiv_box (by omega) p.2 (by omega)
theorem rl_divc {x y : Int64} {l h n : Int} (p : rl x l h) (q : rl y n n) (a : 0 ≤ l) (c : 0 < n) : rl (x / y) (l / n) (h / n) := by
  have e := rl_dv (x := x) (l := l) (h := h) q c
  unfold rl at *
  have e2 : y.toInt = n := by omega
  rw [e, e2, Int.tdiv_eq_ediv_of_nonneg (by omega)]
  exact ⟨Int.ediv_le_ediv c p.1, Int.ediv_le_ediv c p.2⟩
theorem rl_tdc {x y : Int64} {l h n : Int} (p : rl x l h) (q : rl y n n) (a : 0 ≤ l) (c : 0 < n) : (x / y).toInt = x.toInt / n := by
  have e := rl_dv (x := x) (l := l) (h := h) q c
  unfold rl at *
  have e2 : y.toInt = n := by omega
  rw [e, e2, Int.tdiv_eq_ediv_of_nonneg (by omega)]
theorem rl_div {x y : Int64} {l h l2 h2 m : Int} (p : rl x l h) (q : rl y l2 h2) (a : -m ≤ l) (b : h ≤ m) (c : 0 < l2) : rl (x / y) (-m) m := by
  have e := rl_dv (x := x) (l := l) (h := h) q c
  unfold rl at *
  rw [e]
  exact tdiv_box2 (by omega) (by omega) (by omega)
theorem rl_remp {x y : Int64} {l h l2 h2 : Int} (p : rl x l h) (q : rl y l2 h2) (a : 0 ≤ l) (c : 0 < l2) : rl (x - x / y * y) 0 (h2 - 1) := by
  have e := rl_dv (x := x) (l := l) (h := h) q c
  have p' := p
  have q' := q
  have xl := x.toInt_lt
  have yl := y.toInt_lt
  unfold rl at *
  have k := tdiv_rem1 (x := x.toInt) (y := y.toInt) (by omega) (by omega)
  have k2 := tdiv_box (x := x.toInt) (h := x.toInt) (y := y.toInt) (by omega) (by omega) (by omega)
  rw [Int64.toInt_sub, Int64.toInt_mul, e, bm64 (x := x.toInt.tdiv y.toInt * y.toInt) (by omega) (by omega), bm64 (by omega) (by omega)]
  omega
theorem rl_remlt {x y : Int64} {l h l2 h2 : Int} (p : rl x l h) (q : rl y l2 h2) (a : 0 ≤ l) (c : 0 < l2) : 0 ≤ (x - x / y * y).toInt ∧ (x - x / y * y).toInt < y.toInt := by
  have e := rl_dv (x := x) (l := l) (h := h) q c
  have xl := x.toInt_lt
  have yl := y.toInt_lt
  unfold rl at *
  have k := tdiv_rem1 (x := x.toInt) (y := y.toInt) (by omega) (by omega)
  rw [Int64.toInt_sub, Int64.toInt_mul, e, bm64 (x := x.toInt.tdiv y.toInt * y.toInt) (by omega) (by omega), bm64 (by omega) (by omega)]
  omega
theorem rl_rem {x y : Int64} {l h l2 h2 : Int} (p : rl x l h) (q : rl y l2 h2) (c : 0 < l2) : rl (x - x / y * y) (-(h2 - 1)) (h2 - 1) := by
  have e := rl_dv (x := x) (l := l) (h := h) q c
  have xl := x.toInt_lt
  have xm := x.le_toInt
  unfold rl at *
  have k := tdiv_rem2 (x := x.toInt) (y := y.toInt) (by omega)
  rw [Int64.toInt_sub, Int64.toInt_mul, e, bm64 (x := x.toInt.tdiv y.toInt * y.toInt) (by omega) (by omega), bm64 (by omega) (by omega)]
  omega
theorem rl_w {x : Int32} {l h : Int} (p : rg x l h) : rl x.toInt64 l h := by
  unfold rl
  rw [Int32.toInt_toInt64]
  exact p
theorem rg_uw {x : Int32} {l h : Int} (p : rl x.toInt64 l h) : rg x l h := by
  unfold rl at p
  rw [Int32.toInt_toInt64] at p
  exact p
theorem rg_n {x : Int64} {l h : Int} (p : rl x l h) (a : -2147483648 ≤ l) (b : h ≤ 2147483647) : rg x.toInt32 l h := by
  unfold rl rg at *
  rw [Int64.toInt_toInt32, bm32 (by omega) (by omega)]
  exact p
theorem rl_tw {x : Int32} {l h : Int} (p : rg x l h) : x.toInt64.toInt = x.toInt := Int32.toInt_toInt64 x
theorem rg_tn {x : Int64} {l h : Int} (p : rl x l h) (a : -2147483648 ≤ l) (b : h ≤ 2147483647) : x.toInt32.toInt = x.toInt := by
  unfold rl at *
  rw [Int64.toInt_toInt32, bm32 (by omega) (by omega)]
theorem rg_b8 {x : Int32} : rg x.toInt8.toInt32 (-128) 127 := by
  unfold rg
  rw [Int8.toInt_toInt32]
  have h1 := x.toInt8.le_toInt
  have h2 := x.toInt8.toInt_lt
  omega
theorem rg_b16 {x : Int32} : rg x.toInt16.toInt32 (-32768) 32767 := by
  unfold rg
  rw [Int16.toInt_toInt32]
  have h1 := x.toInt16.le_toInt
  have h2 := x.toInt16.toInt_lt
  omega
theorem lgc_lt {x y : Int64} : lg_cmp x y < 0 ↔ x < y := (in_cmp x y).1
theorem lgc_gt {x y : Int64} : 0 < lg_cmp x y ↔ y < x := (in_cmp x y).2
theorem lgc_le {x y : Int64} : lg_cmp x y ≤ 0 ↔ x ≤ y := by
  rw [← Int32.not_lt, lgc_gt, Int64.not_lt]
theorem lgc_ge {x y : Int64} : 0 ≤ lg_cmp x y ↔ y ≤ x := by
  rw [← Int32.not_lt, lgc_lt, Int64.not_lt]
theorem lgc_eq {x y : Int64} : lg_cmp x y = 0 ↔ x = y := by
  rcases lgc_cases x y with ⟨e, h⟩ | ⟨e, h⟩ | ⟨e, h⟩
  · rw [e]
    exact iff_of_false (by decide) (fun q => by subst q; omega)
  · rw [e]
    exact iff_of_true rfl h
  · rw [e]
    exact iff_of_false (by decide) (fun q => by subst q; omega)
theorem in_rg {i : Int32} {l h : Int} {n : Nat} (p : rg i l h) (a : 0 ≤ l) (b : h < n) : sx_in i n = true := by
  obtain ⟨p1, p2⟩ := p
  have h0 : ¬ i < 0 := by
    rw [Int32.lt_iff_toInt_lt]
    have : (0 : Int32).toInt = 0 := rfl
    omega
  have h1 : i.toNatClampNeg < n := by
    have e : i.toNatClampNeg = i.toInt.toNat := rfl
    omega
  unfold sx_in
  simp [h0, h1]
theorem rg_mul12 {x y : Int32} {l h l2 h2 : Int} (p : rg x l h) (q : rg y l2 h2) (c : (decide (0 ≤ l) && decide (h ≤ 1000000) && decide (1 ≤ l2) && decide (h2 ≤ 2)) = true) : (y.toInt = 1 ∧ (x * y).toInt = x.toInt) ∨ (y.toInt = 2 ∧ (x * y).toInt = 2 * x.toInt) := by
  simp only [Bool.and_eq_true, decide_eq_true_eq] at c
  obtain ⟨⟨⟨c1, c2⟩, c3⟩, c4⟩ := c
  unfold rg at p q
  have e : y.toInt = 1 ∨ y.toInt = 2 := by omega
  rw [Int32.toInt_mul]
  rcases e with e | e
  · left
    rw [e, bm32 (by omega) (by omega)]
    omega
  · right
    rw [e, bm32 (by omega) (by omega)]
    omega
theorem ne_ti {x y : Int32} (h : ¬ x = y) : ¬ x.toInt = y.toInt := fun q => h (Int32.toInt_inj.mp q)
theorem ne_til {x y : Int64} (h : ¬ x = y) : ¬ x.toInt = y.toInt := fun q => h (Int64.toInt_inj.mp q)
theorem in_om {i : Int32} {n : Nat} (a : 0 ≤ i.toInt) (b : i.toInt < n) : sx_in i n = true := in_rg (l := i.toInt) (h := i.toInt) ⟨Int.le_refl _, Int.le_refl _⟩ a b
theorem in_inv {i : Int32} {n : Nat} (h : sx_in i n = true) (c : 0 < n) : rg i 0 (n - 1) := by
  unfold sx_in at h
  simp only [Bool.and_eq_true, decide_eq_true_eq] at h
  have h1 := h.1
  rw [Int32.lt_iff_toInt_lt, show (0 : Int32).toInt = 0 from rfl] at h1
  have e : i.toNatClampNeg = i.toInt.toNat := rfl
  unfold rg
  omega
theorem in_rgm {i : Int32} {l h : Int} {n m : Nat} (p : rg i l h) (a : 0 ≤ l) (b : h < m) (c : m ≤ n) : sx_in i n = true := in_rg p a (by omega)
theorem bl_rg {x : Int32} {l h : Int} (p : rg x l h) (a : 0 ≤ l) (b : h ≤ 1) : sv_bl x = true := by
  have e : x.toInt = 0 ∨ x.toInt = 1 := by
    unfold rg at p
    omega
  rcases e with e | e
  · rw [Int32.toInt_inj.mp (show x.toInt = (0 : Int32).toInt from e)]; rfl
  · rw [Int32.toInt_inj.mp (show x.toInt = (1 : Int32).toInt from e)]; rfl
theorem cpo_rg {s c : Int32} {l h l2 h2 : Int} {m n : Nat} (p : rg s l h) (q : rg c l2 h2) (a : 0 ≤ l) (b : 0 ≤ l2) (e : h + h2 ≤ m) (w : m ≤ n) : sv_cpo s c n = true := by
  obtain ⟨p1, p2⟩ := p
  obtain ⟨q1, q2⟩ := q
  have z : (0 : Int32).toInt = 0 := rfl
  have h0 : ¬ s < 0 := by rw [Int32.lt_iff_toInt_lt]; omega
  have h1 : ¬ c < 0 := by rw [Int32.lt_iff_toInt_lt]; omega
  have h3 : s.toNatClampNeg + c.toNatClampNeg ≤ n := by
    have e1 : s.toNatClampNeg = s.toInt.toNat := rfl
    have e2 : c.toNatClampNeg = c.toInt.toNat := rfl
    omega
  unfold sv_cpo
  simp [h0, h1, h3]
/-! walking -/
theorem sf_some {A : Type} {P : A → Prop} {a : A} (h : P a) : Sg P (some a) := ⟨a, rfl, h⟩
theorem sf_ite {A : Type} {P : A → Prop} {c : Prop} [Decidable c] {a b : Option A} (h1 : c → Sg P a) (h2 : ¬ c → Sg P b) : Sg P (if c then a else b) := by
  by_cases h : c
  · rw [if_pos h]; exact h1 h
  · rw [if_neg h]; exact h2 h
theorem sf_p {A : Type} {P : A → Prop} {c : Prop} [Decidable c] {a b : Option A} (h : c) (h1 : Sg P a) : Sg P (if c then a else b) := by
  rw [if_pos h]; exact h1
theorem sf_let {A B : Type} {P : B → Prop} {e : A} {f : A → Option B} (h : ∀ x, x = e → Sg P (f x)) : Sg P (sx_let e f) := h e rfl
theorem sf_iteb {A B : Type} {P : B → Prop} {c : Prop} [Decidable c] {a b : Option A} {f : A → Option B} (h1 : c → Sg P (a.bind f)) (h2 : ¬ c → Sg P (b.bind f)) : Sg P ((if c then a else b).bind f) := by
  by_cases h : c
  · rw [if_pos h]; exact h1 h
  · rw [if_neg h]; exact h2 h
theorem sf_pb {A B : Type} {P : B → Prop} {c : Prop} [Decidable c] {a b : Option A} {f : A → Option B} (h : c) (h1 : Sg P (a.bind f)) : Sg P ((if c then a else b).bind f) := by
  rw [if_pos h]; exact h1
theorem sf_letb {A B C : Type} {P : C → Prop} {e : A} {g : A → Option B} {f : B → Option C} (h : ∀ x, x = e → Sg P ((g x).bind f)) : Sg P ((sx_let e g).bind f) := h e rfl
theorem sf_someb {A B : Type} {P : B → Prop} {a : A} {f : A → Option B} (h : Sg P (f a)) : Sg P ((some a).bind f) := h
theorem sf_assoc {A B C : Type} {P : C → Prop} {o : Option A} {g : A → Option B} {f : B → Option C} (h : Sg P (o.bind (fun a => (g a).bind f))) : Sg P ((o.bind g).bind f) := by
  cases o with
  | none => exact h
  | some a => exact h
theorem sf_b {A B : Type} {P : B → Prop} {Q : A → Prop} {o : Option A} {f : A → Option B} (h : Sg Q o) (k : ∀ a, Q a → Sg P (f a)) : Sg P (o.bind f) := by
  obtain ⟨a, rfl, q⟩ := h
  exact k a q
theorem sf_o {A B : Type} {P : B → Prop} {o : Option A} {c : A} {f : A → Option B} (h : o = some c) (k : Sg P (f c)) : Sg P (o.bind f) := by
  rw [h]; exact k
theorem sf_ob {A B C : Type} {P : C → Prop} {o : Option A} {c : A} {g : A → Option B} {f : B → Option C} (h : o = some c) (k : Sg P ((g c).bind f)) : Sg P ((o.bind g).bind f) := by
  rw [h]; exact k
theorem nn_Int32 (y : Int32) (h : 0 ≤ y.toInt) : 2 * y.toBitVec.toNat < 2 ^ 32 ∧ y.toInt = y.toBitVec.toNat := by
  have e : y.toInt = y.toBitVec.toInt := rfl
  rw [e, BitVec.toInt_eq_toNat_cond] at h ⊢
  have l := y.toBitVec.isLt
  split at h
  · rename_i q
    exact ⟨q, by rw [if_pos q]⟩
  · omega
theorem rg_andr {x y : Int32} {l h : Int} (q : rg y l h) (c : 0 ≤ l) : rg (x &&& y) 0 h := by
  obtain ⟨q1, q2⟩ := q
  obtain ⟨n1, n2⟩ := nn_Int32 y (by omega)
  have e : (x &&& y).toBitVec.toNat = x.toBitVec.toNat &&& y.toBitVec.toNat := by
    rw [Int32.toBitVec_and, BitVec.toNat_and]
  have le : x.toBitVec.toNat &&& y.toBitVec.toNat ≤ y.toBitVec.toNat := Nat.and_le_right
  have t : (x &&& y).toInt = (x &&& y).toBitVec.toNat := BitVec.toInt_eq_toNat_of_lt (by rw [e]; omega)
  unfold rg
  rw [t, e]
  omega
theorem rg_andl {x y : Int32} {l h : Int} (q : rg x l h) (c : 0 ≤ l) : rg (x &&& y) 0 h := by
  obtain ⟨q1, q2⟩ := q
  obtain ⟨n1, n2⟩ := nn_Int32 x (by omega)
  have e : (x &&& y).toBitVec.toNat = x.toBitVec.toNat &&& y.toBitVec.toNat := by
    rw [Int32.toBitVec_and, BitVec.toNat_and]
  have le : x.toBitVec.toNat &&& y.toBitVec.toNat ≤ x.toBitVec.toNat := Nat.and_le_left
  have t : (x &&& y).toInt = (x &&& y).toBitVec.toNat := BitVec.toInt_eq_toNat_of_lt (by rw [e]; omega)
  unfold rg
  rw [t, e]
  omega
theorem rg_or {x y : Int32} {l h l2 h2 H : Int} (n : Nat) (p : rg x l h) (q : rg y l2 h2) (c : (decide (0 ≤ l) && decide (0 ≤ l2) && decide (h < 2 ^ n) && decide (h2 < 2 ^ n) && decide (n ≤ 31) && decide (2 ^ n - 1 ≤ H)) = true) : rg (x ||| y) 0 H := by
  simp only [Bool.and_eq_true, decide_eq_true_eq] at c
  obtain ⟨⟨⟨⟨⟨c1, c2⟩, c3⟩, c4⟩, c5⟩, c6⟩ := c
  obtain ⟨p1, p2⟩ := p
  obtain ⟨q1, q2⟩ := q
  obtain ⟨m1, m2⟩ := nn_Int32 x (by omega)
  obtain ⟨n1, n2⟩ := nn_Int32 y (by omega)
  have e : (x ||| y).toBitVec.toNat = x.toBitVec.toNat ||| y.toBitVec.toNat := by
    rw [Int32.toBitVec_or, BitVec.toNat_or]
  have i1 : x.toBitVec.toNat < 2 ^ n := by
    have : ((x.toBitVec.toNat : Nat) : Int) < ((2 ^ n : Nat) : Int) := by push_cast; omega
    exact Int.ofNat_lt.mp this
  have i2 : y.toBitVec.toNat < 2 ^ n := by
    have : ((y.toBitVec.toNat : Nat) : Int) < ((2 ^ n : Nat) : Int) := by push_cast; omega
    exact Int.ofNat_lt.mp this
  have le := Nat.or_lt_two_pow i1 i2
  have le2 : 2 ^ n ≤ 2 ^ 31 := Nat.pow_le_pow_right (by decide) c5
  have t : (x ||| y).toInt = (x ||| y).toBitVec.toNat := BitVec.toInt_eq_toNat_of_lt (by rw [e]; omega)
  unfold rg
  rw [t, e]
  have : ((x.toBitVec.toNat ||| y.toBitVec.toNat : Nat) : Int) < ((2 ^ n : Nat) : Int) := Int.ofNat_lt.mpr le
  push_cast at this
  push_cast
  omega
theorem rg_shl8 {x : Int32} {l h : Int} (p : rg x l h) (a : (-2147483648) ≤ l * 256) (b : h * 256 ≤ 2147483647) : rg (x <<< ((8 : Int32) &&& 31)) (l * 256) (h * 256) := by
  have e : x <<< ((8 : Int32) &&& 31) = x * 256 := by
    refine Int32.toBitVec.inj ?_
    rw [Int32.toBitVec_shiftLeft, Int32.toBitVec_mul]
    show x.toBitVec <<< (8 : Nat) = _
    rw [BitVec.shiftLeft_eq_mul_twoPow]
    rfl
  rw [e]
  have q : (256 : Int32).toInt = 256 := rfl
  unfold rg at *
  rw [Int32.toInt_mul, q, bm32 (by omega) (by omega)]
  omega
theorem nn_Int64 (y : Int64) (h : 0 ≤ y.toInt) : 2 * y.toBitVec.toNat < 2 ^ 64 ∧ y.toInt = y.toBitVec.toNat := by
  have e : y.toInt = y.toBitVec.toInt := rfl
  rw [e, BitVec.toInt_eq_toNat_cond] at h ⊢
  have l := y.toBitVec.isLt
  split at h
  · rename_i q
    exact ⟨q, by rw [if_pos q]⟩
  · omega
theorem rl_andr {x y : Int64} {l h : Int} (q : rl y l h) (c : 0 ≤ l) : rl (x &&& y) 0 h := by
  obtain ⟨q1, q2⟩ := q
  obtain ⟨n1, n2⟩ := nn_Int64 y (by omega)
  have e : (x &&& y).toBitVec.toNat = x.toBitVec.toNat &&& y.toBitVec.toNat := by
    rw [Int64.toBitVec_and, BitVec.toNat_and]
  have le : x.toBitVec.toNat &&& y.toBitVec.toNat ≤ y.toBitVec.toNat := Nat.and_le_right
  have t : (x &&& y).toInt = (x &&& y).toBitVec.toNat := BitVec.toInt_eq_toNat_of_lt (by rw [e]; omega)
  unfold rl
  rw [t, e]
  omega
theorem rl_andl {x y : Int64} {l h : Int} (q : rl x l h) (c : 0 ≤ l) : rl (x &&& y) 0 h := by
  obtain ⟨q1, q2⟩ := q
  obtain ⟨n1, n2⟩ := nn_Int64 x (by omega)
  have e : (x &&& y).toBitVec.toNat = x.toBitVec.toNat &&& y.toBitVec.toNat := by
    rw [Int64.toBitVec_and, BitVec.toNat_and]
  have le : x.toBitVec.toNat &&& y.toBitVec.toNat ≤ x.toBitVec.toNat := Nat.and_le_left
  have t : (x &&& y).toInt = (x &&& y).toBitVec.toNat := BitVec.toInt_eq_toNat_of_lt (by rw [e]; omega)
  unfold rl
  rw [t, e]
  omega
theorem rl_or {x y : Int64} {l h l2 h2 H : Int} (n : Nat) (p : rl x l h) (q : rl y l2 h2) (c : (decide (0 ≤ l) && decide (0 ≤ l2) && decide (h < 2 ^ n) && decide (h2 < 2 ^ n) && decide (n ≤ 63) && decide (2 ^ n - 1 ≤ H)) = true) : rl (x ||| y) 0 H := by
  simp only [Bool.and_eq_true, decide_eq_true_eq] at c
  obtain ⟨⟨⟨⟨⟨c1, c2⟩, c3⟩, c4⟩, c5⟩, c6⟩ := c
  obtain ⟨p1, p2⟩ := p
  obtain ⟨q1, q2⟩ := q
  obtain ⟨m1, m2⟩ := nn_Int64 x (by omega)
  obtain ⟨n1, n2⟩ := nn_Int64 y (by omega)
  have e : (x ||| y).toBitVec.toNat = x.toBitVec.toNat ||| y.toBitVec.toNat := by
    rw [Int64.toBitVec_or, BitVec.toNat_or]
  have i1 : x.toBitVec.toNat < 2 ^ n := by
    have : ((x.toBitVec.toNat : Nat) : Int) < ((2 ^ n : Nat) : Int) := by push_cast; omega
    exact Int.ofNat_lt.mp this
  have i2 : y.toBitVec.toNat < 2 ^ n := by
    have : ((y.toBitVec.toNat : Nat) : Int) < ((2 ^ n : Nat) : Int) := by push_cast; omega
    exact Int.ofNat_lt.mp this
  have le := Nat.or_lt_two_pow i1 i2
  have le2 : 2 ^ n ≤ 2 ^ 63 := Nat.pow_le_pow_right (by decide) c5
  have t : (x ||| y).toInt = (x ||| y).toBitVec.toNat := BitVec.toInt_eq_toNat_of_lt (by rw [e]; omega)
  unfold rl
  rw [t, e]
  have : ((x.toBitVec.toNat ||| y.toBitVec.toNat : Nat) : Int) < ((2 ^ n : Nat) : Int) := Int.ofNat_lt.mpr le
  push_cast at this
  push_cast
  omega
theorem rl_shl16 {x : Int64} {l h : Int} (p : rl x l h) (a : (-9223372036854775808) ≤ l * 65536) (b : h * 65536 ≤ 9223372036854775807) : rl (x <<< ((16 : Int32).toInt64 &&& 63)) (l * 65536) (h * 65536) := by
  have e : x <<< ((16 : Int32).toInt64 &&& 63) = x * 65536 := by
    refine Int64.toBitVec.inj ?_
    rw [Int64.toBitVec_shiftLeft, Int64.toBitVec_mul]
    show x.toBitVec <<< (16 : Nat) = _
    rw [BitVec.shiftLeft_eq_mul_twoPow]
    rfl
  rw [e]
  have q : (65536 : Int64).toInt = 65536 := rfl
  unfold rl at *
  rw [Int64.toInt_mul, q, bm64 (by omega) (by omega)]
  omega
end
section
/-! THE INVARIANT OF RANGES -/
def lk {A : Type} (L : List (Nat × A)) (a : Nat) : Option A := match L with
  | [] => none
  | q :: r => if q.1 = a then some q.2 else lk r a
def R_of (A : List (Nat × Int × Int)) (F : List (Nat × List (Nat × Int × Int))) (a k : Nat) : Option (Int × Int) := match lk A a with
  | some r => some r
  | none => match lk F a with
    | none => none
    | some L => lk L k
abbrev Tb := (Nat → Nat → Option (Int × Int)) × (Nat → Nat → Bool) × (sv_V → Prop) × (Nat → Nat → Bool)
/-- X depends on the numbers of its support alone -/
def Sup (X : sv_V → Prop) (xs : Nat → Nat → Bool) : Prop := ∀ V W : sv_V, (∀ a k, xs a k = true → W.1 a k = V.1 a k ∧ W.2.1 a k = V.2.1 a k) → X V → X W
def SIx (T : Tb) (G V : sv_V) : Prop := (∀ a k l h, T.1 a k = some (l, h) → rg (V.1 a k) l h) ∧ (∀ a k, T.2.1 a k = true → V.1 a k = G.1 a k ∧ V.2.1 a k = G.2.1 a k ∧ V.2.2 a k = G.2.2 a k) ∧ (∃ b, b ∈ [31, 45] ∧ V.2.2 69 6 = some b) ∧ (∃ b, b ∈ [82, 93, 103, 113, 123, 133] ∧ V.2.2 69 7 = some b) ∧ T.2.2.1 V ∧ Sup T.2.2.1 T.2.2.2
section SG
variable {T : Tb} {G V V2 : sv_V}
theorem SIx.rd (S : SIx T G V) {a k : Nat} {l h : Int} (e : T.1 a k = some (l, h)) : rg (V.1 a k) l h := S.1 a k l h e
theorem SIx.rdA (S : SIx T G V) {a k : Nat} {l h : Int} (e : ∀ k, T.1 a k = some (l, h)) : rg (V.1 a k) l h := S.1 a k l h (e k)
def inR (r : Option (Int × Int)) (l h : Int) : Bool := match r with
  | none => false
  | some q => decide (l ≤ q.1) && decide (q.2 ≤ h)
def outR (r : Option (Int × Int)) (l h : Int) : Bool := match r with
  | none => true
  | some q => decide (q.1 ≤ l) && decide (h ≤ q.2)
theorem inR_e {r : Option (Int × Int)} {l h : Int} (e : inR r l h = true) : ∃ a b, r = some (a, b) ∧ l ≤ a ∧ b ≤ h := by
  match r, e with
  | some (a, b), e =>
    simp only [inR, Bool.and_eq_true, decide_eq_true_eq] at e
    exact ⟨a, b, rfl, e.1, e.2⟩
theorem SIx.rdS (S : SIx T G V) {L : List Nat} {a k : Nat} {l h : Int} (m : a ∈ L) (e : L.all (fun a => inR (T.1 a k) l h) = true) : rg (V.1 a k) l h := by
  obtain ⟨x, y, e1, e2, e3⟩ := inR_e (List.all_eq_true.mp e a m)
  exact rg_m (S.1 a k x y e1) e2 e3
theorem SIx.rdSa (S : SIx T G V) {L : List Nat} {a k : Nat} {l h : Int} (m : a ∈ L) (e : ∀ k, L.all (fun a => inR (T.1 a k) l h) = true) : rg (V.1 a k) l h := S.rdS m (e k)
def okI (T : Tb) (a k : Nat) (l h : Int) : Prop := (T.2.1 a k = false ∧ T.2.2.2 a k = false) ∧ outR (T.1 a k) l h = true
def okN (T : Tb) (a k : Nat) : Prop := (T.2.1 a k = false ∧ T.2.2.2 a k = false) ∧ T.1 a k = none
theorem SIx.w0 (S : SIx T G V) {a k : Nat} {x : Int32} (g : T.2.1 a k = false ∧ T.2.2.2 a k = false) (r : ∀ l h, T.1 a k = some (l, h) → rg x l h) : SIx T G (sv_I V a k x) := by
  refine ⟨fun b j l h e => ?_, fun b j e => ?_, S.2.2.1, S.2.2.2.1, S.2.2.2.2.2 V _ (fun b j e => ⟨?_, rfl⟩) S.2.2.2.2.1, S.2.2.2.2.2⟩
  rotate_left
  rotate_left
  · show (if b = a ∧ j = k then x else V.1 b j) = _
    rw [if_neg]
    rintro ⟨rfl, rfl⟩
    rw [g.2] at e
    cases e
  · show rg (if b = a ∧ j = k then x else V.1 b j) l h
    by_cases q : b = a ∧ j = k
    · rw [if_pos q]
      obtain ⟨rfl, rfl⟩ := q
      exact r l h e
    · rw [if_neg q]
      exact S.1 b j l h e
  · refine ⟨?_, (S.2.1 b j e).2⟩
    show (if b = a ∧ j = k then x else V.1 b j) = _
    rw [if_neg]
    · exact (S.2.1 b j e).1
    · rintro ⟨rfl, rfl⟩
      rw [g.1] at e
      cases e
theorem SIx.wc (S : SIx T G V) {a k : Nat} {x : Int32} {l h : Int} (g : okI T a k l h) (r : rg x l h) : SIx T G (sv_I V a k x) := S.w0 g.1 (fun l2 h2 e => by
  have q := g.2
  rw [e] at q
  simp only [outR, Bool.and_eq_true, decide_eq_true_eq] at q
  exact rg_m r q.1 q.2)
theorem SIx.wn (S : SIx T G V) {a k : Nat} {x : Int32} (g : okN T a k) : SIx T G (sv_I V a k x) := S.w0 g.1 (fun l2 h2 e => by
  rw [g.2] at e
  cases e)
theorem SIx.wca (S : SIx T G V) {a k : Nat} {x : Int32} {l h : Int} (g : ∀ k, okI T a k l h) (r : rg x l h) : SIx T G (sv_I V a k x) := S.wc (g k) r
theorem SIx.wna (S : SIx T G V) {a k : Nat} {x : Int32} (g : ∀ k, okN T a k) : SIx T G (sv_I V a k x) := S.wn (g k)
theorem SIx.wcS (S : SIx T G V) {L : List Nat} {a k : Nat} {x : Int32} {l h : Int} (m : a ∈ L) (g : L.all (fun a => !(T.2.1 a k) && !(T.2.2.2 a k) && outR (T.1 a k) l h) = true) (r : rg x l h) : SIx T G (sv_I V a k x) := by
  have q := List.all_eq_true.mp g a m
  simp only [Bool.and_eq_true, Bool.not_eq_true'] at q
  exact S.wc ⟨⟨q.1.1, q.1.2⟩, q.2⟩ r
theorem SIx.wnS (S : SIx T G V) {L : List Nat} {a k : Nat} {x : Int32} (m : a ∈ L) (g : L.all (fun a => !(T.2.1 a k) && !(T.2.2.2 a k) && (T.1 a k).isNone) = true) : SIx T G (sv_I V a k x) := by
  have q := List.all_eq_true.mp g a m
  simp only [Bool.and_eq_true, Bool.not_eq_true', Option.isNone_iff_eq_none] at q
  exact S.wn ⟨⟨q.1.1, q.1.2⟩, q.2⟩
theorem SIx.wcSa (S : SIx T G V) {L : List Nat} {a k : Nat} {x : Int32} {l h : Int} (m : a ∈ L) (g : ∀ k, L.all (fun a => !(T.2.1 a k) && !(T.2.2.2 a k) && outR (T.1 a k) l h) = true) (r : rg x l h) : SIx T G (sv_I V a k x) := S.wcS m (g k) r
theorem SIx.wnSa (S : SIx T G V) {L : List Nat} {a k : Nat} {x : Int32} (m : a ∈ L) (g : ∀ k, L.all (fun a => !(T.2.1 a k) && !(T.2.2.2 a k) && (T.1 a k).isNone) = true) : SIx T G (sv_I V a k x) := S.wnS m (g k)
theorem SIx.wL (S : SIx T G V) {a k : Nat} {x : Int64} (g : T.2.1 a k = false ∧ T.2.2.2 a k = false) : SIx T G (sv_L V a k x) := by
  refine ⟨S.1, fun b j e => ⟨(S.2.1 b j e).1, ?_, (S.2.1 b j e).2.2⟩, S.2.2.1, S.2.2.2.1, S.2.2.2.2.2 V _ (fun b j e => ⟨rfl, ?_⟩) S.2.2.2.2.1, S.2.2.2.2.2⟩
  · show (if b = a ∧ j = k then x else V.2.1 b j) = _
    rw [if_neg]
    · exact (S.2.1 b j e).2.1
    · rintro ⟨rfl, rfl⟩
      rw [g.1] at e
      cases e
  · show (if b = a ∧ j = k then x else V.2.1 b j) = _
    rw [if_neg]
    rintro ⟨rfl, rfl⟩
    rw [g.2] at e
    cases e
theorem SIx.wLa (S : SIx T G V) {a k : Nat} {x : Int64} (g : ∀ k, T.2.1 a k = false ∧ T.2.2.2 a k = false) : SIx T G (sv_L V a k x) := S.wL (g k)
theorem SIx.wR6 (S : SIx T G V) {b : Nat} (m : b ∈ [31, 45]) (g : T.2.1 69 6 = false) : SIx T G (sv_R V 69 6 (some b)) := by
  refine ⟨S.1, fun c j e => ⟨(S.2.1 c j e).1, (S.2.1 c j e).2.1, ?_⟩, ⟨b, m, rfl⟩, S.2.2.2.1, S.2.2.2.2.2 V _ (fun _ _ _ => ⟨rfl, rfl⟩) S.2.2.2.2.1, S.2.2.2.2.2⟩
  show (if c = 69 ∧ j = 6 then some b else V.2.2 c j) = _
  rw [if_neg]
  · exact (S.2.1 c j e).2.2
  · rintro ⟨rfl, rfl⟩
    rw [g] at e
    cases e
theorem SIx.wR7 (S : SIx T G V) {b : Nat} (m : b ∈ [82, 93, 103, 113, 123, 133]) (g : T.2.1 69 7 = false) : SIx T G (sv_R V 69 7 (some b)) := by
  refine ⟨S.1, fun c j e => ⟨(S.2.1 c j e).1, (S.2.1 c j e).2.1, ?_⟩, S.2.2.1, ⟨b, m, rfl⟩, S.2.2.2.2.2 V _ (fun _ _ _ => ⟨rfl, rfl⟩) S.2.2.2.2.1, S.2.2.2.2.2⟩
  show (if c = 69 ∧ j = 7 then some b else V.2.2 c j) = _
  rw [if_neg]
  · exact (S.2.1 c j e).2.2
  · rintro ⟨rfl, rfl⟩
    rw [g] at e
    cases e
/-- a copy: what the target's places must be, those of the source are -/
def okC (T : Tb) (a b : Nat) : Prop := ∀ i j, (T.2.1 b j = false ∧ T.2.2.2 b j = false) ∧ ∀ l h, T.1 b j = some (l, h) → ∃ l2 h2, T.1 a i = some (l2, h2) ∧ l ≤ l2 ∧ h2 ≤ h
theorem SIx.wC (S : SIx T G V) {a sp b dp n : Nat} (g : okC T a b) : SIx T G (sv_C V a sp b dp n) := by
  refine ⟨fun c j l h e => ?_, fun c j e => ⟨?_, (S.2.1 c j e).2⟩, S.2.2.1, S.2.2.2.1, S.2.2.2.2.2 V _ (fun c j e => ⟨?_, rfl⟩) S.2.2.2.2.1, S.2.2.2.2.2⟩
  rotate_left
  rotate_left
  · show (if c = b then va_cpy (V.1 a) (V.1 b) sp dp n j else V.1 c j) = _
    rw [if_neg]
    rintro rfl
    rw [(g 0 j).1.2] at e
    cases e
  · show rg (if c = b then va_cpy (V.1 a) (V.1 b) sp dp n j else V.1 c j) l h
    by_cases q : c = b
    · subst q
      rw [if_pos rfl]
      unfold va_cpy
      split
      · obtain ⟨l2, h2, e1, e2, e3⟩ := (g _ j).2 l h e
        exact rg_m (S.1 a _ l2 h2 e1) e2 e3
      · exact S.1 c j l h e
    · rw [if_neg q]
      exact S.1 c j l h e
  · show (if c = b then va_cpy (V.1 a) (V.1 b) sp dp n j else V.1 c j) = _
    rw [if_neg]
    · exact (S.2.1 c j e).1
    · rintro rfl
      rw [(g 0 j).1.1] at e
      cases e
theorem rd_s {a k : Nat} {x : Int32} (q : V2 = sv_I V a k x) : V2.1 a k = x := by
  subst q
  exact vI_same _ _ _ _
theorem rd_k {a k b j : Nat} {x : Int32} (q : V2 = sv_I V a k x) (n : j ≠ k) : V2.1 b j = V.1 b j := by
  subst q
  show (if b = a ∧ j = k then x else V.1 b j) = _
  rw [if_neg (fun e => n e.2)]
theorem rd_c {a k b j : Nat} {x : Int32} (q : V2 = sv_I V a k x) (n : b ≠ a) : V2.1 b j = V.1 b j := by
  subst q
  exact vI_cell _ _ _ _ n
theorem rd_d {a k b j : Nat} {x : Int32} {L M : List Nat} (q : V2 = sv_I V a k x) (m : b ∈ L) (n : a ∈ M) (e : L.all (fun b => !(M.contains b)) = true) : V2.1 b j = V.1 b j := by
  refine rd_c q ?_
  rintro rfl
  have u := List.all_eq_true.mp e b m
  rw [List.contains_iff_mem.mpr n] at u
  cases u
theorem wr_d {a k b j : Nat} {x : Int32} {l h : Int} {L M : List Nat} (q : V2 = sv_I V a k x) (m : b ∈ L) (n : a ∈ M) (e : L.all (fun b => !(M.contains b)) = true) (p : rg (V.1 b j) l h) : rg (V2.1 b j) l h := by
  rw [rd_d q m n e]
  exact p
theorem rd_R {a k b j : Nat} {x : Option Nat} (q : V2 = sv_R V a k x) : V2.1 b j = V.1 b j := by
  subst q
  rfl
theorem rd_L {a k b j : Nat} {x : Int64} (q : V2 = sv_L V a k x) : V2.1 b j = V.1 b j := by
  subst q
  rfl
theorem wr_s {a k : Nat} {x : Int32} {l h : Int} (q : V2 = sv_I V a k x) (p : rg x l h) : rg (V2.1 a k) l h := by
  subst q
  rw [vI_same]
  exact p
theorem wr_k {a k b j : Nat} {x : Int32} {l h : Int} (q : V2 = sv_I V a k x) (n : j ≠ k) (p : rg (V.1 b j) l h) : rg (V2.1 b j) l h := by
  subst q
  show rg (if b = a ∧ j = k then x else V.1 b j) l h
  rw [if_neg (fun e => n e.2)]
  exact p
theorem wr_c {a k b j : Nat} {x : Int32} {l h : Int} (q : V2 = sv_I V a k x) (n : b ≠ a) (p : rg (V.1 b j) l h) : rg (V2.1 b j) l h := by
  subst q
  rw [vI_cell _ _ _ _ n]
  exact p
theorem wr_L {a k b j : Nat} {x : Int64} {l h : Int} (q : V2 = sv_L V a k x) (p : rg (V.1 b j) l h) : rg (V2.1 b j) l h := by
  subst q
  exact p
theorem wr_R {a k b j : Nat} {x : Option Nat} {l h : Int} (q : V2 = sv_R V a k x) (p : rg (V.1 b j) l h) : rg (V2.1 b j) l h := by
  subst q
  exact p
theorem wr_cp {a sp c dp n b j : Nat} {l h : Int} (q : V2 = sv_C V a sp c dp n) (m : b ≠ c) (p : rg (V.1 b j) l h) : rg (V2.1 b j) l h := by
  subst q
  show rg (if b = c then _ else V.1 b j) l h
  rw [if_neg m]
  exact p
def QI (T : Tb) (G : sv_V) (l h : Int) (a : Int32 × sv_V) : Prop := SIx T G a.2 ∧ rg a.1 l h
def QL (T : Tb) (G : sv_V) (l h : Int) (a : Int64 × sv_V) : Prop := SIx T G a.2 ∧ rl a.1 l h
theorem sf_w {B : Type} {P : B → Prop} {W : sv_V} {f : sv_V → Option B} (S : SIx T G W) (K : ∀ V2, V2 = W → SIx T G V2 → Sg P (f V2)) : Sg P (sx_let W f) := K W rfl S
theorem sf_wb {A B : Type} {P : B → Prop} {W : sv_V} {g : sv_V → Option A} {f : A → Option B} (S : SIx T G W) (K : ∀ V2, V2 = W → SIx T G V2 → Sg P ((g V2).bind f)) : Sg P ((sx_let W g).bind f) := K W rfl S
theorem sf_sI {x : Int32} {l h : Int} (S : SIx T G V) (r : rg x l h) : Sg (QI T G l h) (some (x, V)) := ⟨_, rfl, S, r⟩
theorem sf_sL {x : Int64} {l h : Int} (S : SIx T G V) (r : rl x l h) : Sg (QL T G l h) (some (x, V)) := ⟨_, rfl, S, r⟩
theorem sf_sV (S : SIx T G V) : Sg (SIx T G) (some V) := ⟨_, rfl, S⟩
theorem sf_bI {B : Type} {P : B → Prop} {o : Option (Int32 × sv_V)} {f : Int32 × sv_V → Option B} {l h : Int} (H : Sg (QI T G l h) o) (K : ∀ x V, SIx T G V → rg x l h → Sg P (f (x, V))) : Sg P (o.bind f) := by
  obtain ⟨⟨x, V⟩, rfl, S, r⟩ := H
  exact K x V S r
theorem sf_bL {B : Type} {P : B → Prop} {o : Option (Int64 × sv_V)} {f : Int64 × sv_V → Option B} {l h : Int} (H : Sg (QL T G l h) o) (K : ∀ x V, SIx T G V → rl x l h → Sg P (f (x, V))) : Sg P (o.bind f) := by
  obtain ⟨⟨x, V⟩, rfl, S, r⟩ := H
  exact K x V S r
theorem sf_bV {B : Type} {P : B → Prop} {o : Option sv_V} {f : sv_V → Option B} (H : Sg (SIx T G) o) (K : ∀ V, SIx T G V → Sg P (f V)) : Sg P (o.bind f) := by
  obtain ⟨V, rfl, S⟩ := H
  exact K V S
def QP (V : sv_V) (l h : Int) (a : Int32 × sv_V) : Prop := a.2 = V ∧ rg a.1 l h
def QR (V : sv_V) (l h : Int) (a : Int64 × sv_V) : Prop := a.2 = V ∧ rl a.1 l h
theorem sf_pI {x : Int32} {l h : Int} (r : rg x l h) : Sg (QP V l h) (some (x, V)) := ⟨_, rfl, rfl, r⟩
theorem sf_pL {x : Int64} {l h : Int} (r : rl x l h) : Sg (QR V l h) (some (x, V)) := ⟨_, rfl, rfl, r⟩
theorem sf_qI {B : Type} {P : B → Prop} {o : Option (Int32 × sv_V)} {f : Int32 × sv_V → Option B} {l h : Int} (H : Sg (QP V l h) o) (K : ∀ x, rg x l h → Sg P (f (x, V))) : Sg P (o.bind f) := by
  obtain ⟨⟨x, W⟩, rfl, e, r⟩ := H
  cases e
  exact K x r
theorem sf_qL {B : Type} {P : B → Prop} {o : Option (Int64 × sv_V)} {f : Int64 × sv_V → Option B} {l h : Int} (H : Sg (QR V l h) o) (K : ∀ x, rl x l h → Sg P (f (x, V))) : Sg P (o.bind f) := by
  obtain ⟨⟨x, W⟩, rfl, e, r⟩ := H
  cases e
  exact K x r
theorem sf_nI {o : Option (Int32 × sv_V)} {l h l2 h2 : Int} (a : l2 ≤ l) (b : h ≤ h2) (H : Sg (QP V l h) o) : Sg (QP V l2 h2) o := by
  obtain ⟨⟨x, W⟩, rfl, e, r⟩ := H
  exact ⟨_, rfl, e, rg_m r a b⟩
theorem sf_nL {o : Option (Int64 × sv_V)} {l h l2 h2 : Int} (a : l2 ≤ l) (b : h ≤ h2) (H : Sg (QR V l h) o) : Sg (QR V l2 h2) o := by
  obtain ⟨⟨x, W⟩, rfl, e, r⟩ := H
  exact ⟨_, rfl, e, rl_m r a b⟩
def QX {A : Type} (Q : A × sv_V → Prop) (p : sv_V → Prop) (a : A × sv_V) : Prop := Q a ∧ p a.2
def QY (Q : sv_V → Prop) (p : sv_V → Prop) (a : sv_V) : Prop := Q a ∧ p a
theorem sf_sX {A : Type} {Q : A × sv_V → Prop} {p : sv_V → Prop} {x : A} (h : Sg Q (some (x, V))) (k : p V) : Sg (QX Q p) (some (x, V)) := by
  obtain ⟨a, e, q⟩ := h
  cases e
  exact ⟨_, rfl, q, k⟩
theorem sf_sY {Q : sv_V → Prop} {p : sv_V → Prop} (h : Sg Q (some V)) (k : p V) : Sg (QY Q p) (some V) := by
  obtain ⟨a, e, q⟩ := h
  cases e
  exact ⟨_, rfl, q, k⟩
theorem sf_bXI {B : Type} {P : B → Prop} {o : Option (Int32 × sv_V)} {f : Int32 × sv_V → Option B} {l h : Int} {p : sv_V → Prop} (H : Sg (QX (QI T G l h) p) o) (K : ∀ x V, SIx T G V → rg x l h → p V → Sg P (f (x, V))) : Sg P (o.bind f) := by
  obtain ⟨⟨x, V⟩, rfl, ⟨S, r⟩, k⟩ := H
  exact K x V S r k
theorem sf_bY {B : Type} {P : B → Prop} {o : Option sv_V} {f : sv_V → Option B} {p : sv_V → Prop} (H : Sg (QY (SIx T G) p) o) (K : ∀ V, SIx T G V → p V → Sg P (f V)) : Sg P (o.bind f) := by
  obtain ⟨V, rfl, S, k⟩ := H
  exact K V S k
theorem sf_mI {o : Option (Int32 × sv_V)} {l h l2 h2 : Int} (a : l2 ≤ l) (b : h ≤ h2) (H : Sg (QI T G l h) o) : Sg (QI T G l2 h2) o := by
  obtain ⟨⟨x, V⟩, rfl, S, r⟩ := H
  exact ⟨_, rfl, S, rg_m r a b⟩
theorem sf_mL {o : Option (Int64 × sv_V)} {l h l2 h2 : Int} (a : l2 ≤ l) (b : h ≤ h2) (H : Sg (QL T G l h) o) : Sg (QL T G l2 h2) o := by
  obtain ⟨⟨x, V⟩, rfl, S, r⟩ := H
  exact ⟨_, rfl, S, rl_m r a b⟩
theorem sf_ref6 {B : Type} {P : B → Prop} {f : Nat → Option B} (S : SIx T G V) (K : ∀ b, b ∈ [31, 45] → V.2.2 69 6 = some b → Sg P (f b)) : Sg P ((V.2.2 69 6).bind f) := by
  obtain ⟨b, m, e⟩ := S.2.2.1
  rw [e]
  exact K b m e
theorem sf_ref7 {B : Type} {P : B → Prop} {f : Nat → Option B} (S : SIx T G V) (K : ∀ b, b ∈ [82, 93, 103, 113, 123, 133] → V.2.2 69 7 = some b → Sg P (f b)) : Sg P ((V.2.2 69 7).bind f) := by
  obtain ⟨b, m, e⟩ := S.2.2.2.1
  rw [e]
  exact K b m e
end SG
def RefsOf (G : sv_V) (bo bm : Nat) : Prop := bo ∈ [82, 93, 103, 113, 123, 133] ∧ bm ∈ [31, 45] ∧ G.2.2 69 7 = some bo ∧ G.2.2 69 6 = some bm
theorem ref7 {T : Tb} {G V : sv_V} {bo bm : Nat} (S : SIx T G V) (h : RefsOf G bo bm) (g : T.2.1 69 7 = true) : V.2.2 69 7 = some bo := (S.2.1 69 7 g).2.2.trans h.2.2.1
theorem ref6 {T : Tb} {G V : sv_V} {bo bm : Nat} (S : SIx T G V) (h : RefsOf G bo bm) (g : T.2.1 69 6 = true) : V.2.2 69 6 = some bm := (S.2.1 69 6 g).2.2.trans h.2.2.2
def offR (r : Option (Int × Int)) (l h : Int) : Bool := match r with
  | none => false
  | some q => decide (q.2 < l) || decide (h < q.1)
theorem SIx.cut {T : Tb} {G V : sv_V} (S : SIx T G V) {L M : List Nat} {b k : Nat} {l h : Int} (m : b ∈ L) (p : rg (V.1 b k) l h) (e : L.all (fun b => M.contains b || offR (T.1 b k) l h) = true) : b ∈ M := by
  have q := List.all_eq_true.mp e b m
  rw [Bool.or_eq_true] at q
  rcases q with q | q
  · exact List.contains_iff_mem.mp q
  · exfalso
    match hr : T.1 b k, q with
    | some (x, y), q =>
      simp only [offR, Bool.or_eq_true, decide_eq_true_eq] at q
      have r := S.1 b k x y hr
      unfold rg at *
      omega
theorem sf_crS {B : Type} {P : B → Prop} {f : Nat → Option B} {L T : List Nat} {b k : Nat} (m : b ∈ L) (e : L.all (fun b => match cr b k with | some c => T.contains c | none => false) = true) (K : ∀ c, c ∈ T → cr b k = some c → Sg P (f c)) : Sg P ((cr b k).bind f) := by
  have q := List.all_eq_true.mp e b m
  match h : cr b k, q with
  | some c, q => exact K c (List.contains_iff_mem.mp q) h
theorem sf_lenS {B : Type} {P : B → Prop} {f : Nat → Option B} {L : List Nat} {t c m : Nat} (h : c ∈ L) (e : L.all (fun c => match sv_len t c with | some n => decide (m ≤ n) | none => false) = true) (K : ∀ n, m ≤ n → sv_len t c = some n → Sg P (f n)) : Sg P ((sv_len t c).bind f) := by
  have q := List.all_eq_true.mp e c h
  match h : sv_len t c, q with
  | some n, q => exact K n (of_decide_eq_true q) h
theorem sf_lenE {B : Type} {P : B → Prop} {f : Nat → Option B} {L : List Nat} {t c n : Nat} (h : c ∈ L) (e : L.all (fun c => decide (sv_len t c = some n)) = true) (K : Sg P (f n)) : Sg P ((sv_len t c).bind f) := by
  rw [of_decide_eq_true (List.all_eq_true.mp e c h)]
  exact K
theorem sf_crI {B : Type} {P : B → Prop} {f : Nat → Option B} {T : List Nat} {b : Nat} {i : Int32} {l h : Int} (p : rg i l h) (c : 0 ≤ l) (e : (List.range (h + 1).toNat).all (fun k => decide ((k : Int) < l) || match cr b k with | some c => T.contains c | none => false) = true) (K : ∀ c, c ∈ T → Sg P (f c)) : Sg P ((cr b i.toNatClampNeg).bind f) := by
  have p1 := p.1
  have p2 := p.2
  have e1 : i.toNatClampNeg = i.toInt.toNat := rfl
  have q := List.all_eq_true.mp e i.toNatClampNeg (List.mem_range.mpr (by omega))
  rw [decide_eq_false (show ¬ ((i.toNatClampNeg : Nat) : Int) < l by omega), Bool.false_or] at q
  match h : cr b i.toNatClampNeg, q with
  | some c, q => exact K c (List.contains_iff_mem.mp q)
theorem mem_of {L T : List Nat} {a : Nat} (m : a ∈ L) (e : L.all (fun a => T.contains a) = true) : a ∈ T := List.contains_iff_mem.mp (List.all_eq_true.mp e a m)
theorem lay_S {L : List Nat} {b n : Nat} (m : b ∈ L) (e : L.all (fun b => decide (lay b = .inl n)) = true) : lay b = .inl n := of_decide_eq_true (List.all_eq_true.mp e b m)
/-! capacities of Points -/
def cap (b : Nat) : Int := if b = 34 ∨ b = 48 then 64 else if b = 82 then 0 else if b = 17 then 100 else 102
def ptL : List Nat := [17, 34, 48, 82, 93, 103, 113, 123, 133]
theorem cap_len {b j c n : Nat} (m : b ∈ ptL) (e : cr b j = some c) (q : sv_len 0 c = some n) (hj : j < 6) : cap b ≤ n := by
  have t : ptL.all (fun b => (List.range 6).all fun j => match cr b j with | some c => (match sv_len 0 c with | some n => decide (cap b ≤ n) | none => true) | none => true) = true := by decide +kernel
  have u := List.all_eq_true.mp (List.all_eq_true.mp t b m) j (List.mem_range.mpr hj)
  rw [e] at u
  simp only [q] at u
  exact of_decide_eq_true u
theorem in_cap {i : Int32} {l h : Int} {b n : Nat} (k : i.toInt < cap b) (p : rg i l h) (a : 0 ≤ l) (c : cap b ≤ n) : sx_in i n = true := in_rg (l := i.toInt) (h := i.toInt) ⟨Int.le_refl _, Int.le_refl _⟩ (Int.le_trans a p.1) (by omega)
theorem cap_S {L : List Nat} {i : Int32} {l h : Int} {b : Nat} (m : b ∈ L) (e : L.all (fun b => decide (h < cap b)) = true) (p : rg i l h) : i.toInt < cap b := Int.lt_of_le_of_lt p.2 (of_decide_eq_true (List.all_eq_true.mp e b m))
theorem cap_c {i : Int32} {l h : Int} {b : Nat} (e : h < cap b) (p : rg i l h) : i.toInt < cap b := Int.lt_of_le_of_lt p.2 e
theorem cap_eq {i j : Int32} {b : Nat} (q : j = i) (h : i.toInt < cap b) : j.toInt < cap b := q ▸ h
theorem ne_eq' {x y : Int32} (q : x = y) (h : ¬ y = 0) : ¬ x = 0 := q ▸ h
theorem cap_le {i j : Int32} {b : Nat} (h : i ≤ j) (k : j.toInt < cap b) : i.toInt < cap b := Int.lt_of_le_of_lt (Int32.le_iff_toInt_le.mp h) k
theorem cap_ge {i : Int32} {l h : Int} {b : Nat} (k : 100 ≤ cap b) (p : rg i l h) (c : h < 100) : i.toInt < cap b := Int.lt_of_le_of_lt p.2 (Int.lt_of_lt_of_le c k)
theorem cap_mn {L : List Nat} {b : Nat} (m : b ∈ L) (e : L.all (fun b => decide (100 ≤ cap b)) = true) : 100 ≤ cap b := of_decide_eq_true (List.all_eq_true.mp e b m)
theorem okCS {T : Tb} {M : List Nat} {a b : Nat} (m : b ∈ M) (g : ∀ k, M.all (fun a => !(T.2.1 a k) && !(T.2.2.2 a k) && (T.1 a k).isNone) = true) : okC T a b := fun i j => by
  have q := List.all_eq_true.mp (g j) b m
  simp only [Bool.and_eq_true, Bool.not_eq_true', Option.isNone_iff_eq_none] at q
  refine ⟨⟨q.1.1, q.1.2⟩, fun l h e => ?_⟩
  rw [q.2] at e
  cases e
def ph (b : Nat) : Int := if cap b = 102 then 2 else 0
def capok (T : Tb) : Prop := ptL.all (fun b => decide (T.1 b 9 = some (0, cap b - ph b)) && decide (T.1 b 11 = some (ph b, ph b))) = true
theorem cap_of {T : Tb} {G V : sv_V} {i : Int32} {b : Nat} (k : capok T) (m : b ∈ ptL) (S : SIx T G V) (h : i < V.1 b 9 + V.1 b 11) : i.toInt < cap b := by
  have q := List.all_eq_true.mp k b m
  simp only [Bool.and_eq_true, decide_eq_true_eq] at q
  have p1 := S.1 b 9 _ _ q.1
  have p2 := S.1 b 11 _ _ q.2
  have c1 : 0 ≤ ph b ∧ ph b ≤ 2 ∧ cap b ≤ 102 := by
    have t : ptL.all (fun b => decide (0 ≤ ph b) && decide (ph b ≤ 2) && decide (cap b ≤ 102)) = true := by decide
    have u := List.all_eq_true.mp t b m
    simp only [Bool.and_eq_true, decide_eq_true_eq] at u
    exact ⟨u.1.1, u.1.2, u.2⟩
  have e := Int32.lt_iff_toInt_lt.mp h
  unfold rg at p1 p2
  rw [Int32.toInt_add, bm32 (by omega) (by omega)] at e
  omega
theorem cap_of9 {T : Tb} {G V : sv_V} {i : Int32} {b : Nat} (k : capok T) (m : b ∈ ptL) (S : SIx T G V) (h : i < V.1 b 9) : i.toInt < cap b := by
  have q := List.all_eq_true.mp k b m
  simp only [Bool.and_eq_true, decide_eq_true_eq] at q
  have p1 := S.1 b 9 _ _ q.1
  have c1 : 0 ≤ ph b := by
    have t : ptL.all (fun b => decide (0 ≤ ph b)) = true := by decide
    exact of_decide_eq_true (List.all_eq_true.mp t b m)
  have e := Int32.lt_iff_toInt_lt.mp h
  unfold rg at p1
  omega
/-! counters -/
theorem cnt_u0 {x y : Int32} {l h c : Int} (q : y = x + 1) (p : rg x l h) (a : h ≤ 2147483646) (k : c ≤ x.toInt) : c < y.toInt := by
  subst q
  have := p.1
  have := p.2
  have := x.le_toInt
  rw [Int32.toInt_add, show (1 : Int32).toInt = 1 from rfl, bm32 (by omega) (by omega)]
  omega
theorem cnt_u1 {x y : Int32} {l h c : Int} (q : y = x + 1) (p : rg x l h) (a : h ≤ 2147483646) (k : c < x.toInt) : c < y.toInt := cnt_u0 q p a (Int.le_of_lt k)
theorem cnt_wu {x : Int32} {c : Int} (k : c < x.toInt) : c ≤ x.toInt := Int.le_of_lt k
theorem lp1_up {A0 : Type} {Q : Type} {P : Q → Prop} {f : (A0 → Option Q) → A0 → Option Q} {I : A0 → Prop} (cnt : A0 → Int) (lo hi : Int) (hI : ∀ a0, I a0 → lo ≤ cnt a0 ∧ cnt a0 ≤ hi) (hb : ∀ k a0, I a0 → (∀ b0, I b0 → cnt a0 < cnt b0 → Sg P (k b0)) → Sg P (f k a0)) (N : Nat) (hf : hi - lo < N) (a0 : A0) (h0 : I a0) : Sg P (sx_lp1 f N a0) := by
  have key : ∀ (n : Nat) a0, I a0 → hi - cnt a0 < n → Sg P (sx_lp1 f n a0) := by
    intro n
    induction n with
    | zero =>
      intro a0 h1 h2
      have := hI a0 h1
      omega
    | succ n ih =>
      intro a0 h1 h2
      show Sg P (f (sx_lp1 f n) a0)
      exact hb _ a0 h1 (fun b0 h3 h4 => ih b0 h3 (by omega))
  have := hI a0 h0
  exact key N a0 h0 (by omega)
theorem lp2_up {A0 : Type} {A1 : Type} {Q : Type} {P : Q → Prop} {f : (A0 → A1 → Option Q) → A0 → A1 → Option Q} {I : A0 → A1 → Prop} (cnt : A0 → A1 → Int) (lo hi : Int) (hI : ∀ a0 a1, I a0 a1 → lo ≤ cnt a0 a1 ∧ cnt a0 a1 ≤ hi) (hb : ∀ k a0 a1, I a0 a1 → (∀ b0 b1, I b0 b1 → cnt a0 a1 < cnt b0 b1 → Sg P (k b0 b1)) → Sg P (f k a0 a1)) (N : Nat) (hf : hi - lo < N) (a0 : A0) (a1 : A1) (h0 : I a0 a1) : Sg P (sx_lp2 f N a0 a1) := by
  have key : ∀ (n : Nat) a0 a1, I a0 a1 → hi - cnt a0 a1 < n → Sg P (sx_lp2 f n a0 a1) := by
    intro n
    induction n with
    | zero =>
      intro a0 a1 h1 h2
      have := hI a0 a1 h1
      omega
    | succ n ih =>
      intro a0 a1 h1 h2
      show Sg P (f (sx_lp2 f n) a0 a1)
      exact hb _ a0 a1 h1 (fun b0 b1 h3 h4 => ih b0 b1 h3 (by omega))
  have := hI a0 a1 h0
  exact key N a0 a1 h0 (by omega)
theorem lp3_up {A0 : Type} {A1 : Type} {A2 : Type} {Q : Type} {P : Q → Prop} {f : (A0 → A1 → A2 → Option Q) → A0 → A1 → A2 → Option Q} {I : A0 → A1 → A2 → Prop} (cnt : A0 → A1 → A2 → Int) (lo hi : Int) (hI : ∀ a0 a1 a2, I a0 a1 a2 → lo ≤ cnt a0 a1 a2 ∧ cnt a0 a1 a2 ≤ hi) (hb : ∀ k a0 a1 a2, I a0 a1 a2 → (∀ b0 b1 b2, I b0 b1 b2 → cnt a0 a1 a2 < cnt b0 b1 b2 → Sg P (k b0 b1 b2)) → Sg P (f k a0 a1 a2)) (N : Nat) (hf : hi - lo < N) (a0 : A0) (a1 : A1) (a2 : A2) (h0 : I a0 a1 a2) : Sg P (sx_lp3 f N a0 a1 a2) := by
  have key : ∀ (n : Nat) a0 a1 a2, I a0 a1 a2 → hi - cnt a0 a1 a2 < n → Sg P (sx_lp3 f n a0 a1 a2) := by
    intro n
    induction n with
    | zero =>
      intro a0 a1 a2 h1 h2
      have := hI a0 a1 a2 h1
      omega
    | succ n ih =>
      intro a0 a1 a2 h1 h2
      show Sg P (f (sx_lp3 f n) a0 a1 a2)
      exact hb _ a0 a1 a2 h1 (fun b0 b1 b2 h3 h4 => ih b0 b1 b2 h3 (by omega))
  have := hI a0 a1 a2 h0
  exact key N a0 a1 a2 h0 (by omega)
theorem lp4_up {A0 : Type} {A1 : Type} {A2 : Type} {A3 : Type} {Q : Type} {P : Q → Prop} {f : (A0 → A1 → A2 → A3 → Option Q) → A0 → A1 → A2 → A3 → Option Q} {I : A0 → A1 → A2 → A3 → Prop} (cnt : A0 → A1 → A2 → A3 → Int) (lo hi : Int) (hI : ∀ a0 a1 a2 a3, I a0 a1 a2 a3 → lo ≤ cnt a0 a1 a2 a3 ∧ cnt a0 a1 a2 a3 ≤ hi) (hb : ∀ k a0 a1 a2 a3, I a0 a1 a2 a3 → (∀ b0 b1 b2 b3, I b0 b1 b2 b3 → cnt a0 a1 a2 a3 < cnt b0 b1 b2 b3 → Sg P (k b0 b1 b2 b3)) → Sg P (f k a0 a1 a2 a3)) (N : Nat) (hf : hi - lo < N) (a0 : A0) (a1 : A1) (a2 : A2) (a3 : A3) (h0 : I a0 a1 a2 a3) : Sg P (sx_lp4 f N a0 a1 a2 a3) := by
  have key : ∀ (n : Nat) a0 a1 a2 a3, I a0 a1 a2 a3 → hi - cnt a0 a1 a2 a3 < n → Sg P (sx_lp4 f n a0 a1 a2 a3) := by
    intro n
    induction n with
    | zero =>
      intro a0 a1 a2 a3 h1 h2
      have := hI a0 a1 a2 a3 h1
      omega
    | succ n ih =>
      intro a0 a1 a2 a3 h1 h2
      show Sg P (f (sx_lp4 f n) a0 a1 a2 a3)
      exact hb _ a0 a1 a2 a3 h1 (fun b0 b1 b2 b3 h3 h4 => ih b0 b1 b2 b3 h3 (by omega))
  have := hI a0 a1 a2 a3 h0
  exact key N a0 a1 a2 a3 h0 (by omega)
theorem lp5_up {A0 : Type} {A1 : Type} {A2 : Type} {A3 : Type} {A4 : Type} {Q : Type} {P : Q → Prop} {f : (A0 → A1 → A2 → A3 → A4 → Option Q) → A0 → A1 → A2 → A3 → A4 → Option Q} {I : A0 → A1 → A2 → A3 → A4 → Prop} (cnt : A0 → A1 → A2 → A3 → A4 → Int) (lo hi : Int) (hI : ∀ a0 a1 a2 a3 a4, I a0 a1 a2 a3 a4 → lo ≤ cnt a0 a1 a2 a3 a4 ∧ cnt a0 a1 a2 a3 a4 ≤ hi) (hb : ∀ k a0 a1 a2 a3 a4, I a0 a1 a2 a3 a4 → (∀ b0 b1 b2 b3 b4, I b0 b1 b2 b3 b4 → cnt a0 a1 a2 a3 a4 < cnt b0 b1 b2 b3 b4 → Sg P (k b0 b1 b2 b3 b4)) → Sg P (f k a0 a1 a2 a3 a4)) (N : Nat) (hf : hi - lo < N) (a0 : A0) (a1 : A1) (a2 : A2) (a3 : A3) (a4 : A4) (h0 : I a0 a1 a2 a3 a4) : Sg P (sx_lp5 f N a0 a1 a2 a3 a4) := by
  have key : ∀ (n : Nat) a0 a1 a2 a3 a4, I a0 a1 a2 a3 a4 → hi - cnt a0 a1 a2 a3 a4 < n → Sg P (sx_lp5 f n a0 a1 a2 a3 a4) := by
    intro n
    induction n with
    | zero =>
      intro a0 a1 a2 a3 a4 h1 h2
      have := hI a0 a1 a2 a3 a4 h1
      omega
    | succ n ih =>
      intro a0 a1 a2 a3 a4 h1 h2
      show Sg P (f (sx_lp5 f n) a0 a1 a2 a3 a4)
      exact hb _ a0 a1 a2 a3 a4 h1 (fun b0 b1 b2 b3 b4 h3 h4 => ih b0 b1 b2 b3 b4 h3 (by omega))
  have := hI a0 a1 a2 a3 a4 h0
  exact key N a0 a1 a2 a3 a4 h0 (by omega)
theorem lp6_up {A0 : Type} {A1 : Type} {A2 : Type} {A3 : Type} {A4 : Type} {A5 : Type} {Q : Type} {P : Q → Prop} {f : (A0 → A1 → A2 → A3 → A4 → A5 → Option Q) → A0 → A1 → A2 → A3 → A4 → A5 → Option Q} {I : A0 → A1 → A2 → A3 → A4 → A5 → Prop} (cnt : A0 → A1 → A2 → A3 → A4 → A5 → Int) (lo hi : Int) (hI : ∀ a0 a1 a2 a3 a4 a5, I a0 a1 a2 a3 a4 a5 → lo ≤ cnt a0 a1 a2 a3 a4 a5 ∧ cnt a0 a1 a2 a3 a4 a5 ≤ hi) (hb : ∀ k a0 a1 a2 a3 a4 a5, I a0 a1 a2 a3 a4 a5 → (∀ b0 b1 b2 b3 b4 b5, I b0 b1 b2 b3 b4 b5 → cnt a0 a1 a2 a3 a4 a5 < cnt b0 b1 b2 b3 b4 b5 → Sg P (k b0 b1 b2 b3 b4 b5)) → Sg P (f k a0 a1 a2 a3 a4 a5)) (N : Nat) (hf : hi - lo < N) (a0 : A0) (a1 : A1) (a2 : A2) (a3 : A3) (a4 : A4) (a5 : A5) (h0 : I a0 a1 a2 a3 a4 a5) : Sg P (sx_lp6 f N a0 a1 a2 a3 a4 a5) := by
  have key : ∀ (n : Nat) a0 a1 a2 a3 a4 a5, I a0 a1 a2 a3 a4 a5 → hi - cnt a0 a1 a2 a3 a4 a5 < n → Sg P (sx_lp6 f n a0 a1 a2 a3 a4 a5) := by
    intro n
    induction n with
    | zero =>
      intro a0 a1 a2 a3 a4 a5 h1 h2
      have := hI a0 a1 a2 a3 a4 a5 h1
      omega
    | succ n ih =>
      intro a0 a1 a2 a3 a4 a5 h1 h2
      show Sg P (f (sx_lp6 f n) a0 a1 a2 a3 a4 a5)
      exact hb _ a0 a1 a2 a3 a4 a5 h1 (fun b0 b1 b2 b3 b4 b5 h3 h4 => ih b0 b1 b2 b3 b4 b5 h3 (by omega))
  have := hI a0 a1 a2 a3 a4 a5 h0
  exact key N a0 a1 a2 a3 a4 a5 h0 (by omega)
theorem lp7_up {A0 : Type} {A1 : Type} {A2 : Type} {A3 : Type} {A4 : Type} {A5 : Type} {A6 : Type} {Q : Type} {P : Q → Prop} {f : (A0 → A1 → A2 → A3 → A4 → A5 → A6 → Option Q) → A0 → A1 → A2 → A3 → A4 → A5 → A6 → Option Q} {I : A0 → A1 → A2 → A3 → A4 → A5 → A6 → Prop} (cnt : A0 → A1 → A2 → A3 → A4 → A5 → A6 → Int) (lo hi : Int) (hI : ∀ a0 a1 a2 a3 a4 a5 a6, I a0 a1 a2 a3 a4 a5 a6 → lo ≤ cnt a0 a1 a2 a3 a4 a5 a6 ∧ cnt a0 a1 a2 a3 a4 a5 a6 ≤ hi) (hb : ∀ k a0 a1 a2 a3 a4 a5 a6, I a0 a1 a2 a3 a4 a5 a6 → (∀ b0 b1 b2 b3 b4 b5 b6, I b0 b1 b2 b3 b4 b5 b6 → cnt a0 a1 a2 a3 a4 a5 a6 < cnt b0 b1 b2 b3 b4 b5 b6 → Sg P (k b0 b1 b2 b3 b4 b5 b6)) → Sg P (f k a0 a1 a2 a3 a4 a5 a6)) (N : Nat) (hf : hi - lo < N) (a0 : A0) (a1 : A1) (a2 : A2) (a3 : A3) (a4 : A4) (a5 : A5) (a6 : A6) (h0 : I a0 a1 a2 a3 a4 a5 a6) : Sg P (sx_lp7 f N a0 a1 a2 a3 a4 a5 a6) := by
  have key : ∀ (n : Nat) a0 a1 a2 a3 a4 a5 a6, I a0 a1 a2 a3 a4 a5 a6 → hi - cnt a0 a1 a2 a3 a4 a5 a6 < n → Sg P (sx_lp7 f n a0 a1 a2 a3 a4 a5 a6) := by
    intro n
    induction n with
    | zero =>
      intro a0 a1 a2 a3 a4 a5 a6 h1 h2
      have := hI a0 a1 a2 a3 a4 a5 a6 h1
      omega
    | succ n ih =>
      intro a0 a1 a2 a3 a4 a5 a6 h1 h2
      show Sg P (f (sx_lp7 f n) a0 a1 a2 a3 a4 a5 a6)
      exact hb _ a0 a1 a2 a3 a4 a5 a6 h1 (fun b0 b1 b2 b3 b4 b5 b6 h3 h4 => ih b0 b1 b2 b3 b4 b5 b6 h3 (by omega))
  have := hI a0 a1 a2 a3 a4 a5 a6 h0
  exact key N a0 a1 a2 a3 a4 a5 a6 h0 (by omega)
theorem lp8_up {A0 : Type} {A1 : Type} {A2 : Type} {A3 : Type} {A4 : Type} {A5 : Type} {A6 : Type} {A7 : Type} {Q : Type} {P : Q → Prop} {f : (A0 → A1 → A2 → A3 → A4 → A5 → A6 → A7 → Option Q) → A0 → A1 → A2 → A3 → A4 → A5 → A6 → A7 → Option Q} {I : A0 → A1 → A2 → A3 → A4 → A5 → A6 → A7 → Prop} (cnt : A0 → A1 → A2 → A3 → A4 → A5 → A6 → A7 → Int) (lo hi : Int) (hI : ∀ a0 a1 a2 a3 a4 a5 a6 a7, I a0 a1 a2 a3 a4 a5 a6 a7 → lo ≤ cnt a0 a1 a2 a3 a4 a5 a6 a7 ∧ cnt a0 a1 a2 a3 a4 a5 a6 a7 ≤ hi) (hb : ∀ k a0 a1 a2 a3 a4 a5 a6 a7, I a0 a1 a2 a3 a4 a5 a6 a7 → (∀ b0 b1 b2 b3 b4 b5 b6 b7, I b0 b1 b2 b3 b4 b5 b6 b7 → cnt a0 a1 a2 a3 a4 a5 a6 a7 < cnt b0 b1 b2 b3 b4 b5 b6 b7 → Sg P (k b0 b1 b2 b3 b4 b5 b6 b7)) → Sg P (f k a0 a1 a2 a3 a4 a5 a6 a7)) (N : Nat) (hf : hi - lo < N) (a0 : A0) (a1 : A1) (a2 : A2) (a3 : A3) (a4 : A4) (a5 : A5) (a6 : A6) (a7 : A7) (h0 : I a0 a1 a2 a3 a4 a5 a6 a7) : Sg P (sx_lp8 f N a0 a1 a2 a3 a4 a5 a6 a7) := by
  have key : ∀ (n : Nat) a0 a1 a2 a3 a4 a5 a6 a7, I a0 a1 a2 a3 a4 a5 a6 a7 → hi - cnt a0 a1 a2 a3 a4 a5 a6 a7 < n → Sg P (sx_lp8 f n a0 a1 a2 a3 a4 a5 a6 a7) := by
    intro n
    induction n with
    | zero =>
      intro a0 a1 a2 a3 a4 a5 a6 a7 h1 h2
      have := hI a0 a1 a2 a3 a4 a5 a6 a7 h1
      omega
    | succ n ih =>
      intro a0 a1 a2 a3 a4 a5 a6 a7 h1 h2
      show Sg P (f (sx_lp8 f n) a0 a1 a2 a3 a4 a5 a6 a7)
      exact hb _ a0 a1 a2 a3 a4 a5 a6 a7 h1 (fun b0 b1 b2 b3 b4 b5 b6 b7 h3 h4 => ih b0 b1 b2 b3 b4 b5 b6 b7 h3 (by omega))
  have := hI a0 a1 a2 a3 a4 a5 a6 a7 h0
  exact key N a0 a1 a2 a3 a4 a5 a6 a7 h0 (by omega)
theorem lp9_up {A0 : Type} {A1 : Type} {A2 : Type} {A3 : Type} {A4 : Type} {A5 : Type} {A6 : Type} {A7 : Type} {A8 : Type} {Q : Type} {P : Q → Prop} {f : (A0 → A1 → A2 → A3 → A4 → A5 → A6 → A7 → A8 → Option Q) → A0 → A1 → A2 → A3 → A4 → A5 → A6 → A7 → A8 → Option Q} {I : A0 → A1 → A2 → A3 → A4 → A5 → A6 → A7 → A8 → Prop} (cnt : A0 → A1 → A2 → A3 → A4 → A5 → A6 → A7 → A8 → Int) (lo hi : Int) (hI : ∀ a0 a1 a2 a3 a4 a5 a6 a7 a8, I a0 a1 a2 a3 a4 a5 a6 a7 a8 → lo ≤ cnt a0 a1 a2 a3 a4 a5 a6 a7 a8 ∧ cnt a0 a1 a2 a3 a4 a5 a6 a7 a8 ≤ hi) (hb : ∀ k a0 a1 a2 a3 a4 a5 a6 a7 a8, I a0 a1 a2 a3 a4 a5 a6 a7 a8 → (∀ b0 b1 b2 b3 b4 b5 b6 b7 b8, I b0 b1 b2 b3 b4 b5 b6 b7 b8 → cnt a0 a1 a2 a3 a4 a5 a6 a7 a8 < cnt b0 b1 b2 b3 b4 b5 b6 b7 b8 → Sg P (k b0 b1 b2 b3 b4 b5 b6 b7 b8)) → Sg P (f k a0 a1 a2 a3 a4 a5 a6 a7 a8)) (N : Nat) (hf : hi - lo < N) (a0 : A0) (a1 : A1) (a2 : A2) (a3 : A3) (a4 : A4) (a5 : A5) (a6 : A6) (a7 : A7) (a8 : A8) (h0 : I a0 a1 a2 a3 a4 a5 a6 a7 a8) : Sg P (sx_lp9 f N a0 a1 a2 a3 a4 a5 a6 a7 a8) := by
  have key : ∀ (n : Nat) a0 a1 a2 a3 a4 a5 a6 a7 a8, I a0 a1 a2 a3 a4 a5 a6 a7 a8 → hi - cnt a0 a1 a2 a3 a4 a5 a6 a7 a8 < n → Sg P (sx_lp9 f n a0 a1 a2 a3 a4 a5 a6 a7 a8) := by
    intro n
    induction n with
    | zero =>
      intro a0 a1 a2 a3 a4 a5 a6 a7 a8 h1 h2
      have := hI a0 a1 a2 a3 a4 a5 a6 a7 a8 h1
      omega
    | succ n ih =>
      intro a0 a1 a2 a3 a4 a5 a6 a7 a8 h1 h2
      show Sg P (f (sx_lp9 f n) a0 a1 a2 a3 a4 a5 a6 a7 a8)
      exact hb _ a0 a1 a2 a3 a4 a5 a6 a7 a8 h1 (fun b0 b1 b2 b3 b4 b5 b6 b7 b8 h3 h4 => ih b0 b1 b2 b3 b4 b5 b6 b7 b8 h3 (by omega))
  have := hI a0 a1 a2 a3 a4 a5 a6 a7 a8 h0
  exact key N a0 a1 a2 a3 a4 a5 a6 a7 a8 h0 (by omega)
theorem lp10_up {A0 : Type} {A1 : Type} {A2 : Type} {A3 : Type} {A4 : Type} {A5 : Type} {A6 : Type} {A7 : Type} {A8 : Type} {A9 : Type} {Q : Type} {P : Q → Prop} {f : (A0 → A1 → A2 → A3 → A4 → A5 → A6 → A7 → A8 → A9 → Option Q) → A0 → A1 → A2 → A3 → A4 → A5 → A6 → A7 → A8 → A9 → Option Q} {I : A0 → A1 → A2 → A3 → A4 → A5 → A6 → A7 → A8 → A9 → Prop} (cnt : A0 → A1 → A2 → A3 → A4 → A5 → A6 → A7 → A8 → A9 → Int) (lo hi : Int) (hI : ∀ a0 a1 a2 a3 a4 a5 a6 a7 a8 a9, I a0 a1 a2 a3 a4 a5 a6 a7 a8 a9 → lo ≤ cnt a0 a1 a2 a3 a4 a5 a6 a7 a8 a9 ∧ cnt a0 a1 a2 a3 a4 a5 a6 a7 a8 a9 ≤ hi) (hb : ∀ k a0 a1 a2 a3 a4 a5 a6 a7 a8 a9, I a0 a1 a2 a3 a4 a5 a6 a7 a8 a9 → (∀ b0 b1 b2 b3 b4 b5 b6 b7 b8 b9, I b0 b1 b2 b3 b4 b5 b6 b7 b8 b9 → cnt a0 a1 a2 a3 a4 a5 a6 a7 a8 a9 < cnt b0 b1 b2 b3 b4 b5 b6 b7 b8 b9 → Sg P (k b0 b1 b2 b3 b4 b5 b6 b7 b8 b9)) → Sg P (f k a0 a1 a2 a3 a4 a5 a6 a7 a8 a9)) (N : Nat) (hf : hi - lo < N) (a0 : A0) (a1 : A1) (a2 : A2) (a3 : A3) (a4 : A4) (a5 : A5) (a6 : A6) (a7 : A7) (a8 : A8) (a9 : A9) (h0 : I a0 a1 a2 a3 a4 a5 a6 a7 a8 a9) : Sg P (sx_lp10 f N a0 a1 a2 a3 a4 a5 a6 a7 a8 a9) := by
  have key : ∀ (n : Nat) a0 a1 a2 a3 a4 a5 a6 a7 a8 a9, I a0 a1 a2 a3 a4 a5 a6 a7 a8 a9 → hi - cnt a0 a1 a2 a3 a4 a5 a6 a7 a8 a9 < n → Sg P (sx_lp10 f n a0 a1 a2 a3 a4 a5 a6 a7 a8 a9) := by
    intro n
    induction n with
    | zero =>
      intro a0 a1 a2 a3 a4 a5 a6 a7 a8 a9 h1 h2
      have := hI a0 a1 a2 a3 a4 a5 a6 a7 a8 a9 h1
      omega
    | succ n ih =>
      intro a0 a1 a2 a3 a4 a5 a6 a7 a8 a9 h1 h2
      show Sg P (f (sx_lp10 f n) a0 a1 a2 a3 a4 a5 a6 a7 a8 a9)
      exact hb _ a0 a1 a2 a3 a4 a5 a6 a7 a8 a9 h1 (fun b0 b1 b2 b3 b4 b5 b6 b7 b8 b9 h3 h4 => ih b0 b1 b2 b3 b4 b5 b6 b7 b8 b9 h3 (by omega))
  have := hI a0 a1 a2 a3 a4 a5 a6 a7 a8 a9 h0
  exact key N a0 a1 a2 a3 a4 a5 a6 a7 a8 a9 h0 (by omega)
theorem lp11_up {A0 : Type} {A1 : Type} {A2 : Type} {A3 : Type} {A4 : Type} {A5 : Type} {A6 : Type} {A7 : Type} {A8 : Type} {A9 : Type} {A10 : Type} {Q : Type} {P : Q → Prop} {f : (A0 → A1 → A2 → A3 → A4 → A5 → A6 → A7 → A8 → A9 → A10 → Option Q) → A0 → A1 → A2 → A3 → A4 → A5 → A6 → A7 → A8 → A9 → A10 → Option Q} {I : A0 → A1 → A2 → A3 → A4 → A5 → A6 → A7 → A8 → A9 → A10 → Prop} (cnt : A0 → A1 → A2 → A3 → A4 → A5 → A6 → A7 → A8 → A9 → A10 → Int) (lo hi : Int) (hI : ∀ a0 a1 a2 a3 a4 a5 a6 a7 a8 a9 a10, I a0 a1 a2 a3 a4 a5 a6 a7 a8 a9 a10 → lo ≤ cnt a0 a1 a2 a3 a4 a5 a6 a7 a8 a9 a10 ∧ cnt a0 a1 a2 a3 a4 a5 a6 a7 a8 a9 a10 ≤ hi) (hb : ∀ k a0 a1 a2 a3 a4 a5 a6 a7 a8 a9 a10, I a0 a1 a2 a3 a4 a5 a6 a7 a8 a9 a10 → (∀ b0 b1 b2 b3 b4 b5 b6 b7 b8 b9 b10, I b0 b1 b2 b3 b4 b5 b6 b7 b8 b9 b10 → cnt a0 a1 a2 a3 a4 a5 a6 a7 a8 a9 a10 < cnt b0 b1 b2 b3 b4 b5 b6 b7 b8 b9 b10 → Sg P (k b0 b1 b2 b3 b4 b5 b6 b7 b8 b9 b10)) → Sg P (f k a0 a1 a2 a3 a4 a5 a6 a7 a8 a9 a10)) (N : Nat) (hf : hi - lo < N) (a0 : A0) (a1 : A1) (a2 : A2) (a3 : A3) (a4 : A4) (a5 : A5) (a6 : A6) (a7 : A7) (a8 : A8) (a9 : A9) (a10 : A10) (h0 : I a0 a1 a2 a3 a4 a5 a6 a7 a8 a9 a10) : Sg P (sx_lp11 f N a0 a1 a2 a3 a4 a5 a6 a7 a8 a9 a10) := by
  have key : ∀ (n : Nat) a0 a1 a2 a3 a4 a5 a6 a7 a8 a9 a10, I a0 a1 a2 a3 a4 a5 a6 a7 a8 a9 a10 → hi - cnt a0 a1 a2 a3 a4 a5 a6 a7 a8 a9 a10 < n → Sg P (sx_lp11 f n a0 a1 a2 a3 a4 a5 a6 a7 a8 a9 a10) := by
    intro n
    induction n with
    | zero =>
      intro a0 a1 a2 a3 a4 a5 a6 a7 a8 a9 a10 h1 h2
      have := hI a0 a1 a2 a3 a4 a5 a6 a7 a8 a9 a10 h1
      omega
    | succ n ih =>
      intro a0 a1 a2 a3 a4 a5 a6 a7 a8 a9 a10 h1 h2
      show Sg P (f (sx_lp11 f n) a0 a1 a2 a3 a4 a5 a6 a7 a8 a9 a10)
      exact hb _ a0 a1 a2 a3 a4 a5 a6 a7 a8 a9 a10 h1 (fun b0 b1 b2 b3 b4 b5 b6 b7 b8 b9 b10 h3 h4 => ih b0 b1 b2 b3 b4 b5 b6 b7 b8 b9 b10 h3 (by omega))
  have := hI a0 a1 a2 a3 a4 a5 a6 a7 a8 a9 a10 h0
  exact key N a0 a1 a2 a3 a4 a5 a6 a7 a8 a9 a10 h0 (by omega)
theorem lp12_up {A0 : Type} {A1 : Type} {A2 : Type} {A3 : Type} {A4 : Type} {A5 : Type} {A6 : Type} {A7 : Type} {A8 : Type} {A9 : Type} {A10 : Type} {A11 : Type} {Q : Type} {P : Q → Prop} {f : (A0 → A1 → A2 → A3 → A4 → A5 → A6 → A7 → A8 → A9 → A10 → A11 → Option Q) → A0 → A1 → A2 → A3 → A4 → A5 → A6 → A7 → A8 → A9 → A10 → A11 → Option Q} {I : A0 → A1 → A2 → A3 → A4 → A5 → A6 → A7 → A8 → A9 → A10 → A11 → Prop} (cnt : A0 → A1 → A2 → A3 → A4 → A5 → A6 → A7 → A8 → A9 → A10 → A11 → Int) (lo hi : Int) (hI : ∀ a0 a1 a2 a3 a4 a5 a6 a7 a8 a9 a10 a11, I a0 a1 a2 a3 a4 a5 a6 a7 a8 a9 a10 a11 → lo ≤ cnt a0 a1 a2 a3 a4 a5 a6 a7 a8 a9 a10 a11 ∧ cnt a0 a1 a2 a3 a4 a5 a6 a7 a8 a9 a10 a11 ≤ hi) (hb : ∀ k a0 a1 a2 a3 a4 a5 a6 a7 a8 a9 a10 a11, I a0 a1 a2 a3 a4 a5 a6 a7 a8 a9 a10 a11 → (∀ b0 b1 b2 b3 b4 b5 b6 b7 b8 b9 b10 b11, I b0 b1 b2 b3 b4 b5 b6 b7 b8 b9 b10 b11 → cnt a0 a1 a2 a3 a4 a5 a6 a7 a8 a9 a10 a11 < cnt b0 b1 b2 b3 b4 b5 b6 b7 b8 b9 b10 b11 → Sg P (k b0 b1 b2 b3 b4 b5 b6 b7 b8 b9 b10 b11)) → Sg P (f k a0 a1 a2 a3 a4 a5 a6 a7 a8 a9 a10 a11)) (N : Nat) (hf : hi - lo < N) (a0 : A0) (a1 : A1) (a2 : A2) (a3 : A3) (a4 : A4) (a5 : A5) (a6 : A6) (a7 : A7) (a8 : A8) (a9 : A9) (a10 : A10) (a11 : A11) (h0 : I a0 a1 a2 a3 a4 a5 a6 a7 a8 a9 a10 a11) : Sg P (sx_lp12 f N a0 a1 a2 a3 a4 a5 a6 a7 a8 a9 a10 a11) := by
  have key : ∀ (n : Nat) a0 a1 a2 a3 a4 a5 a6 a7 a8 a9 a10 a11, I a0 a1 a2 a3 a4 a5 a6 a7 a8 a9 a10 a11 → hi - cnt a0 a1 a2 a3 a4 a5 a6 a7 a8 a9 a10 a11 < n → Sg P (sx_lp12 f n a0 a1 a2 a3 a4 a5 a6 a7 a8 a9 a10 a11) := by
    intro n
    induction n with
    | zero =>
      intro a0 a1 a2 a3 a4 a5 a6 a7 a8 a9 a10 a11 h1 h2
      have := hI a0 a1 a2 a3 a4 a5 a6 a7 a8 a9 a10 a11 h1
      omega
    | succ n ih =>
      intro a0 a1 a2 a3 a4 a5 a6 a7 a8 a9 a10 a11 h1 h2
      show Sg P (f (sx_lp12 f n) a0 a1 a2 a3 a4 a5 a6 a7 a8 a9 a10 a11)
      exact hb _ a0 a1 a2 a3 a4 a5 a6 a7 a8 a9 a10 a11 h1 (fun b0 b1 b2 b3 b4 b5 b6 b7 b8 b9 b10 b11 h3 h4 => ih b0 b1 b2 b3 b4 b5 b6 b7 b8 b9 b10 b11 h3 (by omega))
  have := hI a0 a1 a2 a3 a4 a5 a6 a7 a8 a9 a10 a11 h0
  exact key N a0 a1 a2 a3 a4 a5 a6 a7 a8 a9 a10 a11 h0 (by omega)
theorem SIx.fill {T : Tb} {G V : sv_V} (S : SIx T G V) {a i n : Nat} {x : Int32} {l h : Int} (g : ∀ k, okI T a k l h) (r : rg x l h) : SIx T G (vfr V a i n x) := by
  refine ⟨fun b j l2 h2 e => ?_, fun b j e => ?_, S.2.2.1, S.2.2.2.1, S.2.2.2.2.2 V _ (fun b j e => ⟨?_, rfl⟩) S.2.2.2.2.1, S.2.2.2.2.2⟩
  rotate_left
  rotate_left
  · show (if b = a ∧ i ≤ j ∧ j < n then x else V.1 b j) = _
    rw [if_neg]
    rintro ⟨rfl, -⟩
    rw [(g j).1.2] at e
    cases e
  · show rg (if b = a ∧ i ≤ j ∧ j < n then x else V.1 b j) l2 h2
    by_cases q : b = a ∧ i ≤ j ∧ j < n
    · rw [if_pos q]
      obtain ⟨rfl, -⟩ := q
      have q := (g j).2
      rw [e] at q
      simp only [outR, Bool.and_eq_true, decide_eq_true_eq] at q
      exact rg_m r q.1 q.2
    · rw [if_neg q]
      exact S.1 b j l2 h2 e
  · refine ⟨?_, (S.2.1 b j e).2⟩
    show (if b = a ∧ i ≤ j ∧ j < n then x else V.1 b j) = _
    rw [if_neg]
    · exact (S.2.1 b j e).1
    · rintro ⟨rfl, -⟩
      rw [(g j).1.1] at e
      cases e
theorem s_fillI {T : Tb} {G V : sv_V} {N : Nat} (hN : 8589934592 ≤ N) (S : SIx T G V) {a n : Nat} {x : Int32} {l h : Int} (hl : sv_len 0 a = some n) (hn : n < 2 ^ 31) (g : ∀ k, okI T a k l h) (r : rg x l h) : Sg (SIx T G) (F_J7_fill_53178 N a x V) := ⟨_, fill_I hl hn (by omega), S.fill g r⟩
theorem s_fillB {T : Tb} {G V : sv_V} {N : Nat} (hN : 8589934592 ≤ N) (S : SIx T G V) {a n : Nat} {x : Int32} {l h : Int} (hl : sv_len 1 a = some n) (hn : n < 2 ^ 31) (g : ∀ k, okI T a k l h) (r : rg x l h) (c : x.toInt8.toInt32 = x) : Sg (SIx T G) (F_J7_fill_031fb N a x V) := ⟨_, fill_B hl hn (by omega), S.fill g (by rw [c]; exact r)⟩
theorem s_fillS {T : Tb} {G V : sv_V} {N : Nat} (hN : 8589934592 ≤ N) (S : SIx T G V) {L : List Nat} {a n : Nat} {x : Int32} {l h : Int} (m : a ∈ L) (hl : L.all (fun a => decide (sv_len 0 a = some n)) = true) (hn : n < 2 ^ 31) (g : ∀ k, L.all (fun a => !(T.2.1 a k) && !(T.2.2.2 a k) && outR (T.1 a k) l h) = true) (r : rg x l h) : Sg (SIx T G) (F_J7_fill_53178 N a x V) := s_fillI hN S (of_decide_eq_true (List.all_eq_true.mp hl a m)) hn (fun k => by
  have q := List.all_eq_true.mp (g k) a m
  simp only [Bool.and_eq_true, Bool.not_eq_true'] at q
  exact ⟨⟨q.1.1, q.1.2⟩, q.2⟩) r
end
section
/-! FRAMES AND CLAUSES over the invariant of ranges -/
section S2
variable {T : Tb} {G V V2 : sv_V} {md : List (Nat × Option Nat)}
theorem rd_fr (f : sv_eq md V V2) {a k : Nat} (e : sv_hit md a k = false) : V2.1 a k = V.1 a k := (f a k e).1
theorem rd_frS (f : sv_eq md V V2) {L : List Nat} {a k : Nat} (m : a ∈ L) (e : L.all (fun a => !(sv_hit md a k)) = true) : V2.1 a k = V.1 a k := (f a k (by have := List.all_eq_true.mp e a m; simpa using this)).1
theorem wr_fr (f : sv_eq md V V2) {a k : Nat} {l h : Int} (e : sv_hit md a k = false) (p : rg (V.1 a k) l h) : rg (V2.1 a k) l h := by
  rw [rd_fr f e]
  exact p
theorem wr_frS (f : sv_eq md V V2) {L : List Nat} {a k : Nat} {l h : Int} (m : a ∈ L) (e : L.all (fun a => !(sv_hit md a k)) = true) (p : rg (V.1 a k) l h) : rg (V2.1 a k) l h := by
  rw [rd_frS f m e]
  exact p
theorem sf_eI {B : Type} {P : B → Prop} {o : Option (Int32 × sv_V)} {f : Int32 × sv_V → Option B} {l h : Int} (H : Sg (QI T G l h) o) (K : ∀ x V, o = some (x, V) → SIx T G V → rg x l h → Sg P (f (x, V))) : Sg P (o.bind f) := by
  obtain ⟨⟨x, V⟩, rfl, S, r⟩ := H
  exact K x V rfl S r
theorem sf_eL {B : Type} {P : B → Prop} {o : Option (Int64 × sv_V)} {f : Int64 × sv_V → Option B} {l h : Int} (H : Sg (QL T G l h) o) (K : ∀ x V, o = some (x, V) → SIx T G V → rl x l h → Sg P (f (x, V))) : Sg P (o.bind f) := by
  obtain ⟨⟨x, V⟩, rfl, S, r⟩ := H
  exact K x V rfl S r
theorem sf_eV {B : Type} {P : B → Prop} {o : Option sv_V} {f : sv_V → Option B} (H : Sg (SIx T G) o) (K : ∀ V, o = some V → SIx T G V → Sg P (f V)) : Sg P (o.bind f) := by
  obtain ⟨V, rfl, S⟩ := H
  exact K V rfl S
theorem sf_eXI {B : Type} {P : B → Prop} {o : Option (Int32 × sv_V)} {f : Int32 × sv_V → Option B} {l h : Int} {p : sv_V → Prop} (H : Sg (QX (QI T G l h) p) o) (K : ∀ x V, o = some (x, V) → SIx T G V → rg x l h → p V → Sg P (f (x, V))) : Sg P (o.bind f) := by
  obtain ⟨⟨x, V⟩, rfl, ⟨S, r⟩, k⟩ := H
  exact K x V rfl S r k
theorem sf_eY {B : Type} {P : B → Prop} {o : Option sv_V} {f : sv_V → Option B} {p : sv_V → Prop} (H : Sg (QY (SIx T G) p) o) (K : ∀ V, o = some V → SIx T G V → p V → Sg P (f V)) : Sg P (o.bind f) := by
  obtain ⟨V, rfl, S, k⟩ := H
  exact K V rfl S k
/-- an answer of a function that leaves the memory as it was, with a relation -/
def QZ (V : sv_V) (l h : Int) (p : Int32 → Prop) (a : Int32 × sv_V) : Prop := (a.2 = V ∧ rg a.1 l h) ∧ p a.1
theorem sf_zI {x : Int32} {l h : Int} {p : Int32 → Prop} (r : rg x l h) (k : p x) : Sg (QZ V l h p) (some (x, V)) := ⟨_, rfl, ⟨rfl, r⟩, k⟩
theorem sf_yI {B : Type} {P : B → Prop} {o : Option (Int32 × sv_V)} {f : Int32 × sv_V → Option B} {l h : Int} {p : Int32 → Prop} (H : Sg (QZ V l h p) o) (K : ∀ x, rg x l h → p x → Sg P (f (x, V))) : Sg P (o.bind f) := by
  obtain ⟨⟨x, W⟩, rfl, ⟨e, r⟩, k⟩ := H
  cases e
  exact K x r k
/-- writes where the clause speaks -/
theorem SIx.wX (S : SIx T G V) {a k : Nat} {x : Int32} (g : T.2.1 a k = false) (r : ∀ l h, T.1 a k = some (l, h) → rg x l h) (hx : T.2.2.1 (sv_I V a k x)) : SIx T G (sv_I V a k x) := by
  refine ⟨fun b j l h e => ?_, fun b j e => ⟨?_, (S.2.1 b j e).2⟩, S.2.2.1, S.2.2.2.1, hx, S.2.2.2.2.2⟩
  · show rg (if b = a ∧ j = k then x else V.1 b j) l h
    by_cases q : b = a ∧ j = k
    · rw [if_pos q]
      obtain ⟨rfl, rfl⟩ := q
      exact r l h e
    · rw [if_neg q]
      exact S.1 b j l h e
  · show (if b = a ∧ j = k then x else V.1 b j) = _
    rw [if_neg]
    · exact (S.2.1 b j e).1
    · rintro ⟨rfl, rfl⟩
      rw [g] at e
      cases e
theorem SIx.wX2 (S : SIx T G V) {a k b j : Nat} {x y : Int32} (g : T.2.1 a k = false) (g2 : T.2.1 b j = false) (r : ∀ l h, T.1 a k = some (l, h) → rg x l h) (r2 : ∀ l h, T.1 b j = some (l, h) → rg y l h) (hx : T.2.2.1 (sv_I (sv_I V a k x) b j y)) : SIx T G (sv_I (sv_I V a k x) b j y) := by
  have S1 : SIx (T.1, T.2.1, (fun _ => True), fun _ _ => false) G V := ⟨S.1, S.2.1, S.2.2.1, S.2.2.2.1, trivial, fun _ _ _ _ => trivial⟩
  have S2 := (S1.wX (a := a) (k := k) (x := x) g r trivial).wX (a := b) (k := j) (x := y) g2 r2 trivial
  exact ⟨S2.1, S2.2.1, S2.2.2.1, S2.2.2.2.1, hx, S.2.2.2.2.2⟩
/-- the same ranges with other ghosts: the memory itself -/
theorem SIx.own (S : SIx T G V) (gh : Nat → Nat → Bool) : SIx (T.1, gh, T.2.2) V V := ⟨S.1, fun _ _ _ => ⟨rfl, rfl, rfl⟩, S.2.2.1, S.2.2.2.1, S.2.2.2.2.1, S.2.2.2.2.2⟩
theorem SIx.back {gh : Nat → Nat → Bool} (S : SIx T G V) (S2 : SIx (T.1, gh, T.2.2) V V2) (h : ∀ a k, T.2.1 a k = true → gh a k = true) : SIx T G V2 := ⟨S2.1, fun a k e => by
  obtain ⟨a1, a2, a3⟩ := S2.2.1 a k (h a k e)
  obtain ⟨b1, b2, b3⟩ := S.2.1 a k e
  exact ⟨a1.trans b1, a2.trans b2, a3.trans b3⟩, S2.2.2.1, S2.2.2.2.1, S2.2.2.2.2.1, S2.2.2.2.2.2⟩
end S2
/-- in every outline: the ends of its contours lie within its points -/
def ocl : List Nat := [93, 103, 113, 123, 133]
def X1 (V : sv_V) : Prop := ∀ b, b ∈ ocl → ∀ k : Nat, (k : Int) < (V.1 b 10).toInt → (V.1 (b + 1) k).toInt < (V.1 b 9).toInt
def xs1 (a k : Nat) : Bool := match a with
  | 93 => k == 9 || k == 10
  | 103 => k == 9 || k == 10
  | 113 => k == 9 || k == 10
  | 123 => k == 9 || k == 10
  | 133 => k == 9 || k == 10
  | 94 => true
  | 104 => true
  | 114 => true
  | 124 => true
  | 134 => true
  | _ => false
theorem xs1_b {b : Nat} (m : b ∈ ocl) : xs1 b 9 = true ∧ xs1 b 10 = true ∧ ∀ k, xs1 (b + 1) k = true := by
  simp only [ocl, List.mem_cons, List.not_mem_nil, or_false] at m
  rcases m with rfl | rfl | rfl | rfl | rfl <;> exact ⟨rfl, rfl, fun _ => rfl⟩
theorem X1_sup : Sup X1 xs1 := by
  intro V W h H b m k hk
  obtain ⟨h9, h10, he⟩ := xs1_b m
  rw [(h b 9 h9).1, (h (b + 1) k (he k)).1]
  rw [(h b 10 h10).1] at hk
  exact H b m k hk
theorem ocl_ne {b c : Nat} (m : b ∈ ocl) (n : c ∈ ocl) : b ≠ c + 1 := by
  simp only [ocl, List.mem_cons, List.not_mem_nil, or_false] at m n
  rcases m with rfl | rfl | rfl | rfl | rfl <;> rcases n with rfl | rfl | rfl | rfl | rfl <;> decide
theorem ocl_cr {b : Nat} (m : b ∈ ocl) : cr b 6 = some (b + 1) := by
  simp only [ocl, List.mem_cons, List.not_mem_nil, or_false] at m
  rcases m with rfl | rfl | rfl | rfl | rfl <;> decide
theorem X1_end {V : sv_V} (H : X1 V) {b j : Nat} {x : Int32} (m : b ∈ ocl) (h : (V.1 b 10).toInt ≤ (j : Int)) : X1 (sv_I V (b + 1) j x) := by
  intro c n k hk
  rw [vI_cell _ _ _ _ (ocl_ne n m)] at hk ⊢
  by_cases e : c = b
  · subst e
    rw [vI_place _ _ _ (show k ≠ j by omega)]
    exact H c n k hk
  · rw [vI_cell _ _ _ _ (show c + 1 ≠ b + 1 by omega)]
    exact H c n k hk
/-- count and contours of one outline are written anew -/
theorem X1_cc {V W : sv_V} (H : X1 V) {b : Nat} (m : b ∈ ocl) (h : ∀ a k, ¬ (a = b ∧ (k = 9 ∨ k = 10)) → W.1 a k = V.1 a k) (hn : ∀ k : Nat, (k : Int) < (W.1 b 10).toInt → (V.1 (b + 1) k).toInt < (W.1 b 9).toInt) : X1 W := by
  intro c n k hk
  by_cases e : c = b
  · subst e
    rw [h (c + 1) k (fun q => absurd q.1 (by omega))]
    exact hn k hk
  · rw [h c 9 (fun q => e q.1), h (c + 1) k (fun q => ocl_ne m n q.1.symm)]
    rw [h c 10 (fun q => e q.1)] at hk
    exact H c n k hk
theorem sv2_o {V : sv_V} {b i j : Nat} {x y : Int32} : ∀ a k, ¬ (a = b ∧ (k = i ∨ k = j)) → (sv_I (sv_I V b i x) b j y).1 a k = V.1 a k := by
  intro a k h
  show (if a = b ∧ k = j then y else if a = b ∧ k = i then x else V.1 a k) = _
  rw [if_neg (fun q => h ⟨q.1, Or.inr q.2⟩), if_neg (fun q => h ⟨q.1, Or.inl q.2⟩)]
theorem X1_begin {V : sv_V} (H : X1 V) {b : Nat} (m : b ∈ ocl) : X1 (sv_I (sv_I V b 9 0) b 10 0) := by
  refine X1_cc H m sv2_o (fun k hk => ?_)
  rw [vI_same] at hk
  have : (0 : Int32).toInt = 0 := rfl
  omega
theorem X1_910 {V : sv_V} (H : X1 V) {b : Nat} {x y : Int32} (m : b ∈ ocl) (hn : ∀ k : Nat, (k : Int) < y.toInt → (V.1 (b + 1) k).toInt < x.toInt) : X1 (sv_I (sv_I V b 9 x) b 10 y) := by
  refine X1_cc H m sv2_o (fun k hk => ?_)
  rw [vI_same] at hk
  rw [vI_place _ _ _ (show 9 ≠ 10 by decide), vI_same]
  exact hn k hk
theorem X1_109 {V : sv_V} (H : X1 V) {b : Nat} {x y : Int32} (m : b ∈ ocl) (hn : ∀ k : Nat, (k : Int) < y.toInt → (V.1 (b + 1) k).toInt < x.toInt) : X1 (sv_I (sv_I V b 10 y) b 9 x) := by
  refine X1_cc H m (fun a k h => sv2_o a k (fun q => h ⟨q.1, q.2.symm⟩)) (fun k hk => ?_)
  rw [vI_place _ _ _ (show 10 ≠ 9 by decide), vI_same] at hk
  rw [vI_same]
  exact hn k hk
/-- an array of the running outline -/
def OA (bo l : Nat) : Prop := ∃ j, j < 6 ∧ cr bo j = some l
theorem outl_pt {b : Nat} (m : b ∈ [82, 93, 103, 113, 123, 133]) : b ∈ ptL := by
  simp only [List.mem_cons, List.not_mem_nil, or_false] at m
  rcases m with rfl | rfl | rfl | rfl | rfl | rfl <;> decide
theorem oa_len {bo l n : Nat} (h : OA bo l) (m : bo ∈ [82, 93, 103, 113, 123, 133]) (q : sv_len 0 l = some n) : cap bo ≤ n := by
  obtain ⟨j, hj, e⟩ := h
  exact cap_len (outl_pt m) e q hj
theorem cr6_bo {b : Nat} (m : b ∈ [82, 93, 103, 113, 123, 133]) : cr b 6 = some (b + 1) := by
  simp only [List.mem_cons, List.not_mem_nil, or_false] at m
  rcases m with rfl | rfl | rfl | rfl | rfl | rfl <;> decide
theorem bo1_mem {b : Nat} (m : b ∈ [82, 93, 103, 113, 123, 133]) : b + 1 ∈ [83, 94, 104, 114, 124, 134] := by
  simp only [List.mem_cons, List.not_mem_nil, or_false] at m
  rcases m with rfl | rfl | rfl | rfl | rfl | rfl <;> decide
/-- a remainder by a number above 0: below it, and not below the number itself or 0 -/
theorem rg_remb {x y : Int32} {l h l2 h2 : Int} (p : rg x l h) (q : rg y l2 h2) (c : 0 < l2) : (x - x / y * y).toInt < y.toInt ∧ (0 ≤ (x - x / y * y).toInt ∨ x.toInt ≤ (x - x / y * y).toInt) := by
  rcases Int.lt_or_le x.toInt 0 with hx | hx
  · have e := rg_dv (x := x) (l := l) (h := h) q c
    have xl := x.toInt_lt
    have xm := x.le_toInt
    unfold rg at *
    have k := tdiv_rem2 (x := x.toInt) (y := y.toInt) (by omega)
    have k3 : 0 ≤ (-x.toInt).tdiv y.toInt := Int.tdiv_nonneg (by omega) (by omega)
    have k4 : 0 ≤ (-x.toInt).tdiv y.toInt * y.toInt := Int.mul_nonneg k3 (by omega)
    rw [Int.neg_tdiv, Int.neg_mul] at k4
    rw [Int32.toInt_sub, Int32.toInt_mul, e, bm32 (x := x.toInt.tdiv y.toInt * y.toInt) (by omega) (by omega), bm32 (by omega) (by omega)]
    omega
  · have := rg_remlt (l := 0) (h := h) ⟨hx, p.2⟩ q (by decide) c
    exact ⟨this.2, Or.inl this.1⟩
theorem in_cap2 {i : Int32} {b n : Nat} (a : 0 ≤ i.toInt) (k : i.toInt < cap b) (c : cap b ≤ n) : sx_in i n = true := in_rg (l := i.toInt) (h := i.toInt) ⟨Int.le_refl _, Int.le_refl _⟩ a (by omega)
theorem rg_lo {x : Int32} {n : Int} (h : n ≤ x.toInt) : rg x n 2147483647 := ⟨h, by have := x.toInt_lt; omega⟩
theorem rg_hi {x : Int32} {n : Int} (h : x.toInt ≤ n) : rg x (-2147483648) n := ⟨by have := x.le_toInt; omega, h⟩
/-- the ends read so far -/
def EN (b : Nat) (l4 l5 : Int32) (V : sv_V) : Prop := ∀ k : Nat, (k : Int) < l5.toInt → (V.1 (b + 1) k).toInt ≤ l4.toInt
theorem EN_0 {b : Nat} {x : Int32} {V : sv_V} : EN b x 0 V := fun k hk => absurd hk (by rw [show (0 : Int32).toInt = 0 from rfl]; omega)
theorem ocl1 {b : Nat} (m : b ∈ [93, 103, 113, 123, 133]) : b + 1 ∈ [94, 104, 114, 124, 134] := by
  simp only [List.mem_cons, List.not_mem_nil, or_false] at m
  rcases m with rfl | rfl | rfl | rfl | rfl <;> decide
theorem EN_step {b : Nat} {l4 l5 x y : Int32} {V V1 V2 : sv_V} (h : EN b l4 l5 V) (fr : ∀ k, V1.1 (b + 1) k = V.1 (b + 1) k) (q : V2 = sv_I V1 (b + 1) l5.toNatClampNeg x) (q2 : y = l5 + 1) (r : rg l5 0 12) (hx : l4 < x) : EN b x y V2 := by
  intro k hk
  have a := r.1
  have c := r.2
  have hx := Int32.lt_iff_toInt_lt.mp hx
  have e5 : y.toInt = l5.toInt + 1 := by
    rw [q2, Int32.toInt_add, show (1 : Int32).toInt = 1 from rfl, bm32 (by omega) (by omega)]
  by_cases e : k = l5.toNatClampNeg
  · subst e
    rw [rd_s q]
    exact Int.le_refl _
  · rw [rd_k q e, fr k]
    have : (k : Int) ≠ l5.toInt := fun z => e (by
      show k = l5.toInt.toNat
      omega)
    have := h k (by omega)
    omega
theorem fb_SI {T : Tb} {G V : sv_V} (S : SIx T G V) {a : Nat} (e : ∀ k, T.1 a k = some (-128, 127)) (s n : Nat) : sv_fb V a s n = true := by
  unfold sv_fb
  rw [List.all_eq_true]
  intro i _
  have r := S.rdA (k := s + i) e
  generalize V.1 a (s + i) = x at r
  have h1 : (-128 : Int32) ≤ x := Int32.le_iff_toInt_le.mpr r.1
  have h2 : x ≤ (127 : Int32) := Int32.le_iff_toInt_le.mpr r.2
  simp [fits, h1, h2]
theorem and_c {x y : Int32} (c : Int32) (h : x = y) : (x &&& c).toInt = (y &&& c).toInt := by rw [h]
theorem hit_S {L : List Nat} {Lm : List (Nat × Option Nat)} {a : Nat} (m : a ∈ L) (k : Nat) (e : L.all (fun a => sv_hit Lm a k) = true) : sv_hit Lm a k = true := List.all_eq_true.mp e a m
theorem nz_om {x : Int32} (h : ¬ x.toInt = 0) : ¬ x = 0 := fun e => h (by rw [e]; rfl)
theorem nz_oml {x : Int64} (h : ¬ x.toInt = 0) : ¬ x = 0 := fun e => h (by rw [e]; rfl)
theorem rg_tmc {x y : Int32} {c l h : Int} (e : x.toInt = c) (p : rg y l h) (a : -2147483648 ≤ min (c * l) (c * h)) (b : max (c * l) (c * h) ≤ 2147483647) : (x * y).toInt = c * y.toInt := by
  have h1 := p.1
  have h2 := p.2
  have k1 : min (c * l) (c * h) ≤ c * y.toInt := by
    rcases Int.le_total 0 c with q | q
    · exact Int.le_trans (Int.min_le_left _ _) (Int.mul_le_mul_of_nonneg_left h1 q)
    · exact Int.le_trans (Int.min_le_right _ _) (Int.mul_le_mul_of_nonpos_left q h2)
  have k2 : c * y.toInt ≤ max (c * l) (c * h) := by
    rcases Int.le_total 0 c with q | q
    · exact Int.le_trans (Int.mul_le_mul_of_nonneg_left h2 q) (Int.le_max_right _ _)
    · exact Int.le_trans (Int.mul_le_mul_of_nonpos_left q h1) (Int.le_max_left _ _)
  rw [Int32.toInt_mul, e, bm32 (by omega) (by omega)]
theorem rl_tmc {x y : Int64} {c l h : Int} (e : x.toInt = c) (p : rl y l h) (a : -9223372036854775808 ≤ min (c * l) (c * h)) (b : max (c * l) (c * h) ≤ 9223372036854775807) : (x * y).toInt = c * y.toInt := by
  have h1 := p.1
  have h2 := p.2
  have k1 : min (c * l) (c * h) ≤ c * y.toInt := by
    rcases Int.le_total 0 c with q | q
    · exact Int.le_trans (Int.min_le_left _ _) (Int.mul_le_mul_of_nonneg_left h1 q)
    · exact Int.le_trans (Int.min_le_right _ _) (Int.mul_le_mul_of_nonpos_left q h2)
  have k2 : c * y.toInt ≤ max (c * l) (c * h) := by
    rcases Int.le_total 0 c with q | q
    · exact Int.le_trans (Int.mul_le_mul_of_nonneg_left h2 q) (Int.le_max_right _ _)
    · exact Int.le_trans (Int.mul_le_mul_of_nonpos_left q h1) (Int.le_max_left _ _)
  rw [Int64.toInt_mul, e, bm64 (by omega) (by omega)]
theorem sh2 {x y : Int32} (r : rg x 0 4) (r2 : rg y 0 16) (h : (2 : Int32) <<< (x &&& 31) ≤ y) : x.toInt ≤ 3 := by
  have h1 := r.1
  have h2 := r.2
  rcases Int.lt_or_le x.toInt 4 with q | q
  · omega
  · have : x = 4 := Int32.toInt_inj.mp (show x.toInt = 4 by omega)
    subst this
    have k := Int32.le_iff_toInt_le.mp h
    have e : ((2 : Int32) <<< ((4 : Int32) &&& 31)).toInt = 32 := by decide
    have := r2.2
    omega
theorem bm32_any (n : Int) (h1 : -8589934592 < n) (h2 : n < 8589934592) : n.bmod 4294967296 = n ∨ n.bmod 4294967296 = n + 4294967296 ∨ n.bmod 4294967296 = n - 4294967296 ∨ n.bmod 4294967296 = n + 8589934592 ∨ n.bmod 4294967296 = n - 8589934592 := by
  have := Int.bmod_eq_emod_of_lt (x := n) (m := 4294967296)
  rw [Int.bmod_def]
  split <;> omega
theorem rg_anya (x y : Int32) : ((x + y).toInt = x.toInt + y.toInt ∨ (x + y).toInt = x.toInt + y.toInt + 4294967296 ∨ (x + y).toInt = x.toInt + y.toInt - 4294967296) ∧ -2147483648 ≤ (x + y).toInt ∧ (x + y).toInt ≤ 2147483647 := by
  have h1 := x.le_toInt
  have h2 := x.toInt_lt
  have h3 := y.le_toInt
  have h4 := y.toInt_lt
  have h5 := (x + y).le_toInt
  have h6 := (x + y).toInt_lt
  have e := Int32.toInt_add x y
  have k := bm32_any (x.toInt + y.toInt) (by omega) (by omega)
  rw [show (2 : Nat) ^ 32 = 4294967296 from rfl] at e
  omega
theorem rg_anys (x y : Int32) : ((x - y).toInt = x.toInt - y.toInt ∨ (x - y).toInt = x.toInt - y.toInt + 4294967296 ∨ (x - y).toInt = x.toInt - y.toInt - 4294967296) ∧ -2147483648 ≤ (x - y).toInt ∧ (x - y).toInt ≤ 2147483647 := by
  have h1 := x.le_toInt
  have h2 := x.toInt_lt
  have h3 := y.le_toInt
  have h4 := y.toInt_lt
  have h5 := (x - y).le_toInt
  have h6 := (x - y).toInt_lt
  have e := Int32.toInt_sub x y
  have k := bm32_any (x.toInt - y.toInt) (by omega) (by omega)
  rw [show (2 : Nat) ^ 32 = 4294967296 from rfl] at e
  omega
theorem rg_sh32 {x : Int32} (r : rg x 0 2) : rg ((32 : Int32) <<< (x &&& 31)) 32 128 := by
  have h1 := r.1
  have h2 := r.2
  have : x = 0 ∨ x = 1 ∨ x = 2 := by
    rcases Int.lt_trichotomy x.toInt 1 with q | q | q
    · exact Or.inl (Int32.toInt_inj.mp (show x.toInt = 0 by omega))
    · exact Or.inr (Or.inl (Int32.toInt_inj.mp q))
    · exact Or.inr (Or.inr (Int32.toInt_inj.mp (show x.toInt = 2 by omega)))
  rcases this with rfl | rfl | rfl <;> exact ⟨by decide, by decide⟩
theorem ti_1 {x y : Int32} {h : Int} (q : y = x + 1) (r : rg x 0 h) (c : h ≤ 2147483646) : y.toInt = x.toInt + 1 := by
  have := r.1
  have := r.2
  rw [q, Int32.toInt_add, show (1 : Int32).toInt = 1 from rfl, bm32 (by omega) (by omega)]
end
section
/-! ONE TABLE OF RANGES OUT OF ANOTHER -/
theorem lk_mem {A : Type} {L : List (Nat × A)} {a : Nat} {x : A} (h : lk L a = some x) : (a, x) ∈ L := by
  induction L with
  | nil => cases h
  | cons q r ih =>
    unfold lk at h
    by_cases e : q.1 = a
    · rw [if_pos e] at h
      cases h
      subst e
      exact List.mem_cons_self
    · rw [if_neg e] at h
      exact List.mem_cons_of_mem _ (ih h)
/-- every range of the second table stands in the first, or is named -/
def subT (A1 : List (Nat × Int × Int)) (F1 : List (Nat × List (Nat × Int × Int))) (A2 : List (Nat × Int × Int)) (F2 : List (Nat × List (Nat × Int × Int))) (ex : List (Nat × Nat)) : Bool :=
  A2.all (fun q => match lk A1 q.1 with
    | some r => decide (q.2.1 ≤ r.1) && decide (r.2 ≤ q.2.2)
    | none => false) && F2.all (fun q => q.2.all (fun r => ex.contains (q.1, r.1) || inR (R_of A1 F1 q.1 r.1) r.2.1 r.2.2))
theorem sub_rg {A1 A2 : List (Nat × Int × Int)} {F1 F2 : List (Nat × List (Nat × Int × Int))} {ex : List (Nat × Nat)} (h : subT A1 F1 A2 F2 ex = true) {V : sv_V} (h1 : ∀ a k l h, R_of A1 F1 a k = some (l, h) → rg (V.1 a k) l h) (hx : ∀ q, q ∈ ex → ∀ l h, R_of A2 F2 q.1 q.2 = some (l, h) → rg (V.1 q.1 q.2) l h) : ∀ a k l h, R_of A2 F2 a k = some (l, h) → rg (V.1 a k) l h := by
  intro a k l hh e
  have e0 := e
  unfold subT at h
  rw [Bool.and_eq_true] at h
  obtain ⟨hA, hF⟩ := h
  unfold R_of at e
  cases ea : lk A2 a with
  | some r =>
    rw [ea] at e
    cases e
    have q := List.all_eq_true.mp hA _ (lk_mem ea)
    dsimp only at q
    cases e1 : lk A1 a with
    | none => rw [e1] at q; cases q
    | some r1 =>
      rw [e1] at q
      simp only [Bool.and_eq_true, decide_eq_true_eq] at q
      exact rg_m (h1 a k r1.1 r1.2 (by unfold R_of; rw [e1])) q.1 q.2
  | none =>
    rw [ea] at e
    cases ef : lk F2 a with
    | none => rw [ef] at e; cases e
    | some L =>
      rw [ef] at e
      have q := List.all_eq_true.mp (List.all_eq_true.mp hF _ (lk_mem ef)) _ (lk_mem e)
      dsimp only at q
      rw [Bool.or_eq_true] at q
      rcases q with q | q
      · exact hx (a, k) (List.contains_iff_mem.mp q) l hh e0
      · obtain ⟨x, y, e1, e2, e3⟩ := inR_e q
        exact rg_m (h1 a k x y e1) e2 e3
theorem u2_cg {V W V' : sv_V} (h1 : W.1 2 1 = V.1 2 1) (h3 : ∀ k, W.1 3 k = V.1 3 k) {l x : Int32} (h : F_X2_u2 l V = some (x, V')) : V' = V ∧ F_X2_u2 l W = some (x, W) := by
  unfold F_X2_u2 at h ⊢
  rw [h1, h3, h3]
  by_cases c1 : l < 0
  · rw [if_pos c1] at h ⊢
    cases h
    exact ⟨rfl, rfl⟩
  · rw [if_neg c1] at h ⊢
    by_cases c2 : l + 2 ≤ V.1 2 1
    · rw [if_pos c2] at h ⊢
      obtain ⟨g1, h⟩ := sx_grd h
      obtain ⟨g2, h⟩ := sx_grd h
      rw [if_pos g1, if_pos g2]
      cases h
      exact ⟨rfl, rfl⟩
    · rw [if_neg c2] at h ⊢
      cases h
      exact ⟨rfl, rfl⟩
theorem entry_cg {V W V' : sv_V} (h1 : W.1 2 1 = V.1 2 1) (h3 : ∀ k, W.1 3 k = V.1 3 k) {i j : Int32} {x : Int64} (h : F_X4_entry i j V = some (x, V')) : V' = V ∧ F_X4_entry i j W = some (x, W) := by
  unfold F_X4_entry F_X2_u4 at h ⊢
  obtain ⟨⟨y, V1⟩, g0, h⟩ := sx_bnd h
  obtain ⟨⟨a, V2⟩, g2, g1⟩ := sx_bnd g0
  clear g0
  obtain ⟨rfl, w2⟩ := u2_cg h1 h3 g2
  obtain ⟨⟨b, V3⟩, g3, g4⟩ := sx_bnd g1
  clear g1
  obtain ⟨rfl, w3⟩ := u2_cg h1 h3 g3
  simp only [Option.some.injEq, Prod.mk.injEq] at g4
  obtain ⟨rfl, rfl⟩ := g4
  simp only [Option.some.injEq, Prod.mk.injEq] at h
  obtain ⟨rfl, rfl⟩ := h
  refine ⟨rfl, ?_⟩
  rw [w2, Option.bind_some]
  dsimp only
  rw [w3, Option.bind_some]
  rfl
/-- the first n entries of the directory name bytes that are there -/
def LRn (n : Int) (V : sv_V) : Prop := ∀ i : Int32, 0 ≤ i.toInt → i.toInt < n → ∀ a b, F_X4_entry i 2 V = some (a, V) → F_X4_entry i 3 V = some (b, V) → a.toInt ≤ 12000 ∧ b.toInt ≤ 12000
def LR (V : sv_V) : Prop := LRn (V.1 2 5).toInt V
theorem LR_fr {V W : sv_V} (h1 : W.1 2 1 = V.1 2 1) (h5 : W.1 2 5 = V.1 2 5) (h3 : ∀ k, W.1 3 k = V.1 3 k) (h : LR V) : LR W := by
  intro i h0 hi a b ea eb
  rw [h5] at hi
  exact h i h0 hi a b (entry_cg h1.symm (fun k => (h3 k).symm) ea).2 (entry_cg h1.symm (fun k => (h3 k).symm) eb).2
end
