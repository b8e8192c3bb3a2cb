/-! SAFETY BY RANGES: words and rows -/
def Sg {A : Type} (P : A → Prop) (o : Option A) : Prop := ∃ a, o = some a ∧ P a
theorem bm32 {x : Int} (h1 : -2147483648 ≤ x) (h2 : x ≤ 2147483647) : x.bmod (2 ^ 32) = x := by
  rw [Int.bmod_def]
  omega
theorem bm64 {x : Int} (h1 : -9223372036854775808 ≤ x) (h2 : x ≤ 9223372036854775807) : x.bmod (2 ^ 64) = x := by
  rw [Int.bmod_def]
  omega
theorem mul_box {x y a b c d : Int} (h1 : a ≤ x) (h2 : x ≤ b) (h3 : c ≤ y) (h4 : y ≤ d) : (a * c ≤ x * y ∨ a * d ≤ x * y ∨ b * c ≤ x * y ∨ b * d ≤ x * y) ∧ (x * y ≤ a * c ∨ x * y ≤ a * d ∨ x * y ≤ b * c ∨ x * y ≤ b * d) := by
  have m1 : ∀ {p q r : Int}, p ≤ q → 0 ≤ r → p * r ≤ q * r := fun h k => Int.mul_le_mul_of_nonneg_right h k
  have m2 : ∀ {p q r : Int}, p ≤ q → r ≤ 0 → q * r ≤ p * r := fun h k => Int.mul_le_mul_of_nonpos_right h k
  have n1 : ∀ {p q r : Int}, p ≤ q → 0 ≤ r → r * p ≤ r * q := fun h k => Int.mul_le_mul_of_nonneg_left h k
  have n2 : ∀ {p q r : Int}, p ≤ q → r ≤ 0 → r * q ≤ r * p := fun h k => Int.mul_le_mul_of_nonpos_left k h
  constructor
  · rcases Int.le_total 0 y with hy | hy
    · have s := m1 h1 hy
      rcases Int.le_total 0 a with ha | ha
      · have := n1 h3 ha; omega
      · have := n2 h4 ha; omega
    · have s := m2 h2 hy
      rcases Int.le_total 0 b with hb | hb
      · have := n1 h3 hb; omega
      · have := n2 h4 hb; omega
  · rcases Int.le_total 0 y with hy | hy
    · have s := m1 h2 hy
      rcases Int.le_total 0 b with hb | hb
      · have := n1 h4 hb; omega
      · have := n2 h3 hb; omega
    · have s := m2 h1 hy
      rcases Int.le_total 0 a with ha | ha
      · have := n1 h4 ha; omega
      · have := n2 h3 ha; omega
theorem tdiv_box {x h y : Int} (a : 0 ≤ x) (b : x ≤ h) (c : 0 < y) : 0 ≤ x.tdiv y ∧ x.tdiv y ≤ h := by
  rw [Int.tdiv_eq_ediv_of_nonneg a]
  exact ⟨Int.ediv_nonneg a (by omega), Int.le_trans (Int.ediv_le_self y a) b⟩
theorem tdiv_box2 {x m y : Int} (a : -m ≤ x) (b : x ≤ m) (c : 0 < y) : -m ≤ x.tdiv y ∧ x.tdiv y ≤ m := by
  rcases Int.le_total 0 x with h | h
  · have := tdiv_box h b c
    omega
  · have k := tdiv_box (x := -x) (h := m) (by omega) (by omega) c
    rw [Int.neg_tdiv] at k
    omega
theorem tdiv_rem1 {x y : Int} (a : 0 ≤ x) (c : 0 < y) : x - x.tdiv y * y ≤ y - 1 ∧ 0 ≤ x - x.tdiv y * y ∧ 0 ≤ x.tdiv y * y := by
  rw [Int.tdiv_eq_ediv_of_nonneg a]
  have h1 := Int.emod_nonneg x (show y ≠ 0 by omega)
  have h2 := Int.emod_lt_of_pos x c
  have h3 := Int.emod_def x y
  have h4 : x / y * y = y * (x / y) := Int.mul_comm _ _
  have h5 := Int.mul_nonneg (show 0 ≤ x / y from Int.ediv_nonneg a (by omega)) (show 0 ≤ y by omega)
  omega
theorem tdiv_rem2 {x y : Int} (c : 0 < y) : x - x.tdiv y * y ≤ y - 1 ∧ -(y - 1) ≤ x - x.tdiv y * y ∧ (0 ≤ x → 0 ≤ x.tdiv y * y ∧ x.tdiv y * y ≤ x) ∧ (x ≤ 0 → x.tdiv y * y ≤ 0 ∧ x ≤ x.tdiv y * y) := by
  rcases Int.le_total 0 x with h | h
  · have k := tdiv_rem1 h c
    have : x = 0 → x.tdiv y * y = 0 := fun e => by subst e; simp
    omega
  · have k := tdiv_rem1 (x := -x) (by omega) c
    rw [Int.neg_tdiv, Int.neg_mul] at k
    have : x = 0 → x.tdiv y * y = 0 := fun e => by subst e; simp
    omega
def rg (x : Int32) (l h : Int) : Prop := l ≤ x.toInt ∧ x.toInt ≤ h
theorem rg_t {x : Int32} : rg x ((-2147483648)) 2147483647 := by
  have h1 := x.le_toInt
  have h2 := x.toInt_lt
  unfold rg
  omega
theorem rg_c {x : Int32} {n : Int} (h : x.toInt = n) : rg x n n := ⟨Int.le_of_eq h.symm, Int.le_of_eq h⟩
theorem rg_m {x : Int32} {l h l2 h2 : Int} (p : rg x l h) (a : l2 ≤ l) (b : h ≤ h2) : rg x l2 h2 := ⟨Int.le_trans a p.1, Int.le_trans p.2 b⟩
theorem rg_i {x : Int32} {l h l2 h2 : Int} (p : rg x l h) (q : rg x l2 h2) : rg x l h2 := ⟨p.1, q.2⟩
theorem rg_eq {x y : Int32} {l h : Int} (e : x = y) (p : rg y l h) : rg x l h := e ▸ p
theorem rg_add {x y : Int32} {l h l2 h2 : Int} (p : rg x l h) (q : rg y l2 h2) (a : (-2147483648) ≤ l + l2) (b : h + h2 ≤ 2147483647) : rg (x + y) (l + l2) (h + h2) := by
  unfold rg at *
  rw [Int32.toInt_add, bm32 (by omega) (by omega)]
  omega
theorem rg_sub {x y : Int32} {l h l2 h2 : Int} (p : rg x l h) (q : rg y l2 h2) (a : (-2147483648) ≤ l - h2) (b : h - l2 ≤ 2147483647) : rg (x - y) (l - h2) (h - l2) := by
  unfold rg at *
  rw [Int32.toInt_sub, bm32 (by omega) (by omega)]
  omega
theorem rg_neg {x : Int32} {l h : Int} (p : rg x l h) (a : -l ≤ 2147483647) : rg (-x) (-h) (-l) := by
  have h1 := x.toInt_lt
  unfold rg at *
  rw [Int32.toInt_neg, bm32 (by omega) (by omega)]
  omega
theorem rg_addL {x y : Int32} {l h l1 h1 l2 h2 : Int} (r : rg (x + y) l h) (p : rg x l1 h1) (q : rg y l2 h2) (a : (-2147483648) ≤ l1 + l2) (b : h1 + h2 ≤ 2147483647) : rg x (l - h2) (h - l2) := by
  unfold rg at *
  rw [Int32.toInt_add, bm32 (by omega) (by omega)] at r
  omega
theorem rg_addR {x y : Int32} {l h l1 h1 l2 h2 : Int} (r : rg (x + y) l h) (p : rg x l1 h1) (q : rg y l2 h2) (a : (-2147483648) ≤ l1 + l2) (b : h1 + h2 ≤ 2147483647) : rg y (l - h1) (h - l1) := by
  unfold rg at *
  rw [Int32.toInt_add, bm32 (by omega) (by omega)] at r
  omega
theorem rg_subL {x y : Int32} {l h l1 h1 l2 h2 : Int} (r : rg (x - y) l h) (p : rg x l1 h1) (q : rg y l2 h2) (a : (-2147483648) ≤ l1 - h2) (b : h1 - l2 ≤ 2147483647) : rg x (l + l2) (h + h2) := by
  unfold rg at *
  rw [Int32.toInt_sub, bm32 (by omega) (by omega)] at r
  omega
theorem rg_subR {x y : Int32} {l h l1 h1 l2 h2 : Int} (r : rg (x - y) l h) (p : rg x l1 h1) (q : rg y l2 h2) (a : (-2147483648) ≤ l1 - h2) (b : h1 - l2 ≤ 2147483647) : rg y (l1 - h) (h1 - l) := by
  unfold rg at *
  rw [Int32.toInt_sub, bm32 (by omega) (by omega)] at r
  omega
theorem rg_mul {x y : Int32} {l h l1 h1 l2 h2 : Int} (p : rg x l1 h1) (q : rg y l2 h2) (c : (decide ((-2147483648) ≤ l) && decide (h ≤ 2147483647) && decide (l ≤ l1 * l2) && decide (l ≤ l1 * h2) && decide (l ≤ h1 * l2) && decide (l ≤ h1 * h2) && decide (l1 * l2 ≤ h) && decide (l1 * h2 ≤ h) && decide (h1 * l2 ≤ h) && decide (h1 * h2 ≤ h)) = true) : rg (x * y) l h := by
  simp only [Bool.and_eq_true, decide_eq_true_eq] at c
  obtain ⟨⟨⟨⟨⟨⟨⟨⟨⟨c1, c2⟩, c3⟩, c4⟩, c5⟩, c6⟩, c7⟩, c8⟩, c9⟩, c10⟩ := c
  have k := mul_box p.1 p.2 q.1 q.2
  unfold rg
  rw [Int32.toInt_mul, bm32 (by omega) (by omega)]
  omega
theorem rg_hlt {x y : Int32} {l h l2 h2 : Int} (e : x < y) (p : rg x l h) (q : rg y l2 h2) : rg x l (h2 - 1) := by
  have e := Int32.lt_iff_toInt_lt.mp e
  unfold rg at *
  omega
theorem rg_llt {x y : Int32} {l h l2 h2 : Int} (e : x < y) (p : rg x l h) (q : rg y l2 h2) : rg y (l + 1) h2 := by
  have e := Int32.lt_iff_toInt_lt.mp e
  unfold rg at *
  omega
theorem rg_hle {x y : Int32} {l h l2 h2 : Int} (e : x ≤ y) (p : rg x l h) (q : rg y l2 h2) : rg x l h2 := by
  have e := Int32.le_iff_toInt_le.mp e
  unfold rg at *
  omega
theorem rg_lle {x y : Int32} {l h l2 h2 : Int} (e : x ≤ y) (p : rg x l h) (q : rg y l2 h2) : rg y l h2 := by
  have e := Int32.le_iff_toInt_le.mp e
  unfold rg at *
  omega
theorem rg_nolt {x y : Int32} {l h l2 h2 : Int} (e : x < y) (p : rg x l h) (q : rg y l2 h2) (c : h2 ≤ l) : False := by
  have e := Int32.lt_iff_toInt_lt.mp e
  unfold rg at *
  omega
theorem rg_nole {x y : Int32} {l h l2 h2 : Int} (e : x ≤ y) (p : rg x l h) (q : rg y l2 h2) (c : h2 < l) : False := by
  have e := Int32.le_iff_toInt_le.mp e
  unfold rg at *
  omega
theorem rg_noeq {x y : Int32} {l h l2 h2 : Int} (e : x = y) (p : rg x l h) (q : rg y l2 h2) (c : h2 < l ∨ h < l2) : False := by
  subst e
  unfold rg at *
  omega
theorem rg_none {x y : Int32} {l : Int} (e : ¬ x = y) (p : rg x l l) (q : rg y l l) : False := by
  refine e (Int32.toInt_inj.mp ?_)
  unfold rg at *
  omega
theorem rg_nel {x y : Int32} {l h : Int} (e : ¬ x = y) (p : rg x l h) (q : rg y l l) : rg x (l + 1) h := by
  have e : ¬ x.toInt = y.toInt := fun k => e (Int32.toInt_inj.mp k)
  unfold rg at *
  omega
theorem rg_neh {x y : Int32} {l h : Int} (e : ¬ x = y) (p : rg x l h) (q : rg y h h) : rg x l (h - 1) := by
  have e : ¬ x.toInt = y.toInt := fun k => e (Int32.toInt_inj.mp k)
  unfold rg at *
  omega
theorem rg_nz1 {x : Int32} {l h : Int} (p : rg x l h) (c : 0 < l) : ¬ x = 0 := by
  rintro rfl
  have : (0 : Int32).toInt = 0 := rfl
  unfold rg at *
  omega
theorem rg_nz2 {x : Int32} {l h : Int} (p : rg x l h) (c : h < 0) : ¬ x = 0 := by
  rintro rfl
  have : (0 : Int32).toInt = 0 := rfl
  unfold rg at *
  omega
theorem rg_dv {x y : Int32} {l h l2 h2 : Int} (q : rg y l2 h2) (c : 0 < l2) : (x / y).toInt = x.toInt.tdiv y.toInt := by
  refine Int32.toInt_div_of_ne_right x y ?_
  rintro rfl
  have : (-1 : Int32).toInt = -1 := rfl
  unfold rg at *
  omega
theorem rg_tia {x y : Int32} {l h l2 h2 : Int} (p : rg x l h) (q : rg y l2 h2) (a : (-2147483648) ≤ l + l2) (b : h + h2 ≤ 2147483647) : (x + y).toInt = x.toInt + y.toInt := by
  unfold rg at *
  rw [Int32.toInt_add, bm32 (by omega) (by omega)]
theorem rg_tis {x y : Int32} {l h l2 h2 : Int} (p : rg x l h) (q : rg y l2 h2) (a : (-2147483648) ≤ l - h2) (b : h - l2 ≤ 2147483647) : (x - y).toInt = x.toInt - y.toInt := by
  unfold rg at *
  rw [Int32.toInt_sub, bm32 (by omega) (by omega)]
theorem rg_divp {x y : Int32} {l h l2 h2 : Int} (p : rg x l h) (q : rg y l2 h2) (a : 0 ≤ l) (c : 0 < l2) : rg (x / y) 0 h := by
  have e := rg_dv (x := x) (l := l) (h := h) q c
  unfold rg at *
  rw [e]
  exact tdiv_box (by omega) p.2 (by omega)
theorem rg_divc {x y : Int32} {l h n : Int} (p : rg x l h) (q : rg y n n) (a : 0 ≤ l) (c : 0 < n) : rg (x / y) (l / n) (h / n) := by
  have e := rg_dv (x := x) (l := l) (h := h) q c
  unfold rg at *
  have e2 : y.toInt = n := by omega
  rw [e, e2, Int.tdiv_eq_ediv_of_nonneg (by omega)]
  exact ⟨Int.ediv_le_ediv c p.1, Int.ediv_le_ediv c p.2⟩
theorem rg_tdc {x y : Int32} {l h n : Int} (p : rg x l h) (q : rg y n n) (a : 0 ≤ l) (c : 0 < n) : (x / y).toInt = x.toInt / n := by
  have e := rg_dv (x := x) (l := l) (h := h) q c
  unfold rg at *
  have e2 : y.toInt = n := by omega
  rw [e, e2, Int.tdiv_eq_ediv_of_nonneg (by omega)]
theorem rg_div {x y : Int32} {l h l2 h2 m : Int} (p : rg x l h) (q : rg y l2 h2) (a : -m ≤ l) (b : h ≤ m) (c : 0 < l2) : rg (x / y) (-m) m := by
  have e := rg_dv (x := x) (l := l) (h := h) q c
  unfold rg at *
  rw [e]
  exact tdiv_box2 (by omega) (by omega) (by omega)
theorem rg_remp {x y : Int32} {l h l2 h2 : Int} (p : rg x l h) (q : rg y l2 h2) (a : 0 ≤ l) (c : 0 < l2) : rg (x - x / y * y) 0 (h2 - 1) := by
  have e := rg_dv (x := x) (l := l) (h := h) q c
  have p' := p
  have q' := q
  have xl := x.toInt_lt
  have yl := y.toInt_lt
  unfold rg at *
  have k := tdiv_rem1 (x := x.toInt) (y := y.toInt) (by omega) (by omega)
  have k2 := tdiv_box (x := x.toInt) (h := x.toInt) (y := y.toInt) (by omega) (by omega) (by omega)
  rw [Int32.toInt_sub, Int32.toInt_mul, e, bm32 (x := x.toInt.tdiv y.toInt * y.toInt) (by omega) (by omega), bm32 (by omega) (by omega)]
  omega
theorem rg_remlt {x y : Int32} {l h l2 h2 : Int} (p : rg x l h) (q : rg y l2 h2) (a : 0 ≤ l) (c : 0 < l2) : 0 ≤ (x - x / y * y).toInt ∧ (x - x / y * y).toInt < y.toInt := by
  have e := rg_dv (x := x) (l := l) (h := h) q c
  have xl := x.toInt_lt
  have yl := y.toInt_lt
  unfold rg at *
  have k := tdiv_rem1 (x := x.toInt) (y := y.toInt) (by omega) (by omega)
  rw [Int32.toInt_sub, Int32.toInt_mul, e, bm32 (x := x.toInt.tdiv y.toInt * y.toInt) (by omega) (by omega), bm32 (by omega) (by omega)]
  omega
theorem rg_rem {x y : Int32} {l h l2 h2 : Int} (p : rg x l h) (q : rg y l2 h2) (c : 0 < l2) : rg (x - x / y * y) (-(h2 - 1)) (h2 - 1) := by
  have e := rg_dv (x := x) (l := l) (h := h) q c
  have xl := x.toInt_lt
  have xm := x.le_toInt
  unfold rg at *
  have k := tdiv_rem2 (x := x.toInt) (y := y.toInt) (by omega)
  rw [Int32.toInt_sub, Int32.toInt_mul, e, bm32 (x := x.toInt.tdiv y.toInt * y.toInt) (by omega) (by omega), bm32 (by omega) (by omega)]
  omega
def rl (x : Int64) (l h : Int) : Prop := l ≤ x.toInt ∧ x.toInt ≤ h
theorem rl_t {x : Int64} : rl x ((-9223372036854775808)) 9223372036854775807 := by
  have h1 := x.le_toInt
  have h2 := x.toInt_lt
  unfold rl
  omega
theorem rl_c {x : Int64} {n : Int} (h : x.toInt = n) : rl x n n := ⟨Int.le_of_eq h.symm, Int.le_of_eq h⟩
theorem rl_m {x : Int64} {l h l2 h2 : Int} (p : rl x l h) (a : l2 ≤ l) (b : h ≤ h2) : rl x l2 h2 := ⟨Int.le_trans a p.1, Int.le_trans p.2 b⟩
theorem rl_i {x : Int64} {l h l2 h2 : Int} (p : rl x l h) (q : rl x l2 h2) : rl x l h2 := ⟨p.1, q.2⟩
theorem rl_eq {x y : Int64} {l h : Int} (e : x = y) (p : rl y l h) : rl x l h := e ▸ p
theorem rl_add {x y : Int64} {l h l2 h2 : Int} (p : rl x l h) (q : rl y l2 h2) (a : (-9223372036854775808) ≤ l + l2) (b : h + h2 ≤ 9223372036854775807) : rl (x + y) (l + l2) (h + h2) := by
  unfold rl at *
  rw [Int64.toInt_add, bm64 (by omega) (by omega)]
  omega
theorem rl_sub {x y : Int64} {l h l2 h2 : Int} (p : rl x l h) (q : rl y l2 h2) (a : (-9223372036854775808) ≤ l - h2) (b : h - l2 ≤ 9223372036854775807) : rl (x - y) (l - h2) (h - l2) := by
  unfold rl at *
  rw [Int64.toInt_sub, bm64 (by omega) (by omega)]
  omega
theorem rl_neg {x : Int64} {l h : Int} (p : rl x l h) (a : -l ≤ 9223372036854775807) : rl (-x) (-h) (-l) := by
  have h1 := x.toInt_lt
  unfold rl at *
  rw [Int64.toInt_neg, bm64 (by omega) (by omega)]
  omega
theorem rl_addL {x y : Int64} {l h l1 h1 l2 h2 : Int} (r : rl (x + y) l h) (p : rl x l1 h1) (q : rl y l2 h2) (a : (-9223372036854775808) ≤ l1 + l2) (b : h1 + h2 ≤ 9223372036854775807) : rl x (l - h2) (h - l2) := by
  unfold rl at *
  rw [Int64.toInt_add, bm64 (by omega) (by omega)] at r
  omega
theorem rl_addR {x y : Int64} {l h l1 h1 l2 h2 : Int} (r : rl (x + y) l h) (p : rl x l1 h1) (q : rl y l2 h2) (a : (-9223372036854775808) ≤ l1 + l2) (b : h1 + h2 ≤ 9223372036854775807) : rl y (l - h1) (h - l1) := by
  unfold rl at *
  rw [Int64.toInt_add, bm64 (by omega) (by omega)] at r
  omega
theorem rl_subL {x y : Int64} {l h l1 h1 l2 h2 : Int} (r : rl (x - y) l h) (p : rl x l1 h1) (q : rl y l2 h2) (a : (-9223372036854775808) ≤ l1 - h2) (b : h1 - l2 ≤ 9223372036854775807) : rl x (l + l2) (h + h2) := by
  unfold rl at *
  rw [Int64.toInt_sub, bm64 (by omega) (by omega)] at r
  omega
theorem rl_subR {x y : Int64} {l h l1 h1 l2 h2 : Int} (r : rl (x - y) l h) (p : rl x l1 h1) (q : rl y l2 h2) (a : (-9223372036854775808) ≤ l1 - h2) (b : h1 - l2 ≤ 9223372036854775807) : rl y (l1 - h) (h1 - l) := by
  unfold rl at *
  rw [Int64.toInt_sub, bm64 (by omega) (by omega)] at r
  omega
theorem rl_mul {x y : Int64} {l h l1 h1 l2 h2 : Int} (p : rl x l1 h1) (q : rl y l2 h2) (c : (decide ((-9223372036854775808) ≤ l) && decide (h ≤ 9223372036854775807) && decide (l ≤ l1 * l2) && decide (l ≤ l1 * h2) && decide (l ≤ h1 * l2) && decide (l ≤ h1 * h2) && decide (l1 * l2 ≤ h) && decide (l1 * h2 ≤ h) && decide (h1 * l2 ≤ h) && decide (h1 * h2 ≤ h)) = true) : rl (x * y) l h := by
  simp only [Bool.and_eq_true, decide_eq_true_eq] at c
  obtain ⟨⟨⟨⟨⟨⟨⟨⟨⟨c1, c2⟩, c3⟩, c4⟩, c5⟩, c6⟩, c7⟩, c8⟩, c9⟩, c10⟩ := c
  have k := mul_box p.1 p.2 q.1 q.2
  unfold rl
  rw [Int64.toInt_mul, bm64 (by omega) (by omega)]
  omega
theorem rl_hlt {x y : Int64} {l h l2 h2 : Int} (e : x < y) (p : rl x l h) (q : rl y l2 h2) : rl x l (h2 - 1) := by
  have e := Int64.lt_iff_toInt_lt.mp e
  unfold rl at *
  omega
theorem rl_llt {x y : Int64} {l h l2 h2 : Int} (e : x < y) (p : rl x l h) (q : rl y l2 h2) : rl y (l + 1) h2 := by
  have e := Int64.lt_iff_toInt_lt.mp e
  unfold rl at *
  omega
theorem rl_hle {x y : Int64} {l h l2 h2 : Int} (e : x ≤ y) (p : rl x l h) (q : rl y l2 h2) : rl x l h2 := by
  have e := Int64.le_iff_toInt_le.mp e
  unfold rl at *
  omega
theorem rl_lle {x y : Int64} {l h l2 h2 : Int} (e : x ≤ y) (p : rl x l h) (q : rl y l2 h2) : rl y l h2 := by
  have e := Int64.le_iff_toInt_le.mp e
  unfold rl at *
  omega
theorem rl_nolt {x y : Int64} {l h l2 h2 : Int} (e : x < y) (p : rl x l h) (q : rl y l2 h2) (c : h2 ≤ l) : False := by
  have e := Int64.lt_iff_toInt_lt.mp e
  unfold rl at *
  omega
theorem rl_nole {x y : Int64} {l h l2 h2 : Int} (e : x ≤ y) (p : rl x l h) (q : rl y l2 h2) (c : h2 < l) : False := by
  have e := Int64.le_iff_toInt_le.mp e
  unfold rl at *
  omega
theorem rl_noeq {x y : Int64} {l h l2 h2 : Int} (e : x = y) (p : rl x l h) (q : rl y l2 h2) (c : h2 < l ∨ h < l2) : False := by
  subst e
  unfold rl at *
  omega
theorem rl_none {x y : Int64} {l : Int} (e : ¬ x = y) (p : rl x l l) (q : rl y l l) : False := by
  refine e (Int64.toInt_inj.mp ?_)
  unfold rl at *
  omega
theorem rl_nel {x y : Int64} {l h : Int} (e : ¬ x = y) (p : rl x l h) (q : rl y l l) : rl x (l + 1) h := by
  have e : ¬ x.toInt = y.toInt := fun k => e (Int64.toInt_inj.mp k)
  unfold rl at *
  omega
theorem rl_neh {x y : Int64} {l h : Int} (e : ¬ x = y) (p : rl x l h) (q : rl y h h) : rl x l (h - 1) := by
  have e : ¬ x.toInt = y.toInt := fun k => e (Int64.toInt_inj.mp k)
  unfold rl at *
  omega
theorem rl_nz1 {x : Int64} {l h : Int} (p : rl x l h) (c : 0 < l) : ¬ x = 0 := by
  rintro rfl
  have : (0 : Int64).toInt = 0 := rfl
  unfold rl at *
  omega
theorem rl_nz2 {x : Int64} {l h : Int} (p : rl x l h) (c : h < 0) : ¬ x = 0 := by
  rintro rfl
  have : (0 : Int64).toInt = 0 := rfl
  unfold rl at *
  omega
theorem rl_dv {x y : Int64} {l h l2 h2 : Int} (q : rl y l2 h2) (c : 0 < l2) : (x / y).toInt = x.toInt.tdiv y.toInt := by
  refine Int64.toInt_div_of_ne_right x y ?_
  rintro rfl
  have : (-1 : Int64).toInt = -1 := rfl
  unfold rl at *
  omega
theorem rl_tia {x y : Int64} {l h l2 h2 : Int} (p : rl x l h) (q : rl y l2 h2) (a : (-9223372036854775808) ≤ l + l2) (b : h + h2 ≤ 9223372036854775807) : (x + y).toInt = x.toInt + y.toInt := by
  unfold rl at *
  rw [Int64.toInt_add, bm64 (by omega) (by omega)]
theorem rl_tis {x y : Int64} {l h l2 h2 : Int} (p : rl x l h) (q : rl y l2 h2) (a : (-9223372036854775808) ≤ l - h2) (b : h - l2 ≤ 9223372036854775807) : (x - y).toInt = x.toInt - y.toInt := by
  unfold rl at *
  rw [Int64.toInt_sub, bm64 (by omega) (by omega)]
theorem rl_divp {x y : Int64} {l h l2 h2 : Int} (p : rl x l h) (q : rl y l2 h2) (a : 0 ≤ l) (c : 0 < l2) : rl (x / y) 0 h := by
  have e := rl_dv (x := x) (l := l) (h := h) q c
  unfold rl at *
  rw [e]
  exact tdiv_box (by omega) p.2 (by omega)
theorem rl_divc {x y : Int64} {l h n : Int} (p : rl x l h) (q : rl y n n) (a : 0 ≤ l) (c : 0 < n) : rl (x / y) (l / n) (h / n) := by
  have e := rl_dv (x := x) (l := l) (h := h) q c
  unfold rl at *
  have e2 : y.toInt = n := by omega
  rw [e, e2, Int.tdiv_eq_ediv_of_nonneg (by omega)]
  exact ⟨Int.ediv_le_ediv c p.1, Int.ediv_le_ediv c p.2⟩
theorem rl_tdc {x y : Int64} {l h n : Int} (p : rl x l h) (q : rl y n n) (a : 0 ≤ l) (c : 0 < n) : (x / y).toInt = x.toInt / n := by
  have e := rl_dv (x := x) (l := l) (h := h) q c
  unfold rl at *
  have e2 : y.toInt = n := by omega
  rw [e, e2, Int.tdiv_eq_ediv_of_nonneg (by omega)]
theorem rl_div {x y : Int64} {l h l2 h2 m : Int} (p : rl x l h) (q : rl y l2 h2) (a : -m ≤ l) (b : h ≤ m) (c : 0 < l2) : rl (x / y) (-m) m := by
  have e := rl_dv (x := x) (l := l) (h := h) q c
  unfold rl at *
  rw [e]
  exact tdiv_box2 (by omega) (by omega) (by omega)
theorem rl_remp {x y : Int64} {l h l2 h2 : Int} (p : rl x l h) (q : rl y l2 h2) (a : 0 ≤ l) (c : 0 < l2) : rl (x - x / y * y) 0 (h2 - 1) := by
  have e := rl_dv (x := x) (l := l) (h := h) q c
  have p' := p
  have q' := q
  have xl := x.toInt_lt
  have yl := y.toInt_lt
  unfold rl at *
  have k := tdiv_rem1 (x := x.toInt) (y := y.toInt) (by omega) (by omega)
  have k2 := tdiv_box (x := x.toInt) (h := x.toInt) (y := y.toInt) (by omega) (by omega) (by omega)
  rw [Int64.toInt_sub, Int64.toInt_mul, e, bm64 (x := x.toInt.tdiv y.toInt * y.toInt) (by omega) (by omega), bm64 (by omega) (by omega)]
  omega
theorem rl_remlt {x y : Int64} {l h l2 h2 : Int} (p : rl x l h) (q : rl y l2 h2) (a : 0 ≤ l) (c : 0 < l2) : 0 ≤ (x - x / y * y).toInt ∧ (x - x / y * y).toInt < y.toInt := by
  have e := rl_dv (x := x) (l := l) (h := h) q c
  have xl := x.toInt_lt
  have yl := y.toInt_lt
  unfold rl at *
  have k := tdiv_rem1 (x := x.toInt) (y := y.toInt) (by omega) (by omega)
  rw [Int64.toInt_sub, Int64.toInt_mul, e, bm64 (x := x.toInt.tdiv y.toInt * y.toInt) (by omega) (by omega), bm64 (by omega) (by omega)]
  omega
theorem rl_rem {x y : Int64} {l h l2 h2 : Int} (p : rl x l h) (q : rl y l2 h2) (c : 0 < l2) : rl (x - x / y * y) (-(h2 - 1)) (h2 - 1) := by
  have e := rl_dv (x := x) (l := l) (h := h) q c
  have xl := x.toInt_lt
  have xm := x.le_toInt
  unfold rl at *
  have k := tdiv_rem2 (x := x.toInt) (y := y.toInt) (by omega)
  rw [Int64.toInt_sub, Int64.toInt_mul, e, bm64 (x := x.toInt.tdiv y.toInt * y.toInt) (by omega) (by omega), bm64 (by omega) (by omega)]
  omega
theorem rl_w {x : Int32} {l h : Int} (p : rg x l h) : rl x.toInt64 l h := by
  unfold rl
  rw [Int32.toInt_toInt64]
  exact p
theorem rg_uw {x : Int32} {l h : Int} (p : rl x.toInt64 l h) : rg x l h := by
  unfold rl at p
  rw [Int32.toInt_toInt64] at p
  exact p
theorem rg_n {x : Int64} {l h : Int} (p : rl x l h) (a : -2147483648 ≤ l) (b : h ≤ 2147483647) : rg x.toInt32 l h := by
  unfold rl rg at *
  rw [Int64.toInt_toInt32, bm32 (by omega) (by omega)]
  exact p
theorem rl_tw {x : Int32} {l h : Int} (p : rg x l h) : x.toInt64.toInt = x.toInt := Int32.toInt_toInt64 x
theorem rg_tn {x : Int64} {l h : Int} (p : rl x l h) (a : -2147483648 ≤ l) (b : h ≤ 2147483647) : x.toInt32.toInt = x.toInt := by
  unfold rl at *
  rw [Int64.toInt_toInt32, bm32 (by omega) (by omega)]
theorem rg_b8 {x : Int32} : rg x.toInt8.toInt32 (-128) 127 := by
  unfold rg
  rw [Int8.toInt_toInt32]
  have h1 := x.toInt8.le_toInt
  have h2 := x.toInt8.toInt_lt
  omega
theorem rg_b16 {x : Int32} : rg x.toInt16.toInt32 (-32768) 32767 := by
  unfold rg
  rw [Int16.toInt_toInt32]
  have h1 := x.toInt16.le_toInt
  have h2 := x.toInt16.toInt_lt
  omega
theorem lgc_lt {x y : Int64} : lg_cmp x y < 0 ↔ x < y := (in_cmp x y).1
theorem lgc_gt {x y : Int64} : 0 < lg_cmp x y ↔ y < x := (in_cmp x y).2
theorem lgc_le {x y : Int64} : lg_cmp x y ≤ 0 ↔ x ≤ y := by
  rw [← Int32.not_lt, lgc_gt, Int64.not_lt]
theorem lgc_ge {x y : Int64} : 0 ≤ lg_cmp x y ↔ y ≤ x := by
  rw [← Int32.not_lt, lgc_lt, Int64.not_lt]
theorem lgc_eq {x y : Int64} : lg_cmp x y = 0 ↔ x = y := by
  rcases lgc_cases x y with ⟨e, h⟩ | ⟨e, h⟩ | ⟨e, h⟩
  · rw [e]
    exact iff_of_false (by decide) (fun q => by subst q; omega)
  · rw [e]
    exact iff_of_true rfl h
  · rw [e]
    exact iff_of_false (by decide) (fun q => by subst q; omega)
theorem in_rg {i : Int32} {l h : Int} {n : Nat} (p : rg i l h) (a : 0 ≤ l) (b : h < n) : sx_in i n = true := by
  obtain ⟨p1, p2⟩ := p
  have h0 : ¬ i < 0 := by
    rw [Int32.lt_iff_toInt_lt]
    have : (0 : Int32).toInt = 0 := rfl
    omega
  have h1 : i.toNatClampNeg < n := by
    have e : i.toNatClampNeg = i.toInt.toNat := rfl
    omega
  unfold sx_in
  simp [h0, h1]
theorem rg_mul12 {x y : Int32} {l h l2 h2 : Int} (p : rg x l h) (q : rg y l2 h2) (c : (decide (0 ≤ l) && decide (h ≤ 1000000) && decide (1 ≤ l2) && decide (h2 ≤ 2)) = true) : (y.toInt = 1 ∧ (x * y).toInt = x.toInt) ∨ (y.toInt = 2 ∧ (x * y).toInt = 2 * x.toInt) := by
  simp only [Bool.and_eq_true, decide_eq_true_eq] at c
  obtain ⟨⟨⟨c1, c2⟩, c3⟩, c4⟩ := c
  unfold rg at p q
  have e : y.toInt = 1 ∨ y.toInt = 2 := by omega
  rw [Int32.toInt_mul]
  rcases e with e | e
  · left
    rw [e, bm32 (by omega) (by omega)]
    omega
  · right
    rw [e, bm32 (by omega) (by omega)]
    omega
theorem ne_ti {x y : Int32} (h : ¬ x = y) : ¬ x.toInt = y.toInt := fun q => h (Int32.toInt_inj.mp q)
theorem ne_til {x y : Int64} (h : ¬ x = y) : ¬ x.toInt = y.toInt := fun q => h (Int64.toInt_inj.mp q)
theorem in_om {i : Int32} {n : Nat} (a : 0 ≤ i.toInt) (b : i.toInt < n) : sx_in i n = true := in_rg (l := i.toInt) (h := i.toInt) ⟨Int.le_refl _, Int.le_refl _⟩ a b
theorem in_inv {i : Int32} {n : Nat} (h : sx_in i n = true) (c : 0 < n) : rg i 0 (n - 1) := by
  unfold sx_in at h
  simp only [Bool.and_eq_true, decide_eq_true_eq] at h
  have h1 := h.1
  rw [Int32.lt_iff_toInt_lt, show (0 : Int32).toInt = 0 from rfl] at h1
  have e : i.toNatClampNeg = i.toInt.toNat := rfl
  unfold rg
  omega
theorem in_rgm {i : Int32} {l h : Int} {n m : Nat} (p : rg i l h) (a : 0 ≤ l) (b : h < m) (c : m ≤ n) : sx_in i n = true := in_rg p a (by omega)
theorem bl_rg {x : Int32} {l h : Int} (p : rg x l h) (a : 0 ≤ l) (b : h ≤ 1) : sv_bl x = true := by
  have e : x.toInt = 0 ∨ x.toInt = 1 := by
    unfold rg at p
    omega
  rcases e with e | e
  · rw [Int32.toInt_inj.mp (show x.toInt = (0 : Int32).toInt from e)]; rfl
  · rw [Int32.toInt_inj.mp (show x.toInt = (1 : Int32).toInt from e)]; rfl
theorem cpo_rg {s c : Int32} {l h l2 h2 : Int} {m n : Nat} (p : rg s l h) (q : rg c l2 h2) (a : 0 ≤ l) (b : 0 ≤ l2) (e : h + h2 ≤ m) (w : m ≤ n) : sv_cpo s c n = true := by
  obtain ⟨p1, p2⟩ := p
  obtain ⟨q1, q2⟩ := q
  have z : (0 : Int32).toInt = 0 := rfl
  have h0 : ¬ s < 0 := by rw [Int32.lt_iff_toInt_lt]; omega
  have h1 : ¬ c < 0 := by rw [Int32.lt_iff_toInt_lt]; omega
  have h3 : s.toNatClampNeg + c.toNatClampNeg ≤ n := by
    have e1 : s.toNatClampNeg = s.toInt.toNat := rfl
    have e2 : c.toNatClampNeg = c.toInt.toNat := rfl
    omega
  unfold sv_cpo
  simp [h0, h1, h3]
/-! walking -/
theorem sf_some {A : Type} {P : A → Prop} {a : A} (h : P a) : Sg P (some a) := ⟨a, rfl, h⟩
theorem sf_ite {A : Type} {P : A → Prop} {c : Prop} [Decidable c] {a b : Option A} (h1 : c → Sg P a) (h2 : ¬ c → Sg P b) : Sg P (if c then a else b) := by
  by_cases h : c
  · rw [if_pos h]; exact h1 h
  · rw [if_neg h]; exact h2 h
theorem sf_p {A : Type} {P : A → Prop} {c : Prop} [Decidable c] {a b : Option A} (h : c) (h1 : Sg P a) : Sg P (if c then a else b) := by
  rw [if_pos h]; exact h1
theorem sf_let {A B : Type} {P : B → Prop} {e : A} {f : A → Option B} (h : ∀ x, x = e → Sg P (f x)) : Sg P (sx_let e f) := h e rfl
theorem sf_iteb {A B : Type} {P : B → Prop} {c : Prop} [Decidable c] {a b : Option A} {f : A → Option B} (h1 : c → Sg P (a.bind f)) (h2 : ¬ c → Sg P (b.bind f)) : Sg P ((if c then a else b).bind f) := by
  by_cases h : c
  · rw [if_pos h]; exact h1 h
  · rw [if_neg h]; exact h2 h
theorem sf_pb {A B : Type} {P : B → Prop} {c : Prop} [Decidable c] {a b : Option A} {f : A → Option B} (h : c) (h1 : Sg P (a.bind f)) : Sg P ((if c then a else b).bind f) := by
  rw [if_pos h]; exact h1
theorem sf_letb {A B C : Type} {P : C → Prop} {e : A} {g : A → Option B} {f : B → Option C} (h : ∀ x, x = e → Sg P ((g x).bind f)) : Sg P ((sx_let e g).bind f) := h e rfl
theorem sf_someb {A B : Type} {P : B → Prop} {a : A} {f : A → Option B} (h : Sg P (f a)) : Sg P ((some a).bind f) := h
theorem sf_assoc {A B C : Type} {P : C → Prop} {o : Option A} {g : A → Option B} {f : B → Option C} (h : Sg P (o.bind (fun a => (g a).bind f))) : Sg P ((o.bind g).bind f) := by
  cases o with
  | none => exact h
  | some a => exact h
theorem sf_b {A B : Type} {P : B → Prop} {Q : A → Prop} {o : Option A} {f : A → Option B} (h : Sg Q o) (k : ∀ a, Q a → Sg P (f a)) : Sg P (o.bind f) := by
  obtain ⟨a, rfl, q⟩ := h
  exact k a q
theorem sf_o {A B : Type} {P : B → Prop} {o : Option A} {c : A} {f : A → Option B} (h : o = some c) (k : Sg P (f c)) : Sg P (o.bind f) := by
  rw [h]; exact k
theorem sf_ob {A B C : Type} {P : C → Prop} {o : Option A} {c : A} {g : A → Option B} {f : B → Option C} (h : o = some c) (k : Sg P ((g c).bind f)) : Sg P ((o.bind g).bind f) := by
  rw [h]; exact k
theorem nn_Int32 (y : Int32) (h : 0 ≤ y.toInt) : 2 * y.toBitVec.toNat < 2 ^ 32 ∧ y.toInt = y.toBitVec.toNat := by
  have e : y.toInt = y.toBitVec.toInt := rfl
  rw [e, BitVec.toInt_eq_toNat_cond] at h ⊢
  have l := y.toBitVec.isLt
  split at h
  · rename_i q
    exact ⟨q, by rw [if_pos q]⟩
  · omega
theorem rg_andr {x y : Int32} {l h : Int} (q : rg y l h) (c : 0 ≤ l) : rg (x &&& y) 0 h := by
  obtain ⟨q1, q2⟩ := q
  obtain ⟨n1, n2⟩ := nn_Int32 y (by omega)
  have e : (x &&& y).toBitVec.toNat = x.toBitVec.toNat &&& y.toBitVec.toNat := by
    rw [Int32.toBitVec_and, BitVec.toNat_and]
  have le : x.toBitVec.toNat &&& y.toBitVec.toNat ≤ y.toBitVec.toNat := Nat.and_le_right
  have t : (x &&& y).toInt = (x &&& y).toBitVec.toNat := BitVec.toInt_eq_toNat_of_lt (by rw [e]; omega)
  unfold rg
  rw [t, e]
  omega
theorem rg_andl {x y : Int32} {l h : Int} (q : rg x l h) (c : 0 ≤ l) : rg (x &&& y) 0 h := by
  obtain ⟨q1, q2⟩ := q
  obtain ⟨n1, n2⟩ := nn_Int32 x (by omega)
  have e : (x &&& y).toBitVec.toNat = x.toBitVec.toNat &&& y.toBitVec.toNat := by
    rw [Int32.toBitVec_and, BitVec.toNat_and]
  have le : x.toBitVec.toNat &&& y.toBitVec.toNat ≤ x.toBitVec.toNat := Nat.and_le_left
  have t : (x &&& y).toInt = (x &&& y).toBitVec.toNat := BitVec.toInt_eq_toNat_of_lt (by rw [e]; omega)
  unfold rg
  rw [t, e]
  omega
theorem rg_or {x y : Int32} {l h l2 h2 H : Int} (n : Nat) (p : rg x l h) (q : rg y l2 h2) (c : (decide (0 ≤ l) && decide (0 ≤ l2) && decide (h < 2 ^ n) && decide (h2 < 2 ^ n) && decide (n ≤ 31) && decide (2 ^ n - 1 ≤ H)) = true) : rg (x ||| y) 0 H := by
  simp only [Bool.and_eq_true, decide_eq_true_eq] at c
  obtain ⟨⟨⟨⟨⟨c1, c2⟩, c3⟩, c4⟩, c5⟩, c6⟩ := c
  obtain ⟨p1, p2⟩ := p
  obtain ⟨q1, q2⟩ := q
  obtain ⟨m1, m2⟩ := nn_Int32 x (by omega)
  obtain ⟨n1, n2⟩ := nn_Int32 y (by omega)
  have e : (x ||| y).toBitVec.toNat = x.toBitVec.toNat ||| y.toBitVec.toNat := by
    rw [Int32.toBitVec_or, BitVec.toNat_or]
  have i1 : x.toBitVec.toNat < 2 ^ n := by
    have : ((x.toBitVec.toNat : Nat) : Int) < ((2 ^ n : Nat) : Int) := by push_cast; omega
    exact Int.ofNat_lt.mp this
  have i2 : y.toBitVec.toNat < 2 ^ n := by
    have : ((y.toBitVec.toNat : Nat) : Int) < ((2 ^ n : Nat) : Int) := by push_cast; omega
    exact Int.ofNat_lt.mp this
  have le := Nat.or_lt_two_pow i1 i2
  have le2 : 2 ^ n ≤ 2 ^ 31 := Nat.pow_le_pow_right (by decide) c5
  have t : (x ||| y).toInt = (x ||| y).toBitVec.toNat := BitVec.toInt_eq_toNat_of_lt (by rw [e]; omega)
  unfold rg
  rw [t, e]
  have : ((x.toBitVec.toNat ||| y.toBitVec.toNat : Nat) : Int) < ((2 ^ n : Nat) : Int) := Int.ofNat_lt.mpr le
  push_cast at this
  push_cast
  omega
theorem rg_shl8 {x : Int32} {l h : Int} (p : rg x l h) (a : (-2147483648) ≤ l * 256) (b : h * 256 ≤ 2147483647) : rg (x <<< ((8 : Int32) &&& 31)) (l * 256) (h * 256) := by
  have e : x <<< ((8 : Int32) &&& 31) = x * 256 := by
    refine Int32.toBitVec.inj ?_
    rw [Int32.toBitVec_shiftLeft, Int32.toBitVec_mul]
    show x.toBitVec <<< (8 : Nat) = _
    rw [BitVec.shiftLeft_eq_mul_twoPow]
    rfl
  rw [e]
  have q : (256 : Int32).toInt = 256 := rfl
  unfold rg at *
  rw [Int32.toInt_mul, q, bm32 (by omega) (by omega)]
  omega
theorem nn_Int64 (y : Int64) (h : 0 ≤ y.toInt) : 2 * y.toBitVec.toNat < 2 ^ 64 ∧ y.toInt = y.toBitVec.toNat := by
  have e : y.toInt = y.toBitVec.toInt := rfl
  rw [e, BitVec.toInt_eq_toNat_cond] at h ⊢
  have l := y.toBitVec.isLt
  split at h
  · rename_i q
    exact ⟨q, by rw [if_pos q]⟩
  · omega
theorem rl_andr {x y : Int64} {l h : Int} (q : rl y l h) (c : 0 ≤ l) : rl (x &&& y) 0 h := by
  obtain ⟨q1, q2⟩ := q
  obtain ⟨n1, n2⟩ := nn_Int64 y (by omega)
  have e : (x &&& y).toBitVec.toNat = x.toBitVec.toNat &&& y.toBitVec.toNat := by
    rw [Int64.toBitVec_and, BitVec.toNat_and]
  have le : x.toBitVec.toNat &&& y.toBitVec.toNat ≤ y.toBitVec.toNat := Nat.and_le_right
  have t : (x &&& y).toInt = (x &&& y).toBitVec.toNat := BitVec.toInt_eq_toNat_of_lt (by rw [e]; omega)
  unfold rl
  rw [t, e]
  omega
theorem rl_andl {x y : Int64} {l h : Int} (q : rl x l h) (c : 0 ≤ l) : rl (x &&& y) 0 h := by
  obtain ⟨q1, q2⟩ := q
  obtain ⟨n1, n2⟩ := nn_Int64 x (by omega)
  have e : (x &&& y).toBitVec.toNat = x.toBitVec.toNat &&& y.toBitVec.toNat := by
    rw [Int64.toBitVec_and, BitVec.toNat_and]
  have le : x.toBitVec.toNat &&& y.toBitVec.toNat ≤ x.toBitVec.toNat := Nat.and_le_left
  have t : (x &&& y).toInt = (x &&& y).toBitVec.toNat := BitVec.toInt_eq_toNat_of_lt (by rw [e]; omega)
  unfold rl
  rw [t, e]
  omega
theorem rl_or {x y : Int64} {l h l2 h2 H : Int} (n : Nat) (p : rl x l h) (q : rl y l2 h2) (c : (decide (0 ≤ l) && decide (0 ≤ l2) && decide (h < 2 ^ n) && decide (h2 < 2 ^ n) && decide (n ≤ 63) && decide (2 ^ n - 1 ≤ H)) = true) : rl (x ||| y) 0 H := by
  simp only [Bool.and_eq_true, decide_eq_true_eq] at c
  obtain ⟨⟨⟨⟨⟨c1, c2⟩, c3⟩, c4⟩, c5⟩, c6⟩ := c
  obtain ⟨p1, p2⟩ := p
  obtain ⟨q1, q2⟩ := q
  obtain ⟨m1, m2⟩ := nn_Int64 x (by omega)
  obtain ⟨n1, n2⟩ := nn_Int64 y (by omega)
  have e : (x ||| y).toBitVec.toNat = x.toBitVec.toNat ||| y.toBitVec.toNat := by
    rw [Int64.toBitVec_or, BitVec.toNat_or]
  have i1 : x.toBitVec.toNat < 2 ^ n := by
    have : ((x.toBitVec.toNat : Nat) : Int) < ((2 ^ n : Nat) : Int) := by push_cast; omega
    exact Int.ofNat_lt.mp this
  have i2 : y.toBitVec.toNat < 2 ^ n := by
    have : ((y.toBitVec.toNat : Nat) : Int) < ((2 ^ n : Nat) : Int) := by push_cast; omega
    exact Int.ofNat_lt.mp this
  have le := Nat.or_lt_two_pow i1 i2
  have le2 : 2 ^ n ≤ 2 ^ 63 := Nat.pow_le_pow_right (by decide) c5
  have t : (x ||| y).toInt = (x ||| y).toBitVec.toNat := BitVec.toInt_eq_toNat_of_lt (by rw [e]; omega)
  unfold rl
  rw [t, e]
  have : ((x.toBitVec.toNat ||| y.toBitVec.toNat : Nat) : Int) < ((2 ^ n : Nat) : Int) := Int.ofNat_lt.mpr le
  push_cast at this
  push_cast
  omega
theorem rl_shl16 {x : Int64} {l h : Int} (p : rl x l h) (a : (-9223372036854775808) ≤ l * 65536) (b : h * 65536 ≤ 9223372036854775807) : rl (x <<< ((16 : Int32).toInt64 &&& 63)) (l * 65536) (h * 65536) := by
  have e : x <<< ((16 : Int32).toInt64 &&& 63) = x * 65536 := by
    refine Int64.toBitVec.inj ?_
    rw [Int64.toBitVec_shiftLeft, Int64.toBitVec_mul]
    show x.toBitVec <<< (16 : Nat) = _
    rw [BitVec.shiftLeft_eq_mul_twoPow]
    rfl
  rw [e]
  have q : (65536 : Int64).toInt = 65536 := rfl
  unfold rl at *
  rw [Int64.toInt_mul, q, bm64 (by omega) (by omega)]
  omega
