/-! WHAT HOLDS AT THE START -/
def PS (g : Nat → Nat → Int32) (n : Nat) (M : sx_M) : Prop := M.1 = n ∧ ∀ a k, 1000 ≤ a → M.2.1 a k = g a k
theorem ps_nw {g : Nat → Nat → Int32} {n : Nat} {M : sx_M} (hn : n < 1000) (h : PS g n M) : PS g (n + 1) (sx_nw M) := ⟨by show M.1 + 1 = n + 1; rw [h.1], fun a k ha => by
  show (if a = M.1 then 0 else M.2.1 a k) = g a k
  rw [h.1, if_neg (by omega)]
  exact h.2 a k ha⟩
theorem ps_nm {g : Nat → Nat → Int32} {n N : Nat} {M : sx_M} (hn : n + (1 + N) ≤ 1000) (h : PS g n M) : PS g (n + (1 + N)) (sx_nm M N) := ⟨by show M.1 + (1 + N) = n + (1 + N); rw [h.1], fun a k ha => by
  show (if M.1 ≤ a ∧ a < M.1 + (1 + N) then 0 else M.2.1 a k) = g a k
  rw [h.1, if_neg (by omega)]
  exact h.2 a k ha⟩
theorem ps_sR {g : Nat → Nat → Int32} {n a k : Nat} {x : Option Nat} {M : sx_M} (h : PS g n M) : PS g n (sx_sR M a k x) := h
theorem ps_sI {g : Nat → Nat → Int32} {n a k : Nat} {x : Int32} {M : sx_M} (ha : a < 1000) (h : PS g n M) : PS g n (sx_sI M a k x) := ⟨h.1, fun b j hb => by
  show (if b = a ∧ j = k then x else M.2.1 b j) = g b j
  rw [if_neg (by omega)]
  exact h.2 b j hb⟩
theorem e_0_S {g : Nat → Nat → Int32} {M : sx_M} (h : PS g 3 M) : PS g 16 (e_0 M) := ps_sR (ps_nm (by decide) (ps_sR (ps_nw (by decide) (ps_sR (ps_nw (by decide) (ps_sR (ps_nw (by decide) (ps_sR (ps_nw (by decide) (h))))))))))
theorem e_1_S {g : Nat → Nat → Int32} {M : sx_M} (h : PS g 18 M) : PS g 27 (e_1 M) := ps_sI (by decide) (ps_sR (ps_nw (by decide) (ps_sR (ps_nw (by decide) (ps_sR (ps_nw (by decide) (ps_sR (ps_nw (by decide) (ps_sR (ps_nw (by decide) (ps_sR (ps_nw (by decide) (ps_sR (ps_nw (by decide) (ps_sR (ps_nw (by decide) (ps_sR (ps_nw (by decide) (h)))))))))))))))))))
theorem e_2_S {g : Nat → Nat → Int32} {M : sx_M} (h : PS g 17 M) : PS g 29 (e_2 M) := ps_sR (ps_sR (ps_nw (by decide) (ps_sR (ps_nw (by decide) (ps_sR (e_1_S (ps_nw (by decide) (h))))))))
theorem e_3_S {g : Nat → Nat → Int32} {M : sx_M} (h : PS g 30 M) : PS g 30 (e_3 M) := ps_sR (ps_sR (h))
theorem e_4_S {g : Nat → Nat → Int32} {M : sx_M} (h : PS g 35 M) : PS g 44 (e_4 M) := ps_sI (by decide) (ps_sR (ps_nw (by decide) (ps_sR (ps_nw (by decide) (ps_sR (ps_nw (by decide) (ps_sR (ps_nw (by decide) (ps_sR (ps_nw (by decide) (ps_sR (ps_nw (by decide) (ps_sR (ps_nw (by decide) (ps_sR (ps_nw (by decide) (ps_sR (ps_nw (by decide) (h)))))))))))))))))))
theorem e_5_S {g : Nat → Nat → Int32} {M : sx_M} (h : PS g 32 M) : PS g 45 (e_5 M) := ps_sR (ps_nw (by decide) (ps_sR (e_4_S (ps_nw (by decide) (ps_sR (ps_nw (by decide) (ps_sR (ps_nw (by decide) (h)))))))))
theorem e_6_S {g : Nat → Nat → Int32} {M : sx_M} (h : PS g 49 M) : PS g 58 (e_6 M) := ps_sI (by decide) (ps_sR (ps_nw (by decide) (ps_sR (ps_nw (by decide) (ps_sR (ps_nw (by decide) (ps_sR (ps_nw (by decide) (ps_sR (ps_nw (by decide) (ps_sR (ps_nw (by decide) (ps_sR (ps_nw (by decide) (ps_sR (ps_nw (by decide) (ps_sR (ps_nw (by decide) (h)))))))))))))))))))
theorem e_7_S {g : Nat → Nat → Int32} {M : sx_M} (h : PS g 46 M) : PS g 59 (e_7 M) := ps_sR (ps_nw (by decide) (ps_sR (e_6_S (ps_nw (by decide) (ps_sR (ps_nw (by decide) (ps_sR (ps_nw (by decide) (h)))))))))
theorem e_8_S {g : Nat → Nat → Int32} {M : sx_M} (h : PS g 61 M) : PS g 69 (e_8 M) := ps_sR (ps_nw (by decide) (ps_sR (ps_nw (by decide) (ps_sR (ps_nw (by decide) (ps_sR (ps_nw (by decide) (ps_sR (ps_nw (by decide) (ps_sR (ps_nw (by decide) (ps_sR (ps_nw (by decide) (ps_sR (ps_nw (by decide) (h))))))))))))))))
theorem e_9_S {g : Nat → Nat → Int32} {M : sx_M} (h : PS g 71 M) : PS g 73 (e_9 M) := ps_sR (ps_nw (by decide) (ps_sR (ps_nw (by decide) (h))))
theorem e_10_S {g : Nat → Nat → Int32} {M : sx_M} (h : PS g 74 M) : PS g 82 (e_10 M) := ps_sR (ps_nw (by decide) (ps_sR (ps_nw (by decide) (ps_sR (ps_nw (by decide) (ps_sR (ps_nw (by decide) (ps_sR (ps_nw (by decide) (ps_sR (ps_nw (by decide) (ps_sR (ps_nw (by decide) (ps_sR (ps_nw (by decide) (h))))))))))))))))
theorem e_11_S {g : Nat → Nat → Int32} {M : sx_M} (h : PS g 83 M) : PS g 92 (e_11 M) := ps_sI (by decide) (ps_sR (ps_nw (by decide) (ps_sR (ps_nw (by decide) (ps_sR (ps_nw (by decide) (ps_sR (ps_nw (by decide) (ps_sR (ps_nw (by decide) (ps_sR (ps_nw (by decide) (ps_sR (ps_nw (by decide) (ps_sR (ps_nw (by decide) (ps_sR (ps_nw (by decide) (h)))))))))))))))))))
theorem e_12_S {g : Nat → Nat → Int32} {M : sx_M} (h : PS g 70 M) : PS g 93 (e_12 M) := ps_sR (ps_sR (ps_sI (by decide) (ps_sR (ps_sR (ps_nw (by decide) (ps_sR (e_11_S (ps_nw (by decide) (ps_sR (e_10_S (ps_nw (by decide) (ps_sR (e_9_S (ps_nw (by decide) (h)))))))))))))))
theorem e_13_S {g : Nat → Nat → Int32} {M : sx_M} (h : PS g 94 M) : PS g 103 (e_13 M) := ps_sI (by decide) (ps_sR (ps_nw (by decide) (ps_sR (ps_nw (by decide) (ps_sR (ps_nw (by decide) (ps_sR (ps_nw (by decide) (ps_sR (ps_nw (by decide) (ps_sR (ps_nw (by decide) (ps_sR (ps_nw (by decide) (ps_sR (ps_nw (by decide) (ps_sR (ps_nw (by decide) (h)))))))))))))))))))
theorem e_14_S {g : Nat → Nat → Int32} {M : sx_M} (h : PS g 104 M) : PS g 113 (e_14 M) := ps_sI (by decide) (ps_sR (ps_nw (by decide) (ps_sR (ps_nw (by decide) (ps_sR (ps_nw (by decide) (ps_sR (ps_nw (by decide) (ps_sR (ps_nw (by decide) (ps_sR (ps_nw (by decide) (ps_sR (ps_nw (by decide) (ps_sR (ps_nw (by decide) (ps_sR (ps_nw (by decide) (h)))))))))))))))))))
theorem e_15_S {g : Nat → Nat → Int32} {M : sx_M} (h : PS g 114 M) : PS g 123 (e_15 M) := ps_sI (by decide) (ps_sR (ps_nw (by decide) (ps_sR (ps_nw (by decide) (ps_sR (ps_nw (by decide) (ps_sR (ps_nw (by decide) (ps_sR (ps_nw (by decide) (ps_sR (ps_nw (by decide) (ps_sR (ps_nw (by decide) (ps_sR (ps_nw (by decide) (ps_sR (ps_nw (by decide) (h)))))))))))))))))))
theorem e_16_S {g : Nat → Nat → Int32} {M : sx_M} (h : PS g 124 M) : PS g 133 (e_16 M) := ps_sI (by decide) (ps_sR (ps_nw (by decide) (ps_sR (ps_nw (by decide) (ps_sR (ps_nw (by decide) (ps_sR (ps_nw (by decide) (ps_sR (ps_nw (by decide) (ps_sR (ps_nw (by decide) (ps_sR (ps_nw (by decide) (ps_sR (ps_nw (by decide) (ps_sR (ps_nw (by decide) (h)))))))))))))))))))
theorem e_17_S {g : Nat → Nat → Int32} {M : sx_M} (h : PS g 134 M) : PS g 143 (e_17 M) := ps_sI (by decide) (ps_sR (ps_nw (by decide) (ps_sR (ps_nw (by decide) (ps_sR (ps_nw (by decide) (ps_sR (ps_nw (by decide) (ps_sR (ps_nw (by decide) (ps_sR (ps_nw (by decide) (ps_sR (ps_nw (by decide) (ps_sR (ps_nw (by decide) (ps_sR (ps_nw (by decide) (h)))))))))))))))))))
theorem e_18_S {g : Nat → Nat → Int32} {M : sx_M} (h : PS g 31 M) : PS g 143 (e_18 M) := ps_sR (e_17_S (ps_nw (by decide) (ps_sR (e_16_S (ps_nw (by decide) (ps_sR (e_15_S (ps_nw (by decide) (ps_sR (e_14_S (ps_nw (by decide) (ps_sR (e_13_S (ps_nw (by decide) (ps_sR (e_12_S (ps_nw (by decide) (ps_sR (ps_sR (ps_sR (e_8_S (ps_nw (by decide) (ps_sR (ps_nw (by decide) (ps_sR (e_7_S (ps_nw (by decide) (ps_sR (e_5_S (ps_nw (by decide) (h)))))))))))))))))))))))))))))))
theorem e_19_S {g : Nat → Nat → Int32} {M : sx_M} (h : PS g 144 M) : PS g 145 (e_19 M) := ps_sR (ps_nw (by decide) (h))
theorem e_20_S {g : Nat → Nat → Int32} {M : sx_M} (h : PS g 1 M) : PS g 146 (e_20 M) := ps_sR (ps_nw (by decide) (ps_sR (e_19_S (ps_nw (by decide) (ps_sR (e_18_S (ps_nw (by decide) (ps_sR (e_3_S (ps_nw (by decide) (e_2_S (ps_nw (by decide) (ps_sR (e_0_S (ps_nw (by decide) (ps_sR (ps_nw (by decide) (h))))))))))))))))))
theorem e_21_S {g : Nat → Nat → Int32} {M : sx_M} (h : PS g 147 M) : PS g 206 (e_21 M) := ps_sR (ps_nw (by decide) (ps_sR (ps_nw (by decide) (ps_sR (ps_nw (by decide) (ps_sR (ps_nw (by decide) (ps_sR (ps_nw (by decide) (ps_sR (ps_nw (by decide) (ps_sR (ps_nw (by decide) (ps_sR (ps_nw (by decide) (ps_sR (ps_nw (by decide) (ps_sR (ps_nw (by decide) (ps_sR (ps_nw (by decide) (ps_sR (ps_nw (by decide) (ps_sR (ps_nw (by decide) (ps_sR (ps_nw (by decide) (ps_sR (ps_nw (by decide) (ps_sR (ps_nw (by decide) (ps_sR (ps_nw (by decide) (ps_sR (ps_nw (by decide) (ps_sR (ps_nw (by decide) (ps_sR (ps_nw (by decide) (ps_sR (ps_nw (by decide) (ps_sI (by decide) (ps_sR (ps_nw (by decide) (ps_sR (ps_nw (by decide) (ps_sR (ps_nw (by decide) (ps_sR (ps_nw (by decide) (ps_sR (ps_nw (by decide) (ps_sR (ps_nw (by decide) (ps_sR (ps_nw (by decide) (ps_sR (ps_nw (by decide) (ps_sR (ps_nw (by decide) (ps_sR (ps_nw (by decide) (ps_sR (ps_nw (by decide) (ps_sR (ps_nw (by decide) (ps_sR (ps_nw (by decide) (ps_sR (ps_nw (by decide) (ps_sR (ps_nw (by decide) (ps_sR (ps_nw (by decide) (ps_sR (ps_nw (by decide) (ps_sR (ps_nw (by decide) (ps_sR (ps_nw (by decide) (ps_sR (ps_nw (by decide) (ps_sR (ps_nw (by decide) (ps_sR (ps_nw (by decide) (ps_sR (ps_nw (by decide) (ps_sR (ps_nw (by decide) (ps_sR (ps_nw (by decide) (ps_sR (ps_nw (by decide) (ps_sR (ps_nw (by decide) (ps_sR (ps_nw (by decide) (ps_sR (ps_nw (by decide) (ps_sR (ps_nw (by decide) (ps_sR (ps_nw (by decide) (ps_sR (ps_nw (by decide) (ps_sR (ps_nw (by decide) (ps_sR (ps_nw (by decide) (ps_sR (ps_nw (by decide) (ps_sR (ps_nw (by decide) (ps_sR (ps_nw (by decide) (ps_sR (ps_nw (by decide) (h)))))))))))))))))))))))))))))))))))))))))))))))))))))))))))))))))))))))))))))))))))))))))))))))))))))))))))))))))))))))
theorem lw_ps (xs : Nat → Int32) : PS (lw_M0 xs).2.1 206 (lw_Me xs) := e_21_S (ps_nw (by decide) (e_20_S (ps_nw (by decide) ⟨rfl, fun _ _ _ => rfl⟩)))
theorem V0_S (xs : Nat → Int32) {a : Nat} (k : Nat) (h : 1001 ≤ a) : (lw_V0 xs).1 a k = (lw_stat.getD (a - 1001) []).getD k 0 := by
  refine ((lw_ps xs).2 a k (by omega)).trans ?_
  show (if a = 1000 then xs k else if 1001 ≤ a then (lw_stat.getD (a - 1001) []).getD k 0 else 0) = _
  rw [if_neg (by omega), if_pos h]
theorem wl_in (w : List (Nat × Nat × Int32)) (a k : Nat) : wl w a k = 0 ∨ ∃ q ∈ w, q.1 = a ∧ wl w a k = q.2.2 := by
  induction w with
  | nil => exact Or.inl rfl
  | cons q r ih =>
    unfold wl
    by_cases h : q.1 = a ∧ q.2.1 = k
    · rw [if_pos h]
      exact Or.inr ⟨q, List.mem_cons_self, h.1, rfl⟩
    · rw [if_neg h]
      rcases ih with e | ⟨z, hz, e⟩
      · exact Or.inl e
      · exact Or.inr ⟨z, List.mem_cons_of_mem _ hz, e⟩
theorem gd_in (L : List Int32) (k : Nat) : L.getD k 0 = 0 ∨ L.getD k 0 ∈ L := by
  by_cases h : k < L.length
  · right
    rw [List.getD_eq_getElem?_getD, List.getElem?_eq_getElem h]
    exact List.getElem_mem h
  · left
    rw [List.getD_eq_getElem?_getD, List.getElem?_eq_none (by omega)]
    rfl
def inL (x : Int32) (l h : Int) : Bool := decide (l ≤ x.toInt) && decide (x.toInt ≤ h)
theorem inL_rg {x : Int32} {l h : Int} (e : inL x l h = true) : rg x l h := by
  unfold inL at e
  rw [Bool.and_eq_true, decide_eq_true_eq, decide_eq_true_eq] at e
  exact e
def ckA (q : Nat × Int × Int) : Bool := inL 0 q.2.1 q.2.2 && (if q.1 < 206 then lw_wr.all (fun w => w.1 != q.1 || inL w.2.2 q.2.1 q.2.2) else decide (1001 ≤ q.1) && (lw_stat.getD (q.1 - 1001) []).all (fun x => inL x q.2.1 q.2.2))
def ckF (q : Nat × List (Nat × Int × Int)) : Bool := q.2.all (fun r => if q.1 < 206 then inL (wl lw_wr q.1 r.1) r.2.1 r.2.2 else decide (1001 ≤ q.1) && inL ((lw_stat.getD (q.1 - 1001) []).getD r.1 0) r.2.1 r.2.2)
theorem V0_rg (xs : Nat → Int32) {A : List (Nat × Int × Int)} {F : List (Nat × List (Nat × Int × Int))} (c : (A.all ckA && F.all ckF) = true) : ∀ a k l h, R_of A F a k = some (l, h) → rg ((lw_V0 xs).1 a k) l h := by
  intro a k l h e
  rw [Bool.and_eq_true, List.all_eq_true, List.all_eq_true] at c
  unfold R_of at e
  cases h1 : lk A a with
  | some z =>
    rw [h1] at e
    have e : z = (l, h) := Option.some.inj e
    subst e
    have q := c.1 _ (lk_mem h1)
    unfold ckA at q
    rw [Bool.and_eq_true] at q
    obtain ⟨q0, q1⟩ := q
    dsimp only at q0 q1
    by_cases ha : a < 206
    · rw [if_pos ha] at q1
      rw [V0_I xs k ha]
      rcases wl_in lw_wr a k with e | ⟨w, hw, e1, e2⟩
      · rw [e]
        exact inL_rg q0
      · rw [e2]
        have z := List.all_eq_true.mp q1 w hw
        rw [Bool.or_eq_true] at z
        rcases z with z | z
        · simp [e1] at z
        · exact inL_rg z
    · rw [if_neg ha, Bool.and_eq_true, decide_eq_true_eq] at q1
      rw [V0_S xs k q1.1]
      rcases gd_in (lw_stat.getD (a - 1001) []) k with e | e
      · rw [e]
        exact inL_rg q0
      · exact inL_rg (List.all_eq_true.mp q1.2 _ e)
  | none =>
    rw [h1] at e
    dsimp only at e
    cases h2 : lk F a with
    | none =>
      rw [h2] at e
      cases e
    | some L =>
      rw [h2] at e
      dsimp only at e
      have q := List.all_eq_true.mp (c.2 _ (lk_mem h2)) (k, l, h) (lk_mem e)
      dsimp only at q
      by_cases ha : a < 206
      · rw [if_pos ha] at q
        rw [V0_I xs k ha]
        exact inL_rg q
      · rw [if_neg ha, Bool.and_eq_true, decide_eq_true_eq] at q
        rw [V0_S xs k q.1]
        exact inL_rg q.2
set_option maxRecDepth 20000 in
theorem bi_0 (N : Nat) (xs : Nat → Int32) : BI N (lw_V0 xs) := by
  refine ⟨⟨0, by omega, ?_, ?_, fun j hj => by omega⟩, Or.inl ⟨V0_rg xs (by decide +kernel), fun _ _ _ => ⟨rfl, rfl, rfl⟩, ⟨31, by decide, (V0_mem xs).1⟩, ⟨82, by decide, (V0_mem xs).2⟩, ?_, X1_sup⟩, Or.inl ⟨V0_rg xs (by decide +kernel), fun _ _ _ => ⟨rfl, rfl, rfl⟩, ⟨31, by decide, (V0_mem xs).1⟩, ⟨82, by decide, (V0_mem xs).2⟩, ?_, sup_rU⟩⟩
  · rw [V0_I xs _ (by decide)]
    decide +kernel
  · rw [V0_I xs _ (by decide)]
    decide +kernel
  · intro b hb k hk
    exfalso
    have : (lw_V0 xs).1 b 10 = 0 := by
      unfold ocl at hb
      simp only [List.mem_cons, List.not_mem_nil, or_false] at hb
      rcases hb with rfl | rfl | rfl | rfl | rfl <;> (rw [V0_I xs _ (by decide)]; decide +kernel)
    rw [this] at hk
    have : (0 : Int32).toInt = 0 := rfl
    omega
  · have z0 : (0 : Int32).toInt = 0 := rfl
    have zl : (0 : Int64).toInt = 0 := rfl
    have o : ∀ e : Nat → Int32, OK3 e 0 0 := fun e => ⟨fun c hc => by omega, Or.inl ⟨rfl, rfl⟩⟩
    have v : ∀ a k, a < 206 → wl lw_wr a k = 0 → (lw_V0 xs).1 a k = 0 := fun a k h e => by
      rw [V0_I xs k h]
      exact e
    refine ⟨fun k hk => ?_, fun k => ?_, ?_, fun L hL => ?_, Or.inl (v _ _ (by decide) (by decide +kernel))⟩
    · rw [v 146 30 (by decide) (by decide +kernel)] at hk
      omega
    · rw [V0_L, V0_L, zl]
      decide
    · unfold OM
      rw [v 146 129 (by decide) (by decide +kernel), v 146 128 (by decide) (by decide +kernel)]
      exact o _
    · rw [V0_0 xs L (a := 191) (by decide) (by decide +kernel), V0_0 xs L (a := 190) (by decide) (by decide +kernel)]
      exact o _
