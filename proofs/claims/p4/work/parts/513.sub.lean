/-! ONE TABLE OF RANGES OUT OF ANOTHER -/
theorem lk_mem {A : Type} {L : List (Nat × A)} {a : Nat} {x : A} (h : lk L a = some x) : (a, x) ∈ L := by
  induction L with
  | nil => cases h
  | cons q r ih =>
    unfold lk at h
    by_cases e : q.1 = a
    · rw [if_pos e] at h
      cases h
      subst e
      exact List.mem_cons_self
    · rw [if_neg e] at h
      exact List.mem_cons_of_mem _ (ih h)
/-- every range of the second table stands in the first, or is named -/
def subT (A1 : List (Nat × Int × Int)) (F1 : List (Nat × List (Nat × Int × Int))) (A2 : List (Nat × Int × Int)) (F2 : List (Nat × List (Nat × Int × Int))) (ex : List (Nat × Nat)) : Bool :=
  A2.all (fun q => match lk A1 q.1 with
    | some r => decide (q.2.1 ≤ r.1) && decide (r.2 ≤ q.2.2)
    | none => false) && F2.all (fun q => q.2.all (fun r => ex.contains (q.1, r.1) || inR (R_of A1 F1 q.1 r.1) r.2.1 r.2.2))
theorem sub_rg {A1 A2 : List (Nat × Int × Int)} {F1 F2 : List (Nat × List (Nat × Int × Int))} {ex : List (Nat × Nat)} (h : subT A1 F1 A2 F2 ex = true) {V : sv_V} (h1 : ∀ a k l h, R_of A1 F1 a k = some (l, h) → rg (V.1 a k) l h) (hx : ∀ q, q ∈ ex → ∀ l h, R_of A2 F2 q.1 q.2 = some (l, h) → rg (V.1 q.1 q.2) l h) : ∀ a k l h, R_of A2 F2 a k = some (l, h) → rg (V.1 a k) l h := by
  intro a k l hh e
  have e0 := e
  unfold subT at h
  rw [Bool.and_eq_true] at h
  obtain ⟨hA, hF⟩ := h
  unfold R_of at e
  cases ea : lk A2 a with
  | some r =>
    rw [ea] at e
    cases e
    have q := List.all_eq_true.mp hA _ (lk_mem ea)
    dsimp only at q
    cases e1 : lk A1 a with
    | none => rw [e1] at q; cases q
    | some r1 =>
      rw [e1] at q
      simp only [Bool.and_eq_true, decide_eq_true_eq] at q
      exact rg_m (h1 a k r1.1 r1.2 (by unfold R_of; rw [e1])) q.1 q.2
  | none =>
    rw [ea] at e
    cases ef : lk F2 a with
    | none => rw [ef] at e; cases e
    | some L =>
      rw [ef] at e
      have q := List.all_eq_true.mp (List.all_eq_true.mp hF _ (lk_mem ef)) _ (lk_mem e)
      dsimp only at q
      rw [Bool.or_eq_true] at q
      rcases q with q | q
      · exact hx (a, k) (List.contains_iff_mem.mp q) l hh e0
      · obtain ⟨x, y, e1, e2, e3⟩ := inR_e q
        exact rg_m (h1 a k x y e1) e2 e3
theorem u2_cg {V W V' : sv_V} (h1 : W.1 2 1 = V.1 2 1) (h3 : ∀ k, W.1 3 k = V.1 3 k) {l x : Int32} (h : F_X2_u2 l V = some (x, V')) : V' = V ∧ F_X2_u2 l W = some (x, W) := by
  unfold F_X2_u2 at h ⊢
  rw [h1, h3, h3]
  by_cases c1 : l < 0
  · rw [if_pos c1] at h ⊢
    cases h
    exact ⟨rfl, rfl⟩
  · rw [if_neg c1] at h ⊢
    by_cases c2 : l + 2 ≤ V.1 2 1
    · rw [if_pos c2] at h ⊢
      obtain ⟨g1, h⟩ := sx_grd h
      obtain ⟨g2, h⟩ := sx_grd h
      rw [if_pos g1, if_pos g2]
      cases h
      exact ⟨rfl, rfl⟩
    · rw [if_neg c2] at h ⊢
      cases h
      exact ⟨rfl, rfl⟩
theorem entry_cg {V W V' : sv_V} (h1 : W.1 2 1 = V.1 2 1) (h3 : ∀ k, W.1 3 k = V.1 3 k) {i j : Int32} {x : Int64} (h : F_X4_entry i j V = some (x, V')) : V' = V ∧ F_X4_entry i j W = some (x, W) := by
  unfold F_X4_entry F_X2_u4 at h ⊢
  obtain ⟨⟨y, V1⟩, g0, h⟩ := sx_bnd h
  obtain ⟨⟨a, V2⟩, g2, g1⟩ := sx_bnd g0
  clear g0
  obtain ⟨rfl, w2⟩ := u2_cg h1 h3 g2
  obtain ⟨⟨b, V3⟩, g3, g4⟩ := sx_bnd g1
  clear g1
  obtain ⟨rfl, w3⟩ := u2_cg h1 h3 g3
  simp only [Option.some.injEq, Prod.mk.injEq] at g4
  obtain ⟨rfl, rfl⟩ := g4
  simp only [Option.some.injEq, Prod.mk.injEq] at h
  obtain ⟨rfl, rfl⟩ := h
  refine ⟨rfl, ?_⟩
  rw [w2, Option.bind_some]
  dsimp only
  rw [w3, Option.bind_some]
  rfl
/-- the first n entries of the directory name bytes that are there -/
def LRn (n : Int) (V : sv_V) : Prop := ∀ i : Int32, 0 ≤ i.toInt → i.toInt < n → ∀ a b, F_X4_entry i 2 V = some (a, V) → F_X4_entry i 3 V = some (b, V) → a.toInt ≤ 12000 ∧ b.toInt ≤ 12000
def LR (V : sv_V) : Prop := LRn (V.1 2 5).toInt V
theorem LR_fr {V W : sv_V} (h1 : W.1 2 1 = V.1 2 1) (h5 : W.1 2 5 = V.1 2 5) (h3 : ∀ k, W.1 3 k = V.1 3 k) (h : LR V) : LR W := by
  intro i h0 hi a b ea eb
  rw [h5] at hi
  exact h i h0 hi a b (entry_cg h1.symm (fun k => (h3 k).symm) ea).2 (entry_cg h1.symm (fun k => (h3 k).symm) eb).2
