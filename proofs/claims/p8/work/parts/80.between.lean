/-! BY HAND: between two calls -/
theorem feed_alike2 {N : Nat} (hN : 9 ≤ N) {V : sv_V} (hV : I_feed V) (a : Int32) (b : Int64) : ∃ x V1 V2, F_X11_feed N a b V = some (x, V1) ∧ F_X12_feed N a b V1 = some (x, V2) ∧ I_feed V2 ∧ sv_eq [(0, some 1), (1, none)] V V1 ∧ sv_eq [(146, some 1), (147, none)] V1 V2 ∧ (∀ j, V1.1 1 j = V.1 1 j ∨ rg (V1.1 1 j) (-128) 127) ∧ (∀ j, V2.1 147 j = V1.1 147 j ∨ rg (V2.1 147 j) (-128) 127) := by
  obtain ⟨n, hn, c1, c2, hb⟩ := hV
  unfold F_X11_feed
  by_cases h1 : a < 1
  · refine ⟨-2, V, V, if_pos h1, ?_, ⟨n, hn, c1, c2, hb⟩, sv_eq_rf, sv_eq_rf, fun _ => Or.inl rfl, fun _ => Or.inl rfl⟩
    unfold F_X12_feed
    rw [F_in, Option.bind_some]
    dsimp only
    rw [if_neg (show ¬ ((1 : Int64) ≤ a.toInt64 ∧ a.toInt64 ≤ 8) from fun h => absurd (toI64_le (x := 1) (y := a) |>.mp h.1) (Int32.not_le.mpr h1)), if_pos rfl]
  rw [if_neg h1]
  by_cases h8 : a ≤ 8
  · rw [if_pos h8]
    obtain ⟨k, hk8, rfl⟩ : ∃ k, k ≤ 8 ∧ a = nI k := nI_of2 (M := 8) (n := 8) (by decide) (fun h => h1 (Int32.lt_of_lt_of_le h (by decide))) h8
    have hk1 : 1 ≤ k := by
      rcases Nat.lt_or_ge k 1 with q | q
      · exact absurd (by rw [show k = 0 by omega]; decide) h1
      · exact q
    have hin : (1 : Int64) ≤ (nI k).toInt64 ∧ (nI k).toInt64 ≤ 8 := ⟨(toI64_le (x := 1)).mpr (Int32.not_lt.mp h1), (toI64_le (y := 8)).mpr h8⟩
    rw [c1, ll_add]
    by_cases hfull : nI (n + k) ≤ 12000
    · have hnk : n + k ≤ 12000 := (nI_leI (a := n + k) (b := 12000) (by omega) (by decide)).mp hfull
      rw [if_pos hfull]
      dsimp only [sx_let]
      rw [fd_class]
      obtain ⟨W, w1, w2, w3, w4, w5, w6⟩ := fd_loop (o := 0) (c := 1) (by decide) b k n N V (by omega) hnk c1
      have cm : W.1 146 1 = nI n := (w6.get (by decide)).trans c2
      obtain ⟨U, u1, u2, u3, u4, u5, u6⟩ := fd_loop (o := 146) (c := 147) (by decide) b k n N W (by omega) hnk cm
      refine ⟨nI (n + k), W, U, w1, ?_, ⟨n + k, hnk, (u6.get (by decide)).trans w2, u2, fun j hj => ?_⟩, w6, u6, fun j => ?_, fun j => ?_⟩
      · unfold F_X12_feed
        rw [F_in, if_pos hin, Option.bind_some]
        dsimp only
        rw [if_neg (by decide), cm, ll_add, if_pos hfull]
        dsimp only [sx_let]
        rw [fd_model]
        exact u1
      · have e1 : U.1 1 j = W.1 1 j := u6.get (by simp [sv_hit])
        rw [e1]
        rcases Nat.lt_or_ge j n with q | q
        · rw [u3 j q, (w6.get (by simp [sv_hit]) : W.1 147 j = V.1 147 j), w3 j q]
          exact hb j q
        · rw [u4 j q hj, w4 j q hj]
          exact ⟨rfl, byte_id _⟩
      · rcases Nat.lt_or_ge j n with q | q
        · exact Or.inl (w3 j q)
        · rcases Nat.lt_or_ge j (n + k) with q2 | q2
          · exact Or.inr (by rw [w4 j q q2]; exact rg_b8)
          · exact Or.inl (w5 j q2)
      · rcases Nat.lt_or_ge j n with q | q
        · exact Or.inl (u3 j q)
        · rcases Nat.lt_or_ge j (n + k) with q2 | q2
          · exact Or.inr (by rw [u4 j q q2]; exact rg_b8)
          · exact Or.inl (u5 j q2)
    · refine ⟨-4, V, V, if_neg hfull, ?_, ⟨n, hn, c1, c2, hb⟩, sv_eq_rf, sv_eq_rf, fun _ => Or.inl rfl, fun _ => Or.inl rfl⟩
      unfold F_X12_feed
      rw [F_in, if_pos hin, Option.bind_some]
      dsimp only
      rw [if_neg (by decide), c2, ll_add, if_neg hfull]
  · refine ⟨-2, V, V, if_neg h8, ?_, ⟨n, hn, c1, c2, hb⟩, sv_eq_rf, sv_eq_rf, fun _ => Or.inl rfl, fun _ => Or.inl rfl⟩
    unfold F_X12_feed
    rw [F_in, Option.bind_some]
    dsimp only
    rw [if_neg (show ¬ ((1 : Int64) ≤ a.toInt64 ∧ a.toInt64 ≤ 8) from fun h => h8 ((toI64_le (y := 8)).mp h.2)), if_pos rfl]
theorem R_lim {A : List (Nat × Int × Int)} {F : List (Nat × List (Nat × Int × Int))} {q : Nat → Bool} (h : (A.all (fun z => q z.1) && F.all (fun z => q z.1)) = true) {a k : Nat} {r : Int × Int} (e : R_of A F a k = some r) : q a = true := by
  rw [Bool.and_eq_true, List.all_eq_true, List.all_eq_true] at h
  unfold R_of at e
  cases h1 : lk A a with
  | some z => exact h.1 _ (lk_mem h1)
  | none =>
    rw [h1] at e
    cases h2 : lk F a with
    | some z => exact h.2 _ (lk_mem h2)
    | none =>
      rw [h2] at e
      cases e
/-- what holds of one side's cells holds after what changes only others -/
theorem tr {T : Tb} {V W : sv_V} (S : SIx T V V) (hr : ∀ a k l h, T.1 a k = some (l, h) → W.1 a k = V.1 a k ∨ rg (W.1 a k) l h) (hX : ∀ a k, T.2.2.2 a k = true → W.1 a k = V.1 a k ∧ W.2.1 a k = V.2.1 a k) (r6 : ∃ b, b ∈ [31, 45] ∧ W.2.2 69 6 = some b) (r7 : ∃ b, b ∈ [82, 93, 103, 113, 123, 133] ∧ W.2.2 69 7 = some b) : SIx T W W := ⟨fun a k l h e => by
  rcases hr a k l h e with q | q
  · rw [q]
    exact S.1 a k l h e
  · exact q, fun _ _ _ => ⟨rfl, rfl, rfl⟩, r6, r7, S.2.2.2.2.2 V W hX S.2.2.2.2.1, S.2.2.2.2.2⟩
def qR (a : Nat) : Bool := decide (146 ≤ a) && decide (a < 1000)
def qK (a : Nat) : Bool := decide (a < 146) || decide (1000 ≤ a)
theorem qR_i {a : Nat} (h : qR a = true) : 146 ≤ a ∧ a < 1000 := by simpa [qR] using h
theorem qK_i {a : Nat} (h : qK a = true) : a < 146 ∨ 1000 ≤ a := by simpa [qK] using h
theorem xs_rU_q {a k : Nat} (h : xs_rU a k = true) : qR a = true := by
  unfold xs_rU at h
  split at h <;> first | rfl | cases h
theorem xs_rM_q {a k : Nat} (h : xs_rM a k = true) : qR a = true := by
  unfold xs_rM xs_rL at h
  simp only [Bool.or_eq_true, Bool.and_eq_true, beq_iff_eq] at h
  rcases h with (h | h) | h | h
  · exact xs_rU_q h
  · rw [h.1]
    rfl
  · rw [h]
    rfl
  · rw [h.1]
    rfl
theorem xs1_q {a k : Nat} (h : xs1 a k = true) : qK a = true := by
  unfold xs1 at h
  split at h <;> first | rfl | cases h
theorem fnt_q {a k : Nat} (h : fnt a k = true) : qR a = true := by
  unfold fnt at h
  simp only [Bool.or_eq_true, Bool.and_eq_true, beq_iff_eq] at h
  have : a = 146 ∨ a = 148 ∨ a = 149 ∨ a = 151 ∨ a = 152 := by omega
  rcases this with rfl | rfl | rfl | rfl | rfl <;> rfl
/-- the two references of the class, as they stand -/
theorem ci_r {V W : sv_V} (C : CI V W) : (∃ b, b ∈ [31, 45] ∧ W.2.2 69 6 = some b) ∧ (∃ b, b ∈ [82, 93, 103, 113, 123, 133] ∧ W.2.2 69 7 = some b) := C.elim (fun S => ⟨S.2.2.1, S.2.2.2.1⟩) (fun S => ⟨S.2.2.1, S.2.2.2.1⟩)
theorem ci_own {G V : sv_V} (C : CI G V) : CI V V := C.elim (fun S => Or.inl (own S)) (fun S => Or.inr (own S))
/-- the class has moved -/
theorem ri_c {N : Nat} {V W : sv_V} (R : RI N V) (C : CI W W) (e : ∀ a k, 146 ≤ a → W.1 a k = V.1 a k ∧ W.2.1 a k = V.2.1 a k) : RI N W := by
  rcases R with S | ⟨S, D⟩
  · exact Or.inl (tr S (fun a k l h t => Or.inl (e a k (qR_i (R_lim (q := qR) (by decide +kernel) t)).1).1) (fun a k h => e a k (qR_i (xs_rU_q h)).1) (ci_r C).1 (ci_r C).2)
  · exact Or.inr ⟨tr S (fun a k l h t => Or.inl (e a k (qR_i (R_lim (q := qR) (by decide +kernel) t)).1).1) (fun a k h => e a k (qR_i (xs_rM_q h)).1) (ci_r C).1 (ci_r C).2, DW_c (fun a k h => e a k (qR_i (fnt_q h)).1) D⟩
/-- the reference has moved -/
theorem ci_m {V W : sv_V} (C : CI V V) (e : ∀ a k, a < 146 ∨ 1000 ≤ a → W.1 a k = V.1 a k ∧ W.2.1 a k = V.2.1 a k ∧ W.2.2 a k = V.2.2 a k) : CI W W := by
  have r6 : W.2.2 69 6 = V.2.2 69 6 := (e 69 6 (Or.inl (by decide))).2.2
  have r7 : W.2.2 69 7 = V.2.2 69 7 := (e 69 7 (Or.inl (by decide))).2.2
  rcases C with S | S
  · exact Or.inl (tr S (fun a k l h t => Or.inl (e a k (qK_i (R_lim (q := qK) (by decide +kernel) t))).1) (fun a k h => ⟨(e a k (qK_i (xs1_q h))).1, (e a k (qK_i (xs1_q h))).2.1⟩) (by rw [r6]; exact S.2.2.1) (by rw [r7]; exact S.2.2.2.1))
  · exact Or.inr (tr S (fun a k l h t => Or.inl (e a k (qK_i (R_lim (q := qK) (by decide +kernel) t))).1) (fun a k h => ⟨(e a k (qK_i (xs1_q h))).1, (e a k (qK_i (xs1_q h))).2.1⟩) (by rw [r6]; exact S.2.2.1) (by rw [r7]; exact S.2.2.2.1))
/-- what holds between two calls of the law -/
def BI (N : Nat) (V : sv_V) : Prop := I_feed V ∧ CI V V ∧ RI N V
theorem if_c {V W : sv_V} (h : I_feed V) (a : W.1 0 1 = V.1 0 1) (b : W.1 146 1 = V.1 146 1) (c : ∀ j, W.1 1 j = V.1 1 j) (d : ∀ j, W.1 147 j = V.1 147 j) : I_feed W := by
  obtain ⟨n, hn, c1, c2, hb⟩ := h
  refine ⟨n, hn, a.trans c1, b.trans c2, fun j hj => ?_⟩
  rw [c, d]
  exact hb j hj
theorem gc_of {V W : sv_V} (C : CI V W) : ∀ a k, gh_c a k = true → W.1 a k = V.1 a k ∧ W.2.1 a k = V.2.1 a k ∧ W.2.2 a k = V.2.2 a k := C.elim (fun S => S.2.1) (fun S => S.2.1)
/-- a call of the class, from what it leaves -/
theorem bi_c {N : Nat} {V W : sv_V} (B : BI N V) (C : CI V W) : BI N W ∧ W.1 1000 = V.1 1000 := by
  have g := gc_of C
  have e : ∀ a k, 146 ≤ a → W.1 a k = V.1 a k ∧ W.2.1 a k = V.2.1 a k := fun a k h => by
    obtain ⟨x, y, -⟩ := g a k (by unfold gh_c; rw [decide_eq_true h]; rfl)
    exact ⟨x, y⟩
  exact ⟨⟨if_c B.1 (g 0 1 rfl).1 (e _ _ (by decide)).1 (fun j => (g 1 j rfl).1) (fun j => (e _ _ (by decide)).1), ci_own C, ri_c B.2.2 (ci_own C) e⟩, funext fun k => (e 1000 k (by decide)).1⟩
/-- a call of the reference, from what it leaves -/
theorem bi_r {N : Nat} {V W : sv_V} (B : BI N V) (R : RI N W) (g : ∀ a k, gh_r a k = true → W.1 a k = V.1 a k ∧ W.2.1 a k = V.2.1 a k ∧ W.2.2 a k = V.2.2 a k) : BI N W := by
  have e : ∀ a k, a < 146 ∨ 1000 ≤ a → W.1 a k = V.1 a k ∧ W.2.1 a k = V.2.1 a k ∧ W.2.2 a k = V.2.2 a k := fun a k h => g a k (by
    unfold gh_r
    rcases h with h | h
    · rw [decide_eq_true h]
      rfl
    · rw [decide_eq_true h, Bool.or_true]
      rfl)
  exact ⟨if_c B.1 (e _ _ (by decide)).1 (g 146 1 rfl).1 (fun j => (e _ _ (by decide)).1) (fun j => (g 147 j rfl).1), ci_m B.2.1 e, R⟩
/-- a call of the class: pure, or of its own cells -/
theorem st_c {N : Nat} {A : Type} {f : sv_V → Option (A × sv_V)} {PU PP : A × sv_V → Prop} {V : sv_V} (B : BI N V) (hU : SIx T_cU V V → Sg PU (f V)) (hP : SIx T_cP V V → Sg PP (f V)) (kU : ∀ p, PU p → p.2 = V ∨ SIx T_cU V p.2) (kP : ∀ p, PP p → p.2 = V ∨ SIx T_cP V p.2) : ∃ x W, f V = some (x, W) ∧ BI N W ∧ W.1 1000 = V.1 1000 := by
  rcases B.2.1 with S | S
  · obtain ⟨⟨x, W⟩, e, h⟩ := hU S
    refine ⟨x, W, e, ?_⟩
    rcases kU _ h with q | q
    · have q : W = V := q
      rw [q]
      exact ⟨B, rfl⟩
    · exact bi_c B (Or.inl q)
  · obtain ⟨⟨x, W⟩, e, h⟩ := hP S
    refine ⟨x, W, e, ?_⟩
    rcases kP _ h with q | q
    · have q : W = V := q
      rw [q]
      exact ⟨B, rfl⟩
    · exact bi_c B (Or.inr q)
theorem st_r {N : Nat} {A : Type} {f : sv_V → Option (A × sv_V)} {PU PP : A × sv_V → Prop} {V : sv_V} (B : BI N V) (hU : SIx T_rU V V → Sg PU (f V)) (hM : SIx T_rM V V → DWx N V → Sg PP (f V)) (kU : ∀ p, PU p → p.2 = V ∨ SIx T_rU V p.2) (kM : ∀ p, PP p → p.2 = V ∨ SIx T_rM V p.2) : ∃ x W, f V = some (x, W) ∧ BI N W := by
  rcases B.2.2 with S | ⟨S, D⟩
  · obtain ⟨⟨x, W⟩, e, h⟩ := hU S
    refine ⟨x, W, e, ?_⟩
    rcases kU _ h with q | q
    · have q : W = V := q
      rw [q]
      exact B
    · exact bi_r B (Or.inl (own q)) q.2.1
  · obtain ⟨⟨x, W⟩, e, h⟩ := hM S D
    refine ⟨x, W, e, ?_⟩
    rcases kM _ h with q | q
    · have q : W = V := q
      rw [q]
      exact B
    · exact bi_r B (Or.inr ⟨own q, DW_c (fnt_M q) D⟩) (fun a k h => q.2.1 a k (by show gh_rf a k = true; unfold gh_rf; rw [h]; rfl))
theorem k_P {T : Tb} {V : sv_V} {l h : Int} (p : Int32 × sv_V) (x : QP V l h p) : p.2 = V ∨ SIx T V p.2 := Or.inl x.1
theorem k_R {T : Tb} {V : sv_V} {l h : Int} (p : Int64 × sv_V) (x : QR V l h p) : p.2 = V ∨ SIx T V p.2 := Or.inl x.1
theorem k_I {T : Tb} {V : sv_V} {l h : Int} (p : Int32 × sv_V) (x : QI T V l h p) : p.2 = V ∨ SIx T V p.2 := Or.inr x.1
theorem st_2 {N : Nat} {A B : Type} {f : sv_V → Option (A × sv_V)} {g : sv_V → Option (B × sv_V)} {V : sv_V} (h : ∃ x W, f V = some (x, W) ∧ BI N W ∧ W.1 1000 = V.1 1000) (k : ∀ W, BI N W → ∃ y U, g W = some (y, U) ∧ BI N U) : ∃ x y V1 V2, f V = some (x, V1) ∧ g V1 = some (y, V2) ∧ BI N V2 ∧ V1.1 1000 = V.1 1000 := by
  obtain ⟨x, W, e, b, s⟩ := h
  obtain ⟨y, U, e2, b2⟩ := k W b
  exact ⟨x, y, W, U, e, e2, b2, s⟩
theorem o2_font {N : Nat} (hN : 8589934592 ≤ N) {V : sv_V} (B : BI N V) (a : Int32) : ∃ x y V1 V2, F_X11_font a V = some (x, V1) ∧ F_X12_font a V1 = some (y, V2) ∧ BI N V2 ∧ V1.1 1000 = V.1 1000 := st_2 (f := F_X11_font a) (g := F_X12_font a) (st_c B (fun S => s_F_X11_font_U hN S) (fun S => s_F_X11_font_P hN S) k_P k_P) (fun W B => st_r B (fun S => s_F_X12_font_U hN S) (fun S D => s_F_X12_font_M hN S) k_P k_P)
theorem o2_table {N : Nat} (hN : 8589934592 ≤ N) {V : sv_V} (B : BI N V) (a b : Int32) : ∃ x y V1 V2, F_X11_table a b V = some (x, V1) ∧ F_X12_table a b V1 = some (y, V2) ∧ BI N V2 ∧ V1.1 1000 = V.1 1000 := st_2 (f := F_X11_table a b) (g := F_X12_table a b) (st_c B (fun S => s_F_X11_table_U hN S) (fun S => s_F_X11_table_P hN S) k_R k_R) (fun W B => st_r B (fun S => s_F_X12_table_U hN S) (fun S D => s_F_X12_table_M hN S) k_R k_R)
theorem o2_glyphOf {N : Nat} (hN : 8589934592 ≤ N) {V : sv_V} (B : BI N V) (a : Int32) : ∃ x y V1 V2, F_X11_glyphOf N a V = some (x, V1) ∧ F_X12_glyphOf N a V1 = some (y, V2) ∧ BI N V2 ∧ V1.1 1000 = V.1 1000 := st_2 (f := F_X11_glyphOf N a) (g := F_X12_glyphOf N a) (st_c B (fun S => s_F_X11_glyphOf_U hN S) (fun S => s_F_X11_glyphOf_P hN S) k_P k_P) (fun W B => st_r B (fun S => s_F_X12_glyphOf_U hN S) (fun S D => s_F_X12_glyphOf_M hN S) k_P k_P)
theorem o2_glyph {N : Nat} (hN : 8589934592 ≤ N) {V : sv_V} (B : BI N V) (a b : Int32) : ∃ x y V1 V2, F_X11_glyph a b V = some (x, V1) ∧ F_X12_glyph N a b V1 = some (y, V2) ∧ BI N V2 ∧ V1.1 1000 = V.1 1000 := st_2 (f := F_X11_glyph a b) (g := F_X12_glyph N a b) (st_c B (fun S => s_F_X11_glyph_U hN S) (fun S => s_F_X11_glyph_P hN S) k_P k_P) (fun W B => st_r B (fun S => s_F_X12_glyph_U hN S) (fun S D => s_F_X12_glyph_M hN S) k_I k_I)
theorem o2_kern {N : Nat} (hN : 8589934592 ≤ N) {V : sv_V} (B : BI N V) (a b : Int32) : ∃ x y V1 V2, F_X11_kern N a b V = some (x, V1) ∧ F_X12_kern N a b V1 = some (y, V2) ∧ BI N V2 ∧ V1.1 1000 = V.1 1000 := st_2 (f := F_X11_kern N a b) (g := F_X12_kern N a b) (st_c B (fun S => s_F_X11_kern_U hN S) (fun S => s_F_X11_kern_P hN S) k_P k_P) (fun W B => st_r B (fun S => s_F_X12_kern_U hN S) (fun S D => s_F_X12_kern_M hN S) k_P k_P)
theorem o2_size {N : Nat} (hN : 8589934592 ≤ N) {V : sv_V} (B : BI N V) (a : Int32) : ∃ x y V1 V2, F_X11_size N a V = some (x, V1) ∧ F_X12_size N a V1 = some (y, V2) ∧ BI N V2 ∧ V1.1 1000 = V.1 1000 := st_2 (f := F_X11_size N a) (g := F_X12_size N a) (st_c B (fun S => s_F_X11_size_U hN S) (fun S => s_F_X11_size_P hN S) k_I k_I) (fun W B => st_r B (fun S => s_F_X12_size_U hN S) (fun S D => s_F_X12_size_M hN S) k_I k_I)
theorem o2_make {N : Nat} (hN : 8589934592 ≤ N) {V : sv_V} (B : BI N V) (a : Int32) : ∃ x y V1 V2, F_X11_make N a V = some (x, V1) ∧ F_X12_make N a V1 = some (y, V2) ∧ BI N V2 ∧ V1.1 1000 = V.1 1000 := st_2 (f := F_X11_make N a) (g := F_X12_make N a) (st_c B (fun S => s_F_X11_make_U hN S) (fun S => s_F_X11_make_P hN S) k_I k_I) (fun W B => st_r B (fun S => s_F_X12_make_U hN S) (fun S D => s_F_X12_make_M hN S D) k_I k_I)
theorem o2_point {N : Nat} (hN : 8589934592 ≤ N) {V : sv_V} (B : BI N V) (a b : Int32) : ∃ x y V1 V2, F_X11_point N a b V = some (x, V1) ∧ F_X12_point N a b V1 = some (y, V2) ∧ BI N V2 ∧ V1.1 1000 = V.1 1000 := st_2 (f := F_X11_point N a b) (g := F_X12_point N a b) (st_c B (fun S => s_F_X11_point_U hN S) (fun S => s_F_X11_point_P hN S) k_P k_P) (fun W B => st_r B (fun S => s_F_X12_point_U hN S) (fun S D => s_F_X12_point_M hN S) k_P k_P)
theorem o2_told {N : Nat} (hN : 8589934592 ≤ N) {V : sv_V} (B : BI N V) (a : Int32) : ∃ x y V1 V2, F_X11_told a V = some (x, V1) ∧ F_X12_told a V1 = some (y, V2) ∧ BI N V2 ∧ V1.1 1000 = V.1 1000 := st_2 (f := F_X11_told a) (g := F_X12_told a) (st_c B (fun S => s_F_X11_told_U hN S) (fun S => s_F_X11_told_P hN S) k_P k_P) (fun W B => st_r B (fun S => s_F_X12_told_U hN S) (fun S D => s_F_X12_told_M hN S) k_P k_P)
theorem o2_held {N : Nat} (hN : 8589934592 ≤ N) {V : sv_V} (B : BI N V) (a b : Int32) : ∃ x y V1 V2, F_X11_held a b V = some (x, V1) ∧ F_X12_held a b V1 = some (y, V2) ∧ BI N V2 ∧ V1.1 1000 = V.1 1000 := st_2 (f := F_X11_held a b) (g := F_X12_held a b) (st_c B (fun S => s_F_X11_held_U hN S) (fun S => s_F_X11_held_P hN S) k_P k_P) (fun W B => st_r B (fun S => s_F_X12_held_U hN S) (fun S D => s_F_X12_held_M hN S) k_P k_P)
theorem o2_isIn {N : Nat} (hN : 8589934592 ≤ N) {V : sv_V} (B : BI N V) (a b : Int32) : ∃ x y V1 V2, F_X11_isIn N a b V = some (x, V1) ∧ F_X12_isIn N a b V1 = some (y, V2) ∧ BI N V2 ∧ V1.1 1000 = V.1 1000 := st_2 (f := F_X11_isIn N a b) (g := F_X12_isIn N a b) (st_c B (fun S => s_F_X11_isIn_U hN S) (fun S => s_F_X11_isIn_P hN S) k_I k_I) (fun W B => st_r B (fun S => s_F_X12_isIn_U hN S) (fun S D => s_F_X12_isIn_M hN S) k_I k_I)
theorem o2_canvas {N : Nat} (hN : 8589934592 ≤ N) {V : sv_V} (B : BI N V) (a b : Int32) : ∃ x y V1 V2, F_X11_canvas N a b V = some (x, V1) ∧ F_X12_canvas N a b V1 = some (y, V2) ∧ BI N V2 ∧ V1.1 1000 = V.1 1000 := st_2 (f := F_X11_canvas N a b) (g := F_X12_canvas N a b) (st_c B (fun S => s_F_X11_canvas_U hN S) (fun S => s_F_X11_canvas_P hN S) k_I k_I) (fun W B => st_r B (fun S => s_F_X12_canvas_U hN S) (fun S D => s_F_X12_canvas_M hN S) k_I k_I)
theorem o2_draw {N : Nat} (hN : 8589934592 ≤ N) {V : sv_V} (B : BI N V) (a b : Int32) : ∃ x y V1 V2, F_X11_draw N a b V = some (x, V1) ∧ F_X12_draw N a b V1 = some (y, V2) ∧ BI N V2 ∧ V1.1 1000 = V.1 1000 := st_2 (f := F_X11_draw N a b) (g := F_X12_draw N a b) (st_c B (fun S => s_F_X11_draw_U hN S) (fun S => s_F_X11_draw_P hN S) k_I k_I) (fun W B => st_r B (fun S => s_F_X12_draw_U hN S) (fun S D => s_F_X12_draw_M hN S) k_I k_I)
theorem o2_pixel {N : Nat} (hN : 8589934592 ≤ N) {V : sv_V} (B : BI N V) (a b : Int32) : ∃ x y V1 V2, F_X11_pixel a b V = some (x, V1) ∧ F_X12_pixel a b V1 = some (y, V2) ∧ BI N V2 ∧ V1.1 1000 = V.1 1000 := st_2 (f := F_X11_pixel a b) (g := F_X12_pixel a b) (st_c B (fun S => s_F_X11_pixel_U hN S) (fun S => s_F_X11_pixel_P hN S) k_P k_P) (fun W B => st_r B (fun S => s_F_X12_pixel_U hN S) (fun S D => s_F_X12_pixel_M hN S) k_P k_P)
theorem o2_type {N : Nat} (hN : 8589934592 ≤ N) {V : sv_V} (B : BI N V) (a : Int32) : ∃ x y V1 V2, F_X11_type a V = some (x, V1) ∧ F_X12_type a V1 = some (y, V2) ∧ BI N V2 ∧ V1.1 1000 = V.1 1000 := st_2 (f := F_X11_type a) (g := F_X12_type a) (st_c B (fun S => s_F_X11_type_U hN S) (fun S => s_F_X11_type_P hN S) k_I k_I) (fun W B => st_r B (fun S => s_F_X12_type_U hN S) (fun S D => s_F_X12_type_M hN S) k_I k_I)
theorem o2_line {N : Nat} (hN : 8589934592 ≤ N) {V : sv_V} (B : BI N V) (a b : Int32) : ∃ x y V1 V2, F_X11_line N a b V = some (x, V1) ∧ F_X12_line N a b V1 = some (y, V2) ∧ BI N V2 ∧ V1.1 1000 = V.1 1000 := st_2 (f := F_X11_line N a b) (g := F_X12_line N a b) (st_c B (fun S => s_F_X11_line_U hN S) (fun S => s_F_X11_line_P hN S) k_I k_I) (fun W B => st_r B (fun S => s_F_X12_line_U hN S) (fun S D => s_F_X12_line_M hN S D) k_I k_I)
theorem hit_q {md : List (Nat × Option Nat)} (h : md.all (fun z => !(gh_r z.1 (z.2.getD 0)) && (z.2 != none || z.1 != 146)) = true) {a k : Nat} (g : gh_r a k = true) : sv_hit md a k = false := by
  cases c : sv_hit md a k with
  | false => rfl
  | true =>
    unfold sv_hit at c
    rw [List.any_eq_true] at c
    obtain ⟨⟨b, o⟩, hq, c⟩ := c
    have z := List.all_eq_true.mp h _ hq
    simp only [Bool.and_eq_true, Bool.or_eq_true, beq_iff_eq] at c
    obtain ⟨c1, c2⟩ := c
    dsimp only at c1 c2 z
    subst c1
    rcases c2 with c2 | c2
    · subst c2
      simp [gh_r] at z g
      omega
    · subst c2
      simp only [Option.getD_some, g] at z
      cases z
theorem o2_load {N : Nat} (hN : 8589934592 ≤ N) {V : sv_V} (B : BI N V)  : ∃ x y V1 V2, F_X11_load N  V = some (x, V1) ∧ F_X12_load N  V1 = some (y, V2) ∧ BI N V2 ∧ V1.1 1000 = V.1 1000 := st_2 (f := F_X11_load N) (g := F_X12_load N) (by
  obtain ⟨⟨x, W⟩, e, C⟩ := s_load_c hN B.2.1
  exact ⟨x, W, e, bi_c B C⟩) (fun W B => by
  obtain ⟨⟨y, U⟩, e, R⟩ := s_load_r hN B.2.2
  exact ⟨y, U, e, bi_r B R (fun a k h => m_X12_load sv_sub_rf e a k (hit_q (by decide +kernel) h))⟩)
theorem hit_c {a k : Nat} (h1 : ¬ a = 1) (h2 : ¬ (a = 0 ∧ k = 1)) : sv_hit [(0, some 1), (1, none)] a k = false := by
  cases c : sv_hit [(0, some 1), (1, none)] a k with
  | false => rfl
  | true =>
    simp [sv_hit] at c
    omega
theorem hit_r {a k : Nat} (h1 : ¬ a = 147) (h2 : ¬ (a = 146 ∧ k = 1)) : sv_hit [(146, some 1), (147, none)] a k = false := by
  cases c : sv_hit [(146, some 1), (147, none)] a k with
  | false => rfl
  | true =>
    simp [sv_hit] at c
    omega
theorem up_c {V W : sv_V} (s : sv_eq [(0, some 1)] V W) : sv_eq [(0, some 1), (1, none)] V W := fun a k h => s a k (by
  cases c : sv_hit [(0, some 1)] a k with
  | false => rfl
  | true =>
    simp [sv_hit] at c h
    omega)
theorem up_r {V W : sv_V} (s : sv_eq [(146, some 1)] V W) : sv_eq [(146, some 1), (147, none)] V W := fun a k h => s a k (by
  cases c : sv_hit [(146, some 1)] a k with
  | false => rfl
  | true =>
    simp [sv_hit] at c h
    omega)
theorem tc_h {T : Tb} {V W : sv_V} (t1 : ∀ k, T.1 1 k = some (-128, 127)) (t0 : T.1 0 1 = some (0, 12000)) (s : sv_eq [(0, some 1), (1, none)] V W) (r1 : rg (W.1 0 1) 0 12000) (c : ∀ j, W.1 1 j = V.1 1 j ∨ rg (W.1 1 j) (-128) 127) : ∀ a k l h, T.1 a k = some (l, h) → W.1 a k = V.1 a k ∨ rg (W.1 a k) l h := fun a k l h t => by
  by_cases h1 : a = 1
  · subst h1
    rw [t1] at t
    cases t
    exact c k
  · by_cases h2 : a = 0 ∧ k = 1
    · obtain ⟨rfl, rfl⟩ := h2
      rw [t0] at t
      cases t
      exact Or.inr r1
    · exact Or.inl (s a k (hit_c h1 h2)).1
theorem tm_h {T : Tb} {V W : sv_V} (t1 : ∀ k, T.1 147 k = some (-128, 127)) (t0 : T.1 146 1 = some (0, 12000)) (s : sv_eq [(146, some 1), (147, none)] V W) (r1 : rg (W.1 146 1) 0 12000) (c : ∀ j, W.1 147 j = V.1 147 j ∨ rg (W.1 147 j) (-128) 127) : ∀ a k l h, T.1 a k = some (l, h) → W.1 a k = V.1 a k ∨ rg (W.1 a k) l h := fun a k l h t => by
  by_cases h1 : a = 147
  · subst h1
    rw [t1] at t
    cases t
    exact c k
  · by_cases h2 : a = 146 ∧ k = 1
    · obtain ⟨rfl, rfl⟩ := h2
      rw [t0] at t
      cases t
      exact Or.inr r1
    · exact Or.inl (s a k (hit_r h1 h2)).1
theorem xs1_n {a k : Nat} (h : xs1 a k = true) : 2 ≤ a := by
  unfold xs1 at h
  split at h <;> first | decide | cases h
theorem ci_f {V W : sv_V} (C : CI V V) (s : sv_eq [(0, some 1), (1, none)] V W) (r1 : rg (W.1 0 1) 0 12000) (c : ∀ j, W.1 1 j = V.1 1 j ∨ rg (W.1 1 j) (-128) 127) : CI W W := by
  have r6 : W.2.2 69 6 = V.2.2 69 6 := (s 69 6 rfl).2.2
  have r7 : W.2.2 69 7 = V.2.2 69 7 := (s 69 7 rfl).2.2
  have x : ∀ a k, xs1 a k = true → W.1 a k = V.1 a k ∧ W.2.1 a k = V.2.1 a k := fun a k h => by
    have := xs1_n h
    obtain ⟨y, z, -⟩ := s a k (hit_c (by omega) (by omega))
    exact ⟨y, z⟩
  rcases C with S | S
  · exact Or.inl (tr S (tc_h (fun _ => rfl) (by decide +kernel) s r1 c) x (by rw [r6]; exact S.2.2.1) (by rw [r7]; exact S.2.2.2.1))
  · exact Or.inr (tr S (tc_h (fun _ => rfl) (by decide +kernel) s r1 c) x (by rw [r6]; exact S.2.2.1) (by rw [r7]; exact S.2.2.2.1))
theorem ri_f {N : Nat} {V W : sv_V} (R : RI N V) (s : sv_eq [(146, some 1), (147, none)] V W) (r1 : rg (W.1 146 1) 0 12000) (c : ∀ j, W.1 147 j = V.1 147 j ∨ rg (W.1 147 j) (-128) 127) : RI N W := by
  have r6 : W.2.2 69 6 = V.2.2 69 6 := (s 69 6 rfl).2.2
  have r7 : W.2.2 69 7 = V.2.2 69 7 := (s 69 7 rfl).2.2
  rcases R with S | ⟨S, D⟩
  · refine Or.inl (tr S (tm_h (fun _ => rfl) (by decide +kernel) s r1 c) (fun a k h => ?_) (by rw [r6]; exact S.2.2.1) (by rw [r7]; exact S.2.2.2.1))
    obtain ⟨y, z, -⟩ := s a k (hit_r (fun e => by rw [e] at h; cases h) (fun e => by rw [e.1, e.2] at h; cases h))
    exact ⟨y, z⟩
  · refine Or.inr ⟨tr S (tm_h (fun _ => rfl) (by decide +kernel) s r1 c) (fun a k h => ?_) (by rw [r6]; exact S.2.2.1) (by rw [r7]; exact S.2.2.2.1), DW_c (fun a k h => ?_) D⟩
    · obtain ⟨y, z, -⟩ := s a k (hit_r (fun e => by rw [e] at h; cases h) (fun e => by rw [e.1, e.2] at h; cases h))
      exact ⟨y, z⟩
    · obtain ⟨y, z, -⟩ := s a k (hit_r (fun e => by rw [e] at h; cases h) (fun e => by rw [e.1, e.2] at h; cases h))
      exact ⟨y, z⟩
theorem rg_nI {n : Nat} (h : n ≤ 12000) : rg (nI n) 0 12000 := by
  unfold rg
  rw [nI_toInt (by omega)]
  omega
theorem bi_f {N : Nat} {V V1 V2 : sv_V} (B : BI N V) (f : I_feed V2) (s1 : sv_eq [(0, some 1), (1, none)] V V1) (s2 : sv_eq [(146, some 1), (147, none)] V1 V2) (c1 : ∀ j, V1.1 1 j = V.1 1 j ∨ rg (V1.1 1 j) (-128) 127) (c2 : ∀ j, V2.1 147 j = V1.1 147 j ∨ rg (V2.1 147 j) (-128) 127) : BI N V2 ∧ V1.1 1000 = V.1 1000 := by
  have f0 := f
  obtain ⟨n, hn, g1, g2, -⟩ := f0
  have e01 : V2.1 0 1 = V1.1 0 1 := (s2 0 1 rfl).1
  have C1 : CI V1 V1 := ci_f B.2.1 s1 (by rw [← e01, g1]; exact rg_nI hn) c1
  have R1 : RI N V1 := ri_c B.2.2 C1 (fun a k h => by
    obtain ⟨y, z, -⟩ := s1 a k (hit_c (by omega) (by omega))
    exact ⟨y, z⟩)
  exact ⟨⟨f, ci_m C1 (fun a k h => s2 a k (hit_r (by omega) (by omega))), ri_f R1 s2 (by rw [g2]; exact rg_nI hn) c2⟩, funext fun k => (s1 1000 k (hit_c (by decide) (by omega))).1⟩
theorem o2_feed {N : Nat} (hN : 8589934592 ≤ N) {V : sv_V} (B : BI N V) (a : Int32) (b : Int64) : ∃ x y V1 V2, F_X11_feed N a b V = some (x, V1) ∧ F_X12_feed N a b V1 = some (y, V2) ∧ BI N V2 ∧ V1.1 1000 = V.1 1000 := by
  obtain ⟨x, V1, V2, e1, e2, f, s1, s2, c1, c2⟩ := feed_alike2 (N := N) (by omega) B.1 a b
  have z := bi_f B f s1 s2 c1 c2
  exact ⟨x, x, V1, V2, e1, e2, z.1, z.2⟩
theorem o2_wipe {N : Nat} {V : sv_V} (B : BI N V)  : ∃ x y V1 V2, F_X11_wipe  V = some (x, V1) ∧ F_X12_wipe  V1 = some (y, V2) ∧ BI N V2 ∧ V1.1 1000 = V.1 1000 := by
  obtain ⟨x, V1, V2, e1, e2, f, s1, s2⟩ := wipe_alike B.1
  have z := bi_f B f (up_c s1) (up_r s2) (fun j => Or.inl (s1 1 j (by simp [sv_hit])).1) (fun j => Or.inl (s2 147 j (by simp [sv_hit])).1)
  exact ⟨x, x, V1, V2, e1, e2, z.1, z.2⟩
