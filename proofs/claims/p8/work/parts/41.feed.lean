/-! LAYER 3: feed, wipe, type: the class and the reference alike -/
theorem vI_same (V : sv_V) (a k : Nat) (x : Int32) : (sv_I V a k x).1 a k = x := by simp [sv_I]
theorem vI_cell (V : sv_V) {a b : Nat} (k j : Nat) (x : Int32) (h : b ≠ a) : (sv_I V a k x).1 b j = V.1 b j := by simp [sv_I, h]
theorem vI_place (V : sv_V) (a : Nat) {k j : Nat} (x : Int32) (h : j ≠ k) : (sv_I V a k x).1 a j = V.1 a j := by simp [sv_I, h]
theorem sv_eq.get {L : List (Nat × Option Nat)} {V W : sv_V} (h : sv_eq L V W) {a k : Nat} (hk : sv_hit L a k = false) : W.1 a k = V.1 a k := (h a k hk).1
theorem sv_eq.wide {A B : List (Nat × Option Nat)} {V W : sv_V} (h : sv_eq A V W) (hs : A.all (fun q => B.contains q) = true) : sv_eq B V W := fun a k hk => h a k (by
  cases e : sv_hit A a k with
  | false => rfl
  | true => rw [(sv_sub_rf.sub hs) a k e] at hk; cases hk)
/-- the reference's 'in' -/
theorem lgc_cases (x y : Int64) : (lg_cmp x y = 1 ∧ y.toInt < x.toInt) ∨ (lg_cmp x y = 0 ∧ x = y) ∨ (lg_cmp x y = -1 ∧ x.toInt < y.toInt) := by
  unfold lg_cmp
  by_cases h1 : x > y
  · exact Or.inl ⟨if_pos h1, Int64.lt_iff_toInt_lt.mp h1⟩
  · rw [if_neg h1]
    by_cases h2 : x = y
    · exact Or.inr (Or.inl ⟨if_pos h2, h2⟩)
    · refine Or.inr (Or.inr ⟨if_neg h2, ?_⟩)
      have h3 : ¬ y.toInt < x.toInt := fun q => h1 (Int64.lt_iff_toInt_lt.mpr q)
      have h4 : ¬ x.toInt = y.toInt := fun q => h2 (Int64.toInt_inj.mp q)
      omega
theorem in_cmp (x y : Int64) : (lg_cmp x y < 0 ↔ x < y) ∧ (0 < lg_cmp x y ↔ y < x) := by
  rw [Int64.lt_iff_toInt_lt, Int64.lt_iff_toInt_lt]
  rcases lgc_cases x y with ⟨e, h⟩ | ⟨e, h⟩ | ⟨e, h⟩
  · rw [e]
    exact ⟨iff_of_false (by decide) (by omega), iff_of_true (by decide) h⟩
  · rw [e, h]
    exact ⟨iff_of_false (by decide) (by omega), iff_of_false (by decide) (by omega)⟩
  · rw [e]
    exact ⟨iff_of_true (by decide) h, iff_of_false (by decide) (by omega)⟩
theorem F_in (x a b : Int64) (V : sv_V) : F_X12_in x a b V = some (if a ≤ x ∧ x ≤ b then 1 else 0, V) := by
  unfold F_X12_in
  by_cases h1 : x < a
  · rw [if_pos ((in_cmp x a).1.mpr h1), if_neg]
    rintro ⟨h, -⟩
    exact absurd (Int64.lt_of_lt_of_le h1 h) (Int64.lt_irrefl)
  · rw [if_neg (fun h => h1 ((in_cmp x a).1.mp h))]
    by_cases h2 : b < x
    · rw [if_pos ((in_cmp x b).2.mpr h2), if_neg]
      rintro ⟨-, h⟩
      exact absurd (Int64.lt_of_lt_of_le h2 h) (Int64.lt_irrefl)
    · rw [if_neg (fun h => h2 ((in_cmp x b).2.mp h)), if_pos]
      exact ⟨Int64.not_lt.mp h1, Int64.not_lt.mp h2⟩
theorem toI64_le {x y : Int32} : x.toInt64 ≤ y.toInt64 ↔ x ≤ y := by
  rw [Int64.le_iff_toInt_le, Int32.le_iff_toInt_le, Int32.toInt_toInt64, Int32.toInt_toInt64]
/-- one step of feed's loop, for the class (o 0, c 1) and the reference (o 146, c 147) -/
def fd_G (o c : Nat) (k : Int64 → Int32 → sv_V → Option (Int32 × sv_V)) (l2 : Int64) (l4 : Int32) (V : sv_V) : Option (Int32 × sv_V) := if l4 < 0 then (some (V.1 o 1, V)) else (if sx_in (V.1 o 1) 12000 = true then sx_let (sv_I V c (V.1 o 1).toNatClampNeg (((l2 >>> (((8 : Int32) * l4).toInt64 &&& 63)).toInt32).toInt8.toInt32).toInt8.toInt32) (fun V3 => sx_let (sv_I V3 o 1 ((V3.1 o 1) + (1 : Int32))) (fun V4 => sx_let (l4 + (-1)) (fun x5 => k l2 x5 V4))) else none)
theorem fd_class (N : Nat) : B_X11_feed_34 N = fd_G 0 1 := rfl
theorem fd_model (N : Nat) : B_X12_feed_35 N = fd_G 146 147 := rfl
def fd_b (b : Int64) (i : Nat) : Int32 := (((b >>> (((8 : Int32) * nI i).toInt64 &&& 63)).toInt32).toInt8.toInt32).toInt8.toInt32
theorem sx_in_nI {m L : Nat} (h : m < L) (hL : L < 2 ^ 31) : sx_in (nI m) L = true := by
  unfold sx_in
  rw [nI_clamp (by omega)]
  simp [nI_pos (show m < 2 ^ 31 by omega), h]
theorem nI_addm1 (k : Nat) : nI k + (-1) = nI k - 1 := by rw [Int32.sub_eq_add_neg]
theorem fd_loop {o c : Nat} (hoc : o ≠ c) (b : Int64) : ∀ (k n m : Nat) (V : sv_V), k < m → n + k ≤ 12000 → V.1 o 1 = nI n →
    ∃ W, sx_lp3 (fd_G o c) m b (nI k - 1) V = some (nI (n + k), W) ∧ W.1 o 1 = nI (n + k) ∧ (∀ j, j < n → W.1 c j = V.1 c j) ∧ (∀ j, n ≤ j → j < n + k → W.1 c j = fd_b b (k - 1 - (j - n))) ∧ (∀ j, n + k ≤ j → W.1 c j = V.1 c j) ∧ sv_eq [(o, some 1), (c, none)] V W := by
  intro k
  induction k with
  | zero =>
    intro n m V hm hn hV
    obtain ⟨m, rfl⟩ : ∃ m', m = m' + 1 := ⟨m - 1, by omega⟩
    refine ⟨V, ?_, by simpa using hV, fun _ _ => rfl, fun j h1 h2 => by omega, fun _ _ => rfl, sv_eq_rf⟩
    show fd_G o c (sx_lp3 (fd_G o c) m) b (nI 0 - 1) V = _
    unfold fd_G
    rw [if_pos (by decide), hV]
    rfl
  | succ k ih =>
    intro n m V hm hn hV
    obtain ⟨m, rfl⟩ : ∃ m', m = m' + 1 := ⟨m - 1, by omega⟩
    have h0 : ¬ nI k < 0 := nI_pos (by omega)
    obtain ⟨V4, hV4⟩ : ∃ z, z = sv_I (sv_I V c n (fd_b b k)) o 1 (nI (n + 1)) := ⟨_, rfl⟩
    have e4 : V4.1 o 1 = nI (n + 1) := by rw [hV4, vI_same]
    obtain ⟨W, h1, h2, h3, h4, h5, h6⟩ := ih (n + 1) m V4 (by omega) (by omega) e4
    have hc4 : ∀ j, V4.1 c j = if j = n then fd_b b k else V.1 c j := fun j => by
      rw [hV4, vI_cell _ _ _ _ (Ne.symm hoc)]
      by_cases e : j = n
      · rw [if_pos e, e, vI_same]
      · rw [if_neg e, vI_place _ _ _ e]
    refine ⟨W, ?_, by rw [h2]; congr 1; omega, fun j hj => ?_, fun j g1 g2 => ?_, fun j hj => ?_, ?_⟩
    · show fd_G o c (sx_lp3 (fd_G o c) m) b (nI (k + 1) - 1) V = _
      generalize sx_lp3 (fd_G o c) m = kk at h1 ⊢
      unfold fd_G
      dsimp only [sx_let]
      rw [nI_pred, if_neg h0, hV, if_pos (sx_in_nI (by omega) (by decide)), nI_clamp (by omega), vI_cell _ _ _ _ hoc, hV, nI_1]
      show kk b (nI k + (-1)) (sv_I (sv_I V c n (fd_b b k)) o 1 (nI (n + 1))) = _
      rw [nI_addm1, ← hV4, h1]
      congr 2
      congr 1
      omega
    · rw [h3 j (by omega), hc4, if_neg (by omega)]
    · by_cases e : j = n
      · rw [h3 j (by omega), hc4, if_pos e, e]
        congr 1
        omega
      · rw [h4 j (by omega) (by omega)]
        congr 1
        omega
    · rw [h5 j (by omega), hc4, if_neg (by omega)]
    · refine sv_eq.trans (sv_eq.trans (sv_eq_I rfl (sv_hit_n (by simp) _)) (sv_eq_I hV4 ?_)) h6
      simp [sv_hit]
/-- the fed bytes: the class's and the reference's -/
def I_feed (V : sv_V) : Prop := ∃ n, n ≤ 12000 ∧ V.1 0 1 = nI n ∧ V.1 146 1 = nI n ∧ ∀ j, j < n → V.1 147 j = V.1 1 j ∧ (V.1 1 j).toInt8.toInt32 = V.1 1 j
theorem byte_id (x : Int32) : x.toInt8.toInt32.toInt8.toInt32 = x.toInt8.toInt32 := by
  have := pk_vb x
  rw [vp_nar_byte] at this
  exact this
theorem feed_alike {N : Nat} (hN : 9 ≤ N) {V : sv_V} (hV : I_feed V) (a : Int32) (b : Int64) : ∃ x V1 V2, F_X11_feed N a b V = some (x, V1) ∧ F_X12_feed N a b V1 = some (x, V2) ∧ I_feed V2 ∧ sv_eq [(0, some 1), (1, none)] V V1 ∧ sv_eq [(146, some 1), (147, none)] V1 V2 := by
  obtain ⟨n, hn, c1, c2, hb⟩ := hV
  unfold F_X11_feed
  by_cases h1 : a < 1
  · refine ⟨-2, V, V, if_pos h1, ?_, ⟨n, hn, c1, c2, hb⟩, sv_eq_rf, sv_eq_rf⟩
    unfold F_X12_feed
    rw [F_in, Option.bind_some]
    dsimp only
    rw [if_neg (show ¬ ((1 : Int64) ≤ a.toInt64 ∧ a.toInt64 ≤ 8) from fun h => absurd (toI64_le (x := 1) (y := a) |>.mp h.1) (Int32.not_le.mpr h1)), if_pos rfl]
  rw [if_neg h1]
  by_cases h8 : a ≤ 8
  · rw [if_pos h8]
    obtain ⟨k, hk8, rfl⟩ : ∃ k, k ≤ 8 ∧ a = nI k := nI_of2 (M := 8) (n := 8) (by decide) (fun h => h1 (Int32.lt_of_lt_of_le h (by decide))) h8
    have hk1 : 1 ≤ k := by
      rcases Nat.lt_or_ge k 1 with q | q
      · exact absurd (by rw [show k = 0 by omega]; decide) h1
      · exact q
    have hin : (1 : Int64) ≤ (nI k).toInt64 ∧ (nI k).toInt64 ≤ 8 := ⟨(toI64_le (x := 1)).mpr (Int32.not_lt.mp h1), (toI64_le (y := 8)).mpr h8⟩
    rw [c1, ll_add]
    by_cases hfull : nI (n + k) ≤ 12000
    · have hnk : n + k ≤ 12000 := (nI_leI (a := n + k) (b := 12000) (by omega) (by decide)).mp hfull
      rw [if_pos hfull]
      dsimp only [sx_let]
      rw [fd_class]
      obtain ⟨W, w1, w2, w3, w4, w5, w6⟩ := fd_loop (o := 0) (c := 1) (by decide) b k n N V (by omega) hnk c1
      have cm : W.1 146 1 = nI n := (w6.get (by decide)).trans c2
      obtain ⟨U, u1, u2, u3, u4, u5, u6⟩ := fd_loop (o := 146) (c := 147) (by decide) b k n N W (by omega) hnk cm
      refine ⟨nI (n + k), W, U, w1, ?_, ⟨n + k, hnk, (u6.get (by decide)).trans w2, u2, fun j hj => ?_⟩, w6, u6⟩
      · unfold F_X12_feed
        rw [F_in, if_pos hin, Option.bind_some]
        dsimp only
        rw [if_neg (by decide), cm, ll_add, if_pos hfull]
        dsimp only [sx_let]
        rw [fd_model]
        exact u1
      · have e1 : U.1 1 j = W.1 1 j := u6.get (by simp [sv_hit])
        rw [e1]
        rcases Nat.lt_or_ge j n with q | q
        · rw [u3 j q, (w6.get (by simp [sv_hit]) : W.1 147 j = V.1 147 j), w3 j q]
          exact hb j q
        · rw [u4 j q hj, w4 j q hj]
          exact ⟨rfl, byte_id _⟩
    · refine ⟨-4, V, V, if_neg hfull, ?_, ⟨n, hn, c1, c2, hb⟩, sv_eq_rf, sv_eq_rf⟩
      unfold F_X12_feed
      rw [F_in, if_pos hin, Option.bind_some]
      dsimp only
      rw [if_neg (by decide), c2, ll_add, if_neg hfull]
  · refine ⟨-2, V, V, if_neg h8, ?_, ⟨n, hn, c1, c2, hb⟩, sv_eq_rf, sv_eq_rf⟩
    unfold F_X12_feed
    rw [F_in, Option.bind_some]
    dsimp only
    rw [if_neg (show ¬ ((1 : Int64) ≤ a.toInt64 ∧ a.toInt64 ≤ 8) from fun h => h8 ((toI64_le (y := 8)).mp h.2)), if_pos rfl]
theorem wipe_alike {V : sv_V} (hV : I_feed V) : ∃ x V1 V2, F_X11_wipe V = some (x, V1) ∧ F_X12_wipe V1 = some (x, V2) ∧ I_feed V2 ∧ sv_eq [(0, some 1)] V V1 ∧ sv_eq [(146, some 1)] V1 V2 := by
  obtain ⟨n, hn, c1, c2, hb⟩ := hV
  refine ⟨nI n, sv_I V 0 1 0, sv_I (sv_I V 0 1 0) 146 1 0, by unfold F_X11_wipe sx_let; rw [c1], ?_, ⟨0, by omega, ?_, ?_, fun j hj => by omega⟩, sv_eq_I rfl (by decide), sv_eq_I rfl (by decide)⟩
  · unfold F_X12_wipe sx_let
    rw [vI_cell _ _ _ _ (by decide), c2]
  · rw [vI_cell _ _ _ _ (by decide), vI_same]; rfl
  · rw [vI_same]; rfl
/-- the typed codes -/
def I_type (V : sv_V) : Prop := ∃ n, n ≤ 100 ∧ V.1 0 7 = nI n ∧ V.1 146 144 = nI n ∧ ∀ j, j < n → V.1 205 j = V.1 145 j ∧ 0 ≤ V.1 145 j ∧ V.1 145 j ≤ 1114111
theorem type_alike {V : sv_V} (hV : I_type V) (a : Int32) : ∃ x V1 V2, F_X11_type a V = some (x, V1) ∧ F_X12_type a V1 = some (x, V2) ∧ I_type V2 ∧ sv_eq [(0, some 7), (145, none)] V V1 ∧ sv_eq [(146, some 144), (205, none)] V1 V2 := by
  obtain ⟨n, hn, c1, c2, hb⟩ := hV
  have hin : ((0 : Int64) ≤ a.toInt64 ∧ a.toInt64 ≤ 1114111) ↔ (0 ≤ a ∧ a ≤ 1114111) := ⟨fun h => ⟨(toI64_le (x := 0)).mp h.1, (toI64_le (y := 1114111)).mp h.2⟩, fun h => ⟨(toI64_le (x := 0)).mpr h.1, (toI64_le (y := 1114111)).mpr h.2⟩⟩
  unfold F_X11_type
  by_cases h0 : a < 0
  · refine ⟨-2, V, V, if_pos h0, ?_, ⟨n, hn, c1, c2, hb⟩, sv_eq_rf, sv_eq_rf⟩
    unfold F_X12_type
    rw [F_in, if_neg (fun h => absurd (hin.mp h).1 (Int32.not_le.mpr h0)), Option.bind_some]
    dsimp only
    rw [if_pos rfl]
  rw [if_neg h0]
  by_cases h1 : a ≤ 1114111
  · rw [if_pos h1, c1]
    by_cases hf : nI n < 100
    · have hn1 : n < 100 := (nI_ltI (a := n) (b := 100) (by omega) (by decide)).mp hf
      rw [if_pos hf, if_pos (sx_in_nI hn1 (by decide)), nI_clamp (by omega)]
      dsimp only [sx_let]
      rw [vI_same, vI_cell V (a := 145) (b := 0) n 7 a (by decide), c1, nI_1]
      obtain ⟨V1, hV1⟩ : ∃ z, z = sv_I (sv_I V 145 n a) 0 7 (nI (n + 1)) := ⟨_, rfl⟩
      rw [← hV1]
      have g1 : V1.1 146 144 = nI n := by rw [hV1, vI_cell _ _ _ _ (by decide), vI_cell _ _ _ _ (by decide), c2]
      refine ⟨nI (n + 1), V1, sv_I (sv_I V1 205 n a) 146 144 (nI (n + 1)), rfl, ?_, ⟨n + 1, by omega, ?_, ?_, fun j hj => ?_⟩, ?_, ?_⟩
      · unfold F_X12_type
        rw [F_in, if_pos (hin.mpr ⟨Int32.not_lt.mp h0, h1⟩), Option.bind_some]
        dsimp only
        rw [if_neg (by decide), g1, if_neg (show ¬ nI n = 100 from fun h => absurd ((nI_eq (a := n) (b := 100) (by omega) (by decide)).mp h) (by omega)), if_pos (sx_in_nI hn1 (by decide)), nI_clamp (by omega)]
        dsimp only [sx_let]
        rw [vI_same, vI_cell V1 (a := 205) (b := 146) n 144 a (by decide), g1, nI_1]
      · rw [vI_cell _ _ _ _ (by decide), vI_cell _ _ _ _ (by decide), hV1, vI_same]
      · rw [vI_same]
      · have q1 : (sv_I (sv_I V1 205 n a) 146 144 (nI (n + 1))).1 205 j = if j = n then a else V.1 205 j := by
          rw [vI_cell (sv_I V1 205 n a) (a := 146) (b := 205) 144 j _ (by decide)]
          by_cases e : j = n
          · rw [e, vI_same, if_pos rfl]
          · rw [vI_place _ _ _ e, if_neg e, hV1, vI_cell _ _ _ _ (by decide), vI_cell _ _ _ _ (by decide)]
        have q2 : (sv_I (sv_I V1 205 n a) 146 144 (nI (n + 1))).1 145 j = if j = n then a else V.1 145 j := by
          rw [vI_cell (sv_I V1 205 n a) (a := 146) (b := 145) 144 j _ (by decide), vI_cell V1 (a := 205) (b := 145) n j a (by decide), hV1, vI_cell (sv_I V 145 n a) (a := 0) (b := 145) 7 j _ (by decide)]
          by_cases e : j = n
          · rw [e, vI_same, if_pos rfl]
          · rw [vI_place _ _ _ e, if_neg e]
        rw [q1, q2]
        by_cases e : j = n
        · rw [if_pos e, if_pos e]
          exact ⟨rfl, Int32.not_lt.mp h0, h1⟩
        · rw [if_neg e, if_neg e]
          exact hb j (by omega)
      · exact sv_eq.trans (sv_eq_I rfl (sv_hit_n (by decide) _)) (sv_eq_I hV1 (by decide))
      · exact sv_eq.trans (sv_eq_I rfl (sv_hit_n (by decide) _)) (sv_eq_I rfl (by decide))
    · refine ⟨-4, V, V, if_neg hf, ?_, ⟨n, hn, c1, c2, hb⟩, sv_eq_rf, sv_eq_rf⟩
      have hn2 : n = 100 := by
        rcases Nat.lt_or_ge n 100 with q | q
        · exact absurd ((nI_ltI (a := n) (b := 100) (by omega) (by decide)).mpr q) hf
        · omega
      unfold F_X12_type
      rw [F_in, if_pos (hin.mpr ⟨Int32.not_lt.mp h0, h1⟩), Option.bind_some]
      dsimp only
      rw [if_neg (by decide), c2, hn2, if_pos (show nI 100 = 100 from rfl)]
  · refine ⟨-2, V, V, if_neg h1, ?_, ⟨n, hn, c1, c2, hb⟩, sv_eq_rf, sv_eq_rf⟩
    unfold F_X12_type
    rw [F_in, if_neg (fun h => h1 (hin.mp h).2), Option.bind_some]
    dsimp only
    rw [if_pos rfl]
