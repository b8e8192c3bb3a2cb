/-! LAYER 3: Arrays.fill; canvas, pixel -/
/-- the places i .. n - 1 of the cell a are x -/
def vfr (V : sv_V) (a i n : Nat) (x : Int32) : sv_V := ((fun b j => if b = a ∧ i ≤ j ∧ j < n then x else V.1 b j), V.2)
theorem vfr_end (V : sv_V) (a n : Nat) (x : Int32) : vfr V a n n x = V := by
  unfold vfr
  have : (fun b j => if b = a ∧ n ≤ j ∧ j < n then x else V.1 b j) = V.1 := by
    funext b j
    rw [if_neg (by omega)]
  rw [this]
theorem vfr_step (V : sv_V) (a : Nat) {i n : Nat} (x : Int32) (h : i < n) : vfr (sv_I V a i x) a (i + 1) n x = vfr V a i n x := by
  unfold vfr sv_I
  have : (fun b j => if b = a ∧ i + 1 ≤ j ∧ j < n then x else if b = a ∧ j = i then x else V.1 b j) = fun b j => if b = a ∧ i ≤ j ∧ j < n then x else V.1 b j := by
    funext b j
    by_cases hb : b = a
    · by_cases h1 : j = i
      · rw [if_neg (by omega), if_pos ⟨hb, h1⟩, if_pos (by omega)]
      · by_cases h2 : i + 1 ≤ j ∧ j < n
        · rw [if_pos ⟨hb, h2⟩, if_pos (by omega)]
        · rw [if_neg (fun q => h2 q.2), if_neg (fun q => h1 q.2), if_neg (by omega)]
    · rw [if_neg (fun q => hb q.1), if_neg (fun q => hb q.1), if_neg (fun q => hb q.1)]
  show ((fun b j => if b = a ∧ i + 1 ≤ j ∧ j < n then x else if b = a ∧ j = i then x else V.1 b j), V.2) = _
  rw [this]
theorem vfr_in (V : sv_V) {a i n j : Nat} (x : Int32) (h : i ≤ j ∧ j < n) : (vfr V a i n x).1 a j = x := if_pos ⟨rfl, h⟩
theorem vfr_cell (V : sv_V) {a b : Nat} (i n j : Nat) (x : Int32) (h : b ≠ a) : (vfr V a i n x).1 b j = V.1 b j := if_neg (fun q => h q.1)
theorem vfr_out (V : sv_V) {a i n j : Nat} (x : Int32) (h : ¬ (i ≤ j ∧ j < n)) : (vfr V a i n x).1 a j = V.1 a j := if_neg (fun q => h q.2)
theorem vfr_eq (V : sv_V) (a i n : Nat) (x : Int32) {L : List (Nat × Option Nat)} (h : ∀ k, sv_hit L a k = true) : sv_eq L V (vfr V a i n x) := fun b k hb => ⟨vfr_cell V i n k x (fun e => by rw [e, h] at hb; cases hb), rfl, rfl⟩
theorem fill_I_loop {a n N : Nat} {x : Int32} (hl : sv_len 0 a = some n) (hn : n < 2 ^ 31) : ∀ (r i m : Nat) (V : sv_V), r = n - i → i ≤ n → r < m → sx_lp5 (B_J7_fill_53178_5 N) m a x (nI i) (nI n) V = some (vfr V a i n x) := by
  intro r
  induction r with
  | zero =>
    intro i m V hr hi hm
    obtain ⟨m, rfl⟩ : ∃ m', m = m' + 1 := ⟨m - 1, by omega⟩
    have e : i = n := by omega
    subst e
    show B_J7_fill_53178_5 N _ a x (nI i) (nI i) V = _
    unfold B_J7_fill_53178_5
    rw [if_pos (Int32.le_refl _), vfr_end]
  | succ r ih =>
    intro i m V hr hi hm
    obtain ⟨m, rfl⟩ : ∃ m', m = m' + 1 := ⟨m - 1, by omega⟩
    have h1 := ih (i + 1) m (sv_I V a i x) (by omega) (by omega) (by omega)
    show B_J7_fill_53178_5 N (sx_lp5 (B_J7_fill_53178_5 N) m) a x (nI i) (nI n) V = _
    generalize sx_lp5 (B_J7_fill_53178_5 N) m = kk at h1 ⊢
    unfold B_J7_fill_53178_5
    dsimp only [sx_let]
    rw [if_neg (fun h => absurd ((nI_leI (by omega) (by omega)).mp h) (by omega)), hl, Option.bind_some]
    rw [if_pos (sx_in_nI (by omega) hn), nI_clamp (by omega), nI_1, h1, vfr_step _ _ _ (by omega)]
theorem fill_I {a n N : Nat} {x : Int32} {V : sv_V} (hl : sv_len 0 a = some n) (hn : n < 2 ^ 31) (hN : n < N) : F_J7_fill_53178 N a x V = some (vfr V a 0 n x) := by
  unfold F_J7_fill_53178
  dsimp only [sx_let]
  rw [hl, Option.bind_some]
  exact fill_I_loop hl hn n 0 N V (by omega) (by omega) hN
theorem fill_B_loop {a n N : Nat} {x : Int32} (hl : sv_len 1 a = some n) (hn : n < 2 ^ 31) : ∀ (r i m : Nat) (V : sv_V), r = n - i → i ≤ n → r < m → sx_lp5 (B_J7_fill_031fb_5 N) m a x (nI i) (nI n) V = some (vfr V a i n x.toInt8.toInt32) := by
  intro r
  induction r with
  | zero =>
    intro i m V hr hi hm
    obtain ⟨m, rfl⟩ : ∃ m', m = m' + 1 := ⟨m - 1, by omega⟩
    have e : i = n := by omega
    subst e
    show B_J7_fill_031fb_5 N _ a x (nI i) (nI i) V = _
    unfold B_J7_fill_031fb_5
    rw [if_pos (Int32.le_refl _), vfr_end]
  | succ r ih =>
    intro i m V hr hi hm
    obtain ⟨m, rfl⟩ : ∃ m', m = m' + 1 := ⟨m - 1, by omega⟩
    have h1 := ih (i + 1) m (sv_I V a i x.toInt8.toInt32) (by omega) (by omega) (by omega)
    show B_J7_fill_031fb_5 N (sx_lp5 (B_J7_fill_031fb_5 N) m) a x (nI i) (nI n) V = _
    generalize sx_lp5 (B_J7_fill_031fb_5 N) m = kk at h1 ⊢
    unfold B_J7_fill_031fb_5
    dsimp only [sx_let]
    rw [if_neg (fun h => absurd ((nI_leI (by omega) (by omega)).mp h) (by omega)), hl, Option.bind_some]
    rw [if_pos (sx_in_nI (by omega) hn), nI_clamp (by omega), nI_1, h1, vfr_step _ _ _ (by omega)]
theorem fill_B {a n N : Nat} {x : Int32} {V : sv_V} (hl : sv_len 1 a = some n) (hn : n < 2 ^ 31) (hN : n < N) : F_J7_fill_031fb N a x V = some (vfr V a 0 n x.toInt8.toInt32) := by
  unfold F_J7_fill_031fb
  dsimp only [sx_let]
  rw [hl, Option.bind_some]
  exact fill_B_loop hl hn n 0 N V (by omega) (by omega) hN
theorem canvas_m_loop {N : Nat} : ∀ (r i m : Nat) (V : sv_V), r = 16384 - i → i ≤ 16384 → r < m → sx_lp2 (B_X12_canvas_39 N) m (nI i) V = some (1, vfr V 204 i 16384 0) := by
  intro r
  induction r with
  | zero =>
    intro i m V hr hi hm
    obtain ⟨m, rfl⟩ : ∃ m', m = m' + 1 := ⟨m - 1, by omega⟩
    have e : i = 16384 := by omega
    subst e
    show B_X12_canvas_39 N _ (nI 16384) V = _
    unfold B_X12_canvas_39
    rw [if_pos (show (16384 : Int32) ≤ nI 16384 by decide), vfr_end]
  | succ r ih =>
    intro i m V hr hi hm
    obtain ⟨m, rfl⟩ : ∃ m', m = m' + 1 := ⟨m - 1, by omega⟩
    have h1 := ih (i + 1) m (sv_I V 204 i 0) (by omega) (by omega) (by omega)
    show B_X12_canvas_39 N (sx_lp2 (B_X12_canvas_39 N) m) (nI i) V = _
    generalize sx_lp2 (B_X12_canvas_39 N) m = kk at h1 ⊢
    unfold B_X12_canvas_39
    dsimp only [sx_let]
    rw [if_neg (show ¬ (16384 : Int32) ≤ nI i from fun h => absurd ((nI_leI (a := 16384) (by decide) (by omega)).mp h) (by omega)), if_pos (sx_in_nI (by omega) (by decide)), nI_clamp (by omega), nI_1, h1, vfr_step _ _ _ (by omega)]
/-- the canvas -/
def I_canvas (V : sv_V) : Prop := ∃ w h, w ≤ 128 ∧ h ≤ 128 ∧ V.1 143 1 = nI w ∧ V.1 143 2 = nI h ∧ V.1 146 141 = nI w ∧ V.1 146 142 = nI h ∧ ∀ j, j < 16384 → V.1 204 j = V.1 144 j ∧ (V.1 144 j = 0 ∨ V.1 144 j = 1)
theorem in_1_128 (a : Int32) : ((1 : Int64) ≤ a.toInt64 ∧ a.toInt64 ≤ 128) ↔ (1 ≤ a ∧ a ≤ 128) := ⟨fun h => ⟨(toI64_le (x := 1)).mp h.1, (toI64_le (y := 128)).mp h.2⟩, fun h => ⟨(toI64_le (x := 1)).mpr h.1, (toI64_le (y := 128)).mpr h.2⟩⟩
theorem of_1_128 {a : Int32} (h1 : ¬ a < 1) (h2 : a ≤ 128) : ∃ w, w ≤ 128 ∧ a = nI w := nI_of2 (M := 128) (n := 128) (by decide) (fun h => h1 (Int32.lt_of_lt_of_le h (by decide))) h2
theorem canvas_alike {N : Nat} (hN : 20000 ≤ N) {V : sv_V} (hV : I_canvas V) (a b : Int32) : ∃ x V1 V2, F_X11_canvas N a b V = some (x, V1) ∧ F_X12_canvas N a b V1 = some (x, V2) ∧ I_canvas V2 ∧ sv_eq [(143, some 1), (143, some 2), (144, none)] V V1 ∧ sv_eq [(146, some 141), (146, some 142), (204, none)] V1 V2 := by
  have no : ∀ U : sv_V, ¬ ((1 ≤ a ∧ a ≤ 128) ∧ (1 ≤ b ∧ b ≤ 128)) → F_X12_canvas N a b U = some (-2, U) := fun U h => by
    unfold F_X12_canvas
    rw [F_in, Option.bind_some]
    dsimp only
    by_cases ha : 1 ≤ a ∧ a ≤ 128
    · rw [if_pos ((in_1_128 a).mpr ha), if_neg (by decide), F_in, Option.bind_some]
      dsimp only
      rw [if_neg (fun q => h ⟨ha, (in_1_128 b).mp q⟩), if_pos rfl]
    · rw [if_neg (fun q => ha ((in_1_128 a).mp q)), if_pos rfl]
  unfold F_X11_canvas
  by_cases h1 : a < 1
  · exact ⟨-2, V, V, if_pos h1, no V (fun h => absurd h.1.1 (Int32.not_le.mpr h1)), hV, sv_eq_rf, sv_eq_rf⟩
  rw [if_neg h1]
  by_cases h2 : 128 < a
  · exact ⟨-2, V, V, if_pos h2, no V (fun h => absurd h.1.2 (Int32.not_le.mpr h2)), hV, sv_eq_rf, sv_eq_rf⟩
  rw [if_neg h2]
  by_cases h3 : b < 1
  · exact ⟨-2, V, V, if_pos h3, no V (fun h => absurd h.2.1 (Int32.not_le.mpr h3)), hV, sv_eq_rf, sv_eq_rf⟩
  rw [if_neg h3]
  by_cases h4 : b ≤ 128
  · rw [if_pos h4]
    obtain ⟨w, hw, rfl⟩ := of_1_128 h1 (Int32.not_lt.mp h2)
    obtain ⟨k, hk, rfl⟩ := of_1_128 h3 h4
    have e1 : F_X1_renew N (nI w) (nI k) V = some (vfr (sv_I (sv_I V 143 1 (nI w)) 143 2 (nI k)) 144 0 16384 0) := by
      unfold F_X1_renew
      dsimp only [sx_let]
      rw [fill_B (n := 16384) rfl (by decide) (by omega)]
      rfl
    rw [e1, Option.bind_some]
    obtain ⟨V1, hV1⟩ : ∃ z, z = vfr (sv_I (sv_I V 143 1 (nI w)) 143 2 (nI k)) 144 0 16384 0 := ⟨_, rfl⟩
    rw [← hV1]
    refine ⟨1, V1, vfr (sv_I (sv_I V1 146 141 (nI w)) 146 142 (nI k)) 204 0 16384 0, rfl, ?_, ⟨w, k, hw, hk, ?_, ?_, ?_, ?_, fun j hj => ?_⟩, ?_, ?_⟩
    · unfold F_X12_canvas
      dsimp only [sx_let]
      rw [F_in, if_pos ((in_1_128 _).mpr ⟨Int32.not_lt.mp h1, Int32.not_lt.mp h2⟩), Option.bind_some]
      dsimp only
      rw [if_neg (by decide), F_in, if_pos ((in_1_128 _).mpr ⟨Int32.not_lt.mp h3, h4⟩), Option.bind_some]
      dsimp only
      rw [if_neg (by decide)]
      exact canvas_m_loop 16384 0 N _ (by omega) (by omega) (by omega)
    · rw [vfr_cell _ _ _ _ _ (by decide), vI_cell _ _ _ _ (by decide), vI_cell _ _ _ _ (by decide), hV1, vfr_cell _ _ _ _ _ (by decide), vI_place _ _ _ (by decide), vI_same]
    · rw [vfr_cell _ _ _ _ _ (by decide), vI_cell _ _ _ _ (by decide), vI_cell _ _ _ _ (by decide), hV1, vfr_cell _ _ _ _ _ (by decide), vI_same]
    · rw [vfr_cell _ _ _ _ _ (by decide), vI_place _ _ _ (by decide), vI_same]
    · rw [vfr_cell _ _ _ _ _ (by decide), vI_same]
    · rw [vfr_in _ _ ⟨Nat.zero_le _, hj⟩, vfr_cell _ _ _ _ _ (by decide), vI_cell _ _ _ _ (by decide), vI_cell _ _ _ _ (by decide), hV1, vfr_in _ _ ⟨Nat.zero_le _, hj⟩]
      exact ⟨rfl, Or.inl rfl⟩
    · rw [hV1]
      exact sv_eq.trans (sv_eq.trans (sv_eq_I rfl (by decide)) (sv_eq_I rfl (by decide))) (vfr_eq _ _ _ _ _ (sv_hit_n (by decide)))
    · exact sv_eq.trans (sv_eq.trans (sv_eq_I rfl (by decide)) (sv_eq_I rfl (by decide))) (vfr_eq _ _ _ _ _ (sv_hit_n (by decide)))
  · exact ⟨-2, V, V, if_neg h4, no V (fun h => h4 h.2.2), hV, sv_eq_rf, sv_eq_rf⟩
theorem pixel_alike {V : sv_V} (hV : I_canvas V) (a b : Int32) : ∃ x, F_X11_pixel a b V = some (x, V) ∧ F_X12_pixel a b V = some (x, V) := by
  obtain ⟨w, h, hw, hh, c1, c2, c3, c4, hp⟩ := hV
  have sub1 : ∀ k : Nat, k ≤ 128 → ∀ x : Int32, ((0 : Int64) ≤ x.toInt64 ∧ x.toInt64 ≤ ((nI k) - (1 : Int32)).toInt64) ↔ (0 ≤ x ∧ x < nI k) := by
    intro k hk x
    rw [show (0 : Int64) = (0 : Int32).toInt64 from rfl, toI64_le, toI64_le, Int32.le_iff_toInt_le, Int32.le_iff_toInt_le, Int32.lt_iff_toInt_lt, show (1 : Int32) = nI 1 from rfl, pk_sub_toInt (by omega) (by decide), nI_toInt (by omega)]
    omega
  have model : ∀ y, ((0 ≤ a ∧ a < nI w) ∧ (0 ≤ b ∧ b < nI h) → ∀ i j : Nat, i < w → j < h → a = nI i → b = nI j → V.1 144 (128 * j + i) = y) → (¬ ((0 ≤ a ∧ a < nI w) ∧ (0 ≤ b ∧ b < nI h)) → y = -1) → F_X12_pixel a b V = some (y, V) := by
    intro y hin hout
    unfold F_X12_pixel
    rw [c3, F_in, Option.bind_some]
    dsimp only
    by_cases ha : 0 ≤ a ∧ a < nI w
    · rw [if_pos ((sub1 w hw a).mpr ha), if_neg (by decide), c4, F_in, Option.bind_some]
      dsimp only
      by_cases hb : 0 ≤ b ∧ b < nI h
      · obtain ⟨i, hi, rfl⟩ := nI_of (Int32.not_lt.mpr ha.1)
        obtain ⟨j, hj, rfl⟩ := nI_of (Int32.not_lt.mpr hb.1)
        have hi2 : i < w := (nI_ltI (by omega) (by omega)).mp ha.2
        have hj2 : j < h := (nI_ltI (by omega) (by omega)).mp hb.2
        have hidx : (128 : Int32) * nI j + nI i = nI (128 * j + i) := by rw [show (128 : Int32) = nI 128 from rfl, pk_mul, ll_add]
        have hlt : 128 * j + i < 16384 := by omega
        rw [if_pos ((sub1 h hh _).mpr hb), if_neg (by decide), hidx, if_pos (sx_in_nI hlt (by decide)), nI_clamp (by omega), (hp _ hlt).1, hin ⟨ha, hb⟩ i j hi2 hj2 rfl rfl]
        have hy := (hp _ hlt).2
        rw [hin ⟨ha, hb⟩ i j hi2 hj2 rfl rfl] at hy
        rcases hy with rfl | rfl
        · rw [if_pos rfl]
        · rw [if_neg (by decide)]
      · rw [if_neg (fun q => hb ((sub1 h hh b).mp q)), if_pos rfl, hout (fun q => hb q.2)]
        rfl
    · rw [if_neg (fun q => ha ((sub1 w hw a).mp q)), if_pos rfl, hout (fun q => ha q.1)]
      rfl
  unfold F_X11_pixel
  by_cases h1 : a < 0
  · exact ⟨-1, if_pos h1, model _ (fun q => absurd q.1.1 (Int32.not_le.mpr h1)) (fun _ => rfl)⟩
  rw [if_neg h1, c1, c2]
  by_cases h2 : nI w ≤ a
  · exact ⟨-1, if_pos h2, model _ (fun q => absurd q.1.2 (Int32.not_lt.mpr h2)) (fun _ => rfl)⟩
  rw [if_neg h2]
  by_cases h3 : b < 0
  · exact ⟨-1, if_pos h3, model _ (fun q => absurd q.2.1 (Int32.not_le.mpr h3)) (fun _ => rfl)⟩
  rw [if_neg h3]
  by_cases h4 : b < nI h
  · obtain ⟨i, hi, rfl⟩ := nI_of h1
    obtain ⟨j, hj, rfl⟩ := nI_of h3
    have hi2 : i < w := (nI_ltI hi (by omega)).mp (Int32.not_le.mp h2)
    have hj2 : j < h := (nI_ltI hj (by omega)).mp h4
    have hidx : nI j * (128 : Int32) + nI i = nI (128 * j + i) := by rw [show (128 : Int32) = nI 128 from rfl, pk_mul, ll_add, Nat.mul_comm]
    have hlt : 128 * j + i < 16384 := by omega
    rw [if_pos h4, hidx, if_pos (sx_in_nI hlt (by decide)), nI_clamp (by omega)]
    refine ⟨V.1 144 (128 * j + i), rfl, model _ (fun _ i' j' hi' hj' e1 e2 => ?_) (fun q => absurd ⟨⟨Int32.not_lt.mp h1, Int32.not_le.mp h2⟩, Int32.not_lt.mp h3, h4⟩ q)⟩
    rw [(nI_eq hi (by omega)).mp e1, (nI_eq hj (by omega)).mp e2]
  · exact ⟨-1, if_neg h4, model _ (fun q => absurd q.2.2 h4) (fun _ => rfl)⟩
