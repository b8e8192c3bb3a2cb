/-! font, table, kern: the class and the reference alike -/
theorem ite_so {A : Type} {c : Prop} [Decidable c] {x y : A} {V : sv_V} {o : Option (A × sv_V)} (h : o = some (y, V)) : (if c then some (x, V) else o) = some ((if c then x else y), V) := by
  by_cases z : c
  · rw [if_pos z, if_pos z]
  · rw [if_neg z, if_neg z]
    exact h
def fntA (d : Nat → Int32) (n fo cnt : Nat) (a : Int32) : Int32 := if a = 0 then nI (unO d n) else if a = 1 then nI (glO d n) else if a = 2 then nI (meO d n) else if a = 3 then nI (foO d n) else if a = 4 then nI (tbl d n) else if a = 5 then nI fo else if a = 6 then nI (paO d n) else if a = 7 then nI (lO d n 1668707360 / 2) else if a = 8 then nI cnt else if a = 9 then nI n else -2
section FN
variable {d : Nat → Int32} {n N : Nat} {V V1 : sv_V}
/-- what a font that is LOADED fulfils -/
theorem FT_all (h : FT (KL d n) 1 0) : K1 d n ∧ K2 d n ∧ K3 d n ∧ K4 d n ∧ K5 d n ∧ K6 d n ∧ K7 d n ∧ K8 d n ∧ K9 d n ∧ K10 d n ∧ K11 d n ∧ K12 d n ∧ K13 d n ∧ K14 d n := by
  have nz : ∀ i : Nat, 0 < i → i < 20 → ¬ (0 : Int32) = nI i := fun i h0 h1 z => nI_ne0 h0 (by omega) z.symm
  rcases h with ⟨-, z⟩ | ⟨k1, h⟩
  · exact absurd z (nz 1 (by decide) (by decide))
  rcases h with ⟨-, z⟩ | ⟨k2, h⟩
  · exact absurd z (nz 2 (by decide) (by decide))
  rcases h with ⟨-, z⟩ | ⟨k3, h⟩
  · exact absurd z (nz 3 (by decide) (by decide))
  rcases h with ⟨-, z⟩ | ⟨k4, h⟩
  · exact absurd z (nz 4 (by decide) (by decide))
  rcases h with ⟨-, z⟩ | ⟨k5, h⟩
  · exact absurd z (nz 5 (by decide) (by decide))
  rcases h with ⟨-, z⟩ | ⟨k6, h⟩
  · exact absurd z (nz 6 (by decide) (by decide))
  rcases h with ⟨-, z⟩ | ⟨k7, h⟩
  · exact absurd z (nz 7 (by decide) (by decide))
  rcases h with ⟨-, z⟩ | ⟨k8, h⟩
  · exact absurd z (nz 8 (by decide) (by decide))
  rcases h with ⟨-, z⟩ | ⟨k9, h⟩
  · exact absurd z (nz 9 (by decide) (by decide))
  rcases h with ⟨-, z⟩ | ⟨k10, h⟩
  · exact absurd z (nz 10 (by decide) (by decide))
  rcases h with ⟨-, z⟩ | ⟨k11, h⟩
  · exact absurd z (nz 11 (by decide) (by decide))
  rcases h with ⟨-, z⟩ | ⟨k12, h⟩
  · exact absurd z (nz 12 (by decide) (by decide))
  rcases h with ⟨-, z⟩ | ⟨k13, h⟩
  · exact absurd z (nz 13 (by decide) (by decide))
  rcases h with ⟨-, z⟩ | ⟨k14, h⟩
  · exact absurd z (nz 14 (by decide) (by decide))
  exact ⟨k1, k2, k3, k4, k5, k6, k7, k8, k9, k10, k11, k12, k13, k14⟩
/-- the MAP, as both hold it -/
theorem LX_map (h : LX d n V) : ∃ fo at' len cnt, MPF d n fo at' len cnt ∧ (V.1 2 11 = nI fo ∧ V.1 2 12 = nI at' ∧ V.1 2 13 = nI len ∧ V.1 2 14 = nI cnt) ∧ V.1 146 22 = nI fo ∧ V.1 146 21 = nI at' ∧ V.1 146 23 = nI cnt := by
  obtain ⟨-, -, ⟨-, -, -, -, -, -, ⟨fo, at', len, cnt, z1, z2, z3, z4, z5⟩⟩, ⟨-, -, -, ⟨fo2, at2, len2, cnt2, y1, y2, y3, y4⟩, -, -⟩⟩ := h
  obtain ⟨e1, e2, e3, e4⟩ := MPF_u z1 y1
  subst e1 e2 e3 e4
  exact ⟨fo, at', len, cnt, z1, ⟨z2, z3, z4, z5⟩, y2, y3, y4⟩
theorem font_x {fo at' len cnt : Nat} (h : LX d n V) (hm : MPF d n fo at' len cnt) (h3 : K3 d n) (a : Int32) : F_X11_font a V = some (fntA d n fo cnt a, V) ∧ F_X12_font a V = some (fntA d n fo cnt a, V) := by
  obtain ⟨fo2, at2, len2, cnt2, m2, ⟨c11, -, -, c14⟩, r22, -, r23⟩ := LX_map h
  obtain ⟨e1, e2, e3, e4⟩ := MPF_u hm m2
  subst e1 e2 e3 e4
  obtain ⟨f1, f2, ⟨cb, c6, c7, c8, c9, c15, -⟩, ⟨⟨⟨⟨r1, r3, -⟩, r5, -⟩, r11, r12⟩, r10, r20, -, r24, r25⟩⟩ := h
  have c5 : V.1 5 (8 : Int32).toNatClampNeg = nI (lO d n 1668707360) := (cb.2.2.2 8 (by decide)).2
  have b1 := bO_le (t := 1668707360) h3
  constructor
  · unfold F_X11_font fntA
    rw [if_neg (by rw [f1]; decide), c6, c7, c8, c9, cb.2.1, c11, c15, c5, c14, cb.1.2.1, show nI (lO d n 1668707360) / (2 : Int32) = nI (lO d n 1668707360 / 2) from pk_div (d := 2) (by omega) (by decide) (by decide)]
    exact ite_so (ite_so (ite_so (ite_so (ite_so (ite_so (ite_so (ite_so (ite_so (ite_so rfl)))))))))
  · unfold F_X12_font fntA
    rw [if_neg (by rw [f2]; decide), r10, r12, r20, r11, r5, r22, r24, r25, r23, r3]
    exact ite_so (ite_so (ite_so (ite_so (ite_so (ite_so (ite_so (ite_so (ite_so (ite_so rfl)))))))))
/-- two calls that answer by the font alone -/
theorem two_alike {A : Type} {f g : sv_V → Option (A × sv_V)} {md : List (Nat × Option Nat)} {x y : A} {V1 V2 : sv_V} {no : A} (hE : LE V) (e1 : f V = some (x, V1)) (e2 : g V1 = some (y, V2)) (m : sv_eq md V V1) (c : md.all okq = true) (n1 : V.1 2 2 = 0 → Pt (fun q : A × sv_V => q.1 = no) (f V)) (n2 : V1.1 146 4 = 0 → Pt (fun q : A × sv_V => q.1 = no) (g V1)) (h : ∀ d n, DB d → FT (KL d n) 1 0 → LX d n V → LX d n V1 → ∃ z, Pt (fun q : A × sv_V => q.1 = z) (f V) ∧ Pt (fun q : A × sv_V => q.1 = z) (g V1)) : x = y := by
  rcases hE with ⟨a, b⟩ | ⟨d, n, hd, hf, hx⟩
  · have b1 : V1.1 146 4 = 0 := (m 146 4 (okq_h c (Or.inr (Or.inr (Or.inr ⟨rfl, by omega⟩))))).1.trans b
    exact (n1 a _ e1).trans (n2 b1 _ e2).symm
  · obtain ⟨z, p, q⟩ := h d n hd hf hx (LX_md hx m c)
    exact (p _ e1).trans (q _ e2).symm
theorem pt_e {A : Type} {x : A} {o : Option (A × sv_V)} (h : o = some (x, V)) : Pt (fun q : A × sv_V => q.1 = x) o := fun a e => by
  rw [h] at e
  cases e
  rfl
theorem al_font (hN : 8589934592 ≤ N) (B : BK N V) (a : Int32) : ∃ x V1 V2, F_X11_font a V = some (x, V1) ∧ F_X12_font a V1 = some (x, V2) ∧ BK N V2 ∧ V1.1 1000 = V.1 1000 := by
  obtain ⟨x, y, V1, V2, e1, e2, z, s⟩ := o3_font hN B a
  have exy : x = y := two_alike (no := -3) B.2.2 e1 e2 (m_X11_font sv_sub_rf e1) rfl (fun q => by unfold F_X11_font; rw [if_pos q]; exact pt_some rfl) (fun q => by unfold F_X12_font; rw [if_pos q]; exact pt_some rfl) (fun d n hd hf h1 h2 => by
    obtain ⟨fo, at', len, cnt, m, -⟩ := LX_map h1
    have k3 := (FT_all hf).2.2.1
    exact ⟨_, pt_e (font_x h1 m k3 a).1, pt_e (font_x h2 m k3 a).2⟩)
  subst exy
  exact ⟨x, V1, V2, e1, e2, z, s⟩
theorem in_0 {T : Nat} (h1 : 1 ≤ T) (h2 : T < 2 ^ 31) (a : Int32) : F_X12_in a.toInt64 0 ((nI T - 1).toInt64) V = some (if 0 ≤ a ∧ a < nI T then 1 else 0, V) := by
  rw [F_in]
  have e : ((0 : Int64) ≤ a.toInt64 ∧ a.toInt64 ≤ (nI T - 1).toInt64) ↔ (0 ≤ a ∧ a < nI T) := by
    rw [show nI T - (1 : Int32) = nI (T - 1) from pk_sub (b := 1) h1, show (0 : Int64) = (0 : Int32).toInt64 from rfl, toI64_le, toI64_le, Int32.le_iff_toInt_le, Int32.le_iff_toInt_le, Int32.lt_iff_toInt_lt, nI_toInt h2, nI_toInt (by omega)]
    omega
  by_cases c : 0 ≤ a ∧ a < nI T
  · rw [if_pos c, if_pos (e.mpr c)]
  · rw [if_neg c, if_neg (fun z => c (e.mp z))]
def tblA (d : Nat → Int32) (n : Nat) (a b : Int32) : Int64 := if 0 ≤ a ∧ a < nI (tbl d n) then (if 0 ≤ b ∧ b ≤ 3 then lN (en d n a.toNatClampNeg b.toNatClampNeg) else -2) else -1
theorem table_c (h : LX d n V) (h1 : K1 d n) (a b : Int32) : Pt (fun q : Int64 × sv_V => q.1 = tblA d n a b) (F_X11_table a b V) := by
  obtain ⟨-, -, t1, t2, -, -, -, ee⟩ := h1
  unfold F_X11_table tblA
  rw [if_neg (show ¬ V.1 2 2 = 0 by rw [h.1]; decide), h.2.2.1.1.2.1]
  refine pt_ite (fun q => pt_some ?_) (fun q => pt_ite (fun q1 => pt_ite (fun q2 => pt_some ?_) (fun q2 => pt_ite (fun q3 => ?_) (fun q3 => pt_some ?_))) (fun q1 => pt_some ?_))
  · rw [if_neg (fun z => absurd z.1 (Int32.not_le.mpr q))]
  · rw [if_pos ⟨Int32.not_lt.mp q, q1⟩, if_neg (fun z => absurd z.1 (Int32.not_le.mpr q2))]
  · rw [if_pos ⟨Int32.not_lt.mp q, q1⟩, if_pos ⟨Int32.not_lt.mp q2, q3⟩]
    obtain ⟨k, hk, rfl⟩ := nI_of q
    obtain ⟨w, hw, rfl⟩ := nI_of q2
    have k1 := (nI_ltI hk (by omega)).mp q1
    have w1 := (nI_leI (b := 3) hw (by decide)).mp q3
    rw [nI_clamp hk, nI_clamp hw, show (16 : Int32) * nI k = nI (16 * k) from pk_mul 16 _, show (12 : Int32) + nI (16 * k) = nI (12 + 16 * k) from nI_add 12 _, show (4 : Int32) * nI w = nI (4 * w) from pk_mul 4 _, nI_add, u4_c h.2.2.1.1.1 (by omega), Option.bind_some, c4_g (by omega)]
    exact pt_some rfl
  · rw [if_pos ⟨Int32.not_lt.mp q, q1⟩, if_neg (fun z => q3 z.2)]
  · rw [if_neg (fun z => q1 z.2)]
theorem table_r (h : LX d n V) (h1 : K1 d n) (a b : Int32) : Pt (fun q : Int64 × sv_V => q.1 = tblA d n a b) (F_X12_table a b V) := by
  obtain ⟨-, -, t1, t2, -, -, -, ee⟩ := h1
  have rb := h.2.2.2.1.1
  unfold F_X12_table
  rw [if_neg (show ¬ V.1 146 4 = 0 by rw [h.2.1]; decide), rb.2.1, in_0 t1 (by omega), Option.bind_some]
  dsimp only
  refine pt_ite (fun q => pt_some ?_) (fun q => ?_)
  · unfold tblA
    rw [if_neg (ite_z.mp q)]
  have q' := nnx (fun z => q (ite_z.mpr z))
  obtain ⟨k, hk, rfl⟩ := nI_of (Int32.not_lt.mpr q'.1)
  have k1 := (nI_ltI hk (by omega)).mp q'.2
  obtain ⟨e0, e1, e2, e3⟩ := rb.2.2 k k1
  have l0 := en_lt (d := d) (n := n) (k := k) (w := 0)
  have ta : tblA d n (nI k) b = if 0 ≤ b ∧ b ≤ 3 then lN (en d n k b.toNatClampNeg) else -2 := by
    unfold tblA
    rw [if_pos q', nI_clamp hk]
  rw [nI_clamp hk, e0, e1, e2, e3, tag_and l0, ta]
  refine pt_ite (fun z => pt_g fun _ => pt_some ?_) (fun z0 => pt_ite (fun z => pt_g fun _ => pt_some ?_) (fun z1 => pt_ite (fun z => pt_g fun _ => pt_some ?_) (fun z2 => pt_ite (fun z => pt_g fun _ => pt_some ?_) (fun z3 => pt_some ?_))))
  · subst z
    rfl
  · subst z
    rfl
  · subst z
    rfl
  · subst z
    rfl
  · rw [if_neg (fun z => ?_)]
    obtain ⟨w, hw, e⟩ := nI_of (Int32.not_lt.mpr z.1)
    subst e
    have w1 := (nI_leI (b := 3) hw (by decide)).mp z.2
    match w, w1 with
    | 0, _ => exact z0 rfl
    | 1, _ => exact z1 rfl
    | 2, _ => exact z2 rfl
    | 3, _ => exact z3 rfl
    | w + 4, w1 => omega
theorem al_table (hN : 8589934592 ≤ N) (B : BK N V) (a b : Int32) : ∃ x V1 V2, F_X11_table a b V = some (x, V1) ∧ F_X12_table a b V1 = some (x, V2) ∧ BK N V2 ∧ V1.1 1000 = V.1 1000 := by
  obtain ⟨x, y, V1, V2, e1, e2, z, s⟩ := o3_table hN B a b
  have exy : x = y := two_alike (no := -3) B.2.2 e1 e2 (m_X11_table sv_sub_rf e1) rfl (fun q => by unfold F_X11_table; rw [if_pos q]; exact pt_some rfl) (fun q => by unfold F_X12_table; rw [if_pos q]; exact pt_some rfl) (fun d n hd hf h1 h2 => ⟨_, table_c h1 (FT_all hf).1 a b, table_r h2 (FT_all hf).1 a b⟩)
  subst exy
  exact ⟨x, V1, V2, e1, e2, z, s⟩
def kF (d : Nat → Int32) (n l r f k : Nat) : Int32 := match f with
  | 0 => 0
  | f + 1 => if g2 d n (bO d n 1801810542 + 18 + 6 * k) = l ∧ g2 d n (bO d n 1801810542 + 20 + 6 * k) = r then s16 (g2 d n (bO d n 1801810542 + 22 + 6 * k)) else kF d n l r f (k + 1)
theorem kern_in (h3 : K3 d n) (h13 : K13 d n) {k : Nat} (hk : k < paO d n) : bO d n 1801810542 + 24 + 6 * k ≤ n ∧ k < 500 := by
  have b := bO_le (t := 1801810542) h3
  unfold paO at hk
  split at hk
  · omega
  · rename_i c
    have z := h13.resolve_left c
    have z1 := z.2.2.2.2.1
    have z2 := z.2.2.2.2.2.1
    omega
theorem kernOf_c {l r : Nat} (hd : DB d) (h : LX d n V) (h3 : K3 d n) (h13 : K13 d n) (hl : l < 65536) (hr : r < 65536) : Pt (fun q : Int32 × sv_V => q.1 = kF d n l r (paO d n) 0) (F_X2_kernOf N (nI l) (nI r) V) := by
  have fc := h.2.2.1.1.1
  have hn := fc.1
  have c15 := h.2.2.1.2.2.2.2.2.1
  have cb : V.1 4 (7 : Int32).toNatClampNeg = nI (bO d n 1801810542) := (h.2.2.1.1.2.2.2 7 (by decide)).1
  have pl : paO d n < 65536 := by
    unfold paO
    split
    · decide
    · exact g2_lt
  unfold F_X2_kernOf
  refine pt_l4 (I := fun a1 a2 a3 W => W = V ∧ a1 = nI l ∧ a2 = nI r ∧ ∃ k, a3 = nI k ∧ k ≤ paO d n ∧ kF d n l r (paO d n - k) k = kF d n l r (paO d n) 0) ?_ N _ _ _ V ⟨rfl, rfl, rfl, 0, rfl, Nat.zero_le _, rfl⟩
  rintro kk ih a1 a2 a3 W ⟨rfl, rfl, rfl, k, rfl, kl, hk⟩
  unfold B_X2_kernOf_2
  rw [c15]
  refine pt_ite (fun q => ?_) (fun q => ?_)
  · have e : k = paO d n := by
      have := (nI_leI (by omega) (by omega)).mp q
      omega
    rw [e, Nat.sub_self] at hk
    exact pt_some hk
  have hkp : k < paO d n := nI_nle2 q (by omega)
  obtain ⟨i1, i2⟩ := kern_in h3 h13 hkp
  obtain ⟨m, hm⟩ : ∃ m, paO d n - k = m + 1 := ⟨paO d n - k - 1, by omega⟩
  rw [hm] at hk
  rw [show kF d n l r (m + 1) k = (if g2 d n (bO d n 1801810542 + 18 + 6 * k) = l ∧ g2 d n (bO d n 1801810542 + 20 + 6 * k) = r then s16 (g2 d n (bO d n 1801810542 + 22 + 6 * k)) else kF d n l r m (k + 1)) from rfl] at hk
  have a1 := g2_lt (d := d) (n := n) (P := bO d n 1801810542 + 18 + 6 * k)
  have a2 := g2_lt (d := d) (n := n) (P := bO d n 1801810542 + 20 + 6 * k)
  refine pt_let fun x3 e3 => ?_
  rw [cb, show nI (bO d n 1801810542) + (18 : Int32) = nI (bO d n 1801810542 + 18) from nI_add _ 18, show (6 : Int32) * nI k = nI (6 * k) from pk_mul 6 _, nI_add] at e3
  subst e3
  have g58 : ¬ (g2 d n (bO d n 1801810542 + 18 + 6 * k) = l ∧ g2 d n (bO d n 1801810542 + 20 + 6 * k) = r) → Pt (fun q : Int32 × sv_V => q.1 = kF d n l r (paO d n) 0) (B_X2_kernOf_58 N kk (nI l) (nI r) (nI k) W) := fun z => by
    unfold B_X2_kernOf_58
    rw [if_neg z] at hk
    exact pt_let fun x1 hx => ih _ _ _ _ ⟨rfl, rfl, rfl, k + 1, by rw [hx, nI_1], hkp, by rw [show paO d n - (k + 1) = m by omega]; exact hk⟩
  rw [u2_c fc (by omega), Option.bind_some, c2_g (by omega)]
  dsimp only
  refine pt_ite (fun q1 => ?_) (fun q1 => g58 (fun z => q1 (by rw [z.1])))
  rw [show nI (bO d n 1801810542 + 18 + 6 * k) + (2 : Int32) = nI (bO d n 1801810542 + 20 + 6 * k) by rw [show bO d n 1801810542 + 20 + 6 * k = bO d n 1801810542 + 18 + 6 * k + 2 by omega]; exact nI_add _ 2, u2_c fc (by omega), Option.bind_some, c2_g (by omega)]
  dsimp only
  refine pt_ite (fun q2 => ?_) (fun q2 => g58 (fun z => q2 (by rw [z.2])))
  rw [if_pos ⟨(nI_eq (by omega) (by omega)).mp q1, (nI_eq (by omega) (by omega)).mp q2⟩] at hk
  rw [show nI (bO d n 1801810542 + 18 + 6 * k) + (4 : Int32) = nI (bO d n 1801810542 + 22 + 6 * k) by rw [show bO d n 1801810542 + 22 + 6 * k = bO d n 1801810542 + 18 + 6 * k + 4 by omega]; exact nI_add _ 4, s2_c hd fc (by omega), Option.bind_some, c2_g (by omega)]
  exact pt_some hk
theorem kernOf_r {l r : Nat} (h : LX d n V) (h1 : K1 d n) (h3 : K3 d n) (h13 : K13 d n) (hl : l < 65536) (hr : r < 65536) : Pt (fun q : Int32 × sv_V => q.1 = kF d n l r (paO d n) 0) (F_X12_kernOf N (nI l) (nI r) V) := by
  have rb := h.2.2.2.1.1
  have fr := rb.1
  have hn := fr.1
  have r24 := h.2.2.2.2.2.2.2.1
  have pl : paO d n < 65536 := by
    unfold paO
    split
    · decide
    · exact g2_lt
  unfold F_X12_kernOf
  refine pt_bb (beginOf_r (t := 1801810542) rb h1 (by decide)) ?_
  rintro _ rfl
  dsimp only
  refine pt_l5 (I := fun a1 a2 a3 a4 W => W = V ∧ a1 = nI l ∧ a2 = nI r ∧ a3 = nI (bO d n 1801810542) ∧ ∃ k, a4 = nI k ∧ k ≤ paO d n ∧ kF d n l r (paO d n - k) k = kF d n l r (paO d n) 0) ?_ N _ _ _ _ V ⟨rfl, rfl, rfl, rfl, 0, rfl, Nat.zero_le _, rfl⟩
  rintro kk ih a1 a2 a3 a4 W ⟨rfl, rfl, rfl, rfl, k, rfl, kl, hk⟩
  unfold B_X12_kernOf_11
  rw [r24]
  refine pt_ite (fun q => ?_) (fun q => ?_)
  · have e : k = paO d n := by
      have := (nI_leI (by omega) (by omega)).mp q
      omega
    rw [e, Nat.sub_self] at hk
    exact pt_some hk
  have hkp : k < paO d n := nI_nle2 q (by omega)
  obtain ⟨i1, i2⟩ := kern_in h3 h13 hkp
  obtain ⟨m, hm⟩ : ∃ m, paO d n - k = m + 1 := ⟨paO d n - k - 1, by omega⟩
  rw [hm] at hk
  rw [show kF d n l r (m + 1) k = (if g2 d n (bO d n 1801810542 + 18 + 6 * k) = l ∧ g2 d n (bO d n 1801810542 + 20 + 6 * k) = r then s16 (g2 d n (bO d n 1801810542 + 22 + 6 * k)) else kF d n l r m (k + 1)) from rfl] at hk
  have a1 := g2_lt (d := d) (n := n) (P := bO d n 1801810542 + 18 + 6 * k)
  have a2 := g2_lt (d := d) (n := n) (P := bO d n 1801810542 + 20 + 6 * k)
  refine pt_let fun x3 e3 => ?_
  rw [show nI (bO d n 1801810542) + (18 : Int32) = nI (bO d n 1801810542 + 18) from nI_add _ 18, show (6 : Int32) * nI k = nI (6 * k) from pk_mul 6 _, nI_add] at e3
  subst e3
  have g63 : ¬ (g2 d n (bO d n 1801810542 + 18 + 6 * k) = l ∧ g2 d n (bO d n 1801810542 + 20 + 6 * k) = r) → Pt (fun q : Int32 × sv_V => q.1 = kF d n l r (paO d n) 0) (B_X12_kernOf_63 N kk (nI l) (nI r) (nI (bO d n 1801810542)) (nI k) W) := fun z => by
    unfold B_X12_kernOf_63
    rw [if_neg z] at hk
    exact pt_let fun x1 hx => ih _ _ _ _ _ ⟨rfl, rfl, rfl, rfl, k + 1, by rw [hx, nI_1], hkp, by rw [show paO d n - (k + 1) = m by omega]; exact hk⟩
  rw [u2_r fr (by omega), Option.bind_some]
  dsimp only
  refine pt_ite (fun q1 => ?_) (fun q1 => g63 (fun z => q1 (by rw [z.1])))
  rw [show nI (bO d n 1801810542 + 18 + 6 * k) + (2 : Int32) = nI (bO d n 1801810542 + 20 + 6 * k) by rw [show bO d n 1801810542 + 20 + 6 * k = bO d n 1801810542 + 18 + 6 * k + 2 by omega]; exact nI_add _ 2, u2_r fr (by omega), Option.bind_some]
  dsimp only
  refine pt_ite (fun q2 => ?_) (fun q2 => g63 (fun z => q2 (by rw [z.2])))
  rw [if_pos ⟨(nI_eq (by omega) (by omega)).mp q1, (nI_eq (by omega) (by omega)).mp q2⟩] at hk
  rw [show nI (bO d n 1801810542 + 18 + 6 * k) + (4 : Int32) = nI (bO d n 1801810542 + 22 + 6 * k) by rw [show bO d n 1801810542 + 22 + 6 * k = bO d n 1801810542 + 18 + 6 * k + 4 by omega]; exact nI_add _ 4, s2_r fr (by omega), Option.bind_some]
  exact pt_some hk
theorem hasG (h : V.1 2 7 = nI (glO d n)) (a : Int32) : F_X2_hasGlyph a V = some (if 0 ≤ a ∧ a < nI (glO d n) then 1 else 0, V) := by
  unfold F_X2_hasGlyph
  rw [h]
  by_cases q : a < 0
  · rw [if_pos q, if_neg (fun z => absurd z.1 (Int32.not_le.mpr q))]
  · rw [if_neg q]
    by_cases q1 : nI (glO d n) ≤ a
    · rw [if_pos q1, if_neg (fun z => absurd z.2 (Int32.not_lt.mpr q1))]
    · rw [if_neg q1, if_pos ⟨Int32.not_lt.mp q, Int32.not_le.mp q1⟩]
def krnA (d : Nat → Int32) (n : Nat) (a b : Int32) : Int32 := if 0 ≤ a ∧ a < nI (glO d n) then (if 0 ≤ b ∧ b < nI (glO d n) then kF d n a.toNatClampNeg b.toNatClampNeg (paO d n) 0 else -1) else -1
theorem kern_x1 (hd : DB d) (h : LX d n V) (h3 : K3 d n) (h7 : glO d n ≤ 200) (h13 : K13 d n) (a b : Int32) : Pt (fun q : Int32 × sv_V => q.1 = krnA d n a b) (F_X11_kern N a b V) := by
  have g := h.2.2.1.2.2.1
  unfold F_X11_kern
  rw [if_neg (show ¬ V.1 2 2 = 0 by rw [h.1]; decide), hasG g, Option.bind_some]
  dsimp only
  refine pt_ite (fun q => pt_some ?_) (fun q => ?_)
  · unfold krnA
    rw [if_neg (ite_z.mp q)]
  have qa := nnx (fun z => q (ite_z.mpr z))
  rw [hasG g, Option.bind_some]
  dsimp only
  refine pt_ite (fun q1 => pt_some ?_) (fun q1 => ?_)
  · unfold krnA
    rw [if_pos qa, if_neg (ite_z.mp q1)]
  have qb := nnx (fun z => q1 (ite_z.mpr z))
  have ka : krnA d n a b = kF d n a.toNatClampNeg b.toNatClampNeg (paO d n) 0 := by
    unfold krnA
    rw [if_pos qa, if_pos qb]
  obtain ⟨i, hi, rfl⟩ := nI_of (Int32.not_lt.mpr qa.1)
  obtain ⟨j, hj, rfl⟩ := nI_of (Int32.not_lt.mpr qb.1)
  have i1 := (nI_ltI hi (by omega)).mp qa.2
  have j1 := (nI_ltI hj (by omega)).mp qb.2
  rw [nI_clamp hi, nI_clamp hj] at ka
  rw [ka]
  refine pt_bb (kernOf_c hd h h3 h13 (by omega) (by omega)) ?_
  rintro ⟨x, U⟩ hx
  exact pt_some hx
theorem kern_x2 (h : LX d n V) (h1 : K1 d n) (h3 : K3 d n) (h70 : 1 ≤ glO d n) (h7 : glO d n ≤ 200) (h13 : K13 d n) (a b : Int32) : Pt (fun q : Int32 × sv_V => q.1 = krnA d n a b) (F_X12_kern N a b V) := by
  have g := h.2.2.2.1.2.2
  unfold F_X12_kern
  rw [if_neg (show ¬ V.1 146 4 = 0 by rw [h.2.1]; decide), g, in_0 h70 (by omega), Option.bind_some]
  dsimp only
  refine pt_ite (fun q => pt_some ?_) (fun q => ?_)
  · unfold krnA
    rw [if_neg (ite_z.mp q)]
  have qa := nnx (fun z => q (ite_z.mpr z))
  rw [g, in_0 h70 (by omega), Option.bind_some]
  dsimp only
  refine pt_ite (fun q1 => pt_some ?_) (fun q1 => ?_)
  · unfold krnA
    rw [if_pos qa, if_neg (ite_z.mp q1)]
  have qb := nnx (fun z => q1 (ite_z.mpr z))
  have ka : krnA d n a b = kF d n a.toNatClampNeg b.toNatClampNeg (paO d n) 0 := by
    unfold krnA
    rw [if_pos qa, if_pos qb]
  obtain ⟨i, hi, rfl⟩ := nI_of (Int32.not_lt.mpr qa.1)
  obtain ⟨j, hj, rfl⟩ := nI_of (Int32.not_lt.mpr qb.1)
  have i1 := (nI_ltI hi (by omega)).mp qa.2
  have j1 := (nI_ltI hj (by omega)).mp qb.2
  rw [nI_clamp hi, nI_clamp hj] at ka
  rw [ka]
  refine pt_bb (kernOf_r h h1 h3 h13 (by omega) (by omega)) ?_
  rintro ⟨x, U⟩ hx
  exact pt_some hx
theorem al_kern (hN : 8589934592 ≤ N) (B : BK N V) (a b : Int32) : ∃ x V1 V2, F_X11_kern N a b V = some (x, V1) ∧ F_X12_kern N a b V1 = some (x, V2) ∧ BK N V2 ∧ V1.1 1000 = V.1 1000 := by
  obtain ⟨x, y, V1, V2, e1, e2, z, s⟩ := o3_kern hN B a b
  have exy : x = y := two_alike (no := -3) B.2.2 e1 e2 (m_X11_kern sv_sub_rf e1) rfl (fun q => by unfold F_X11_kern; rw [if_pos q]; exact pt_some rfl) (fun q => by unfold F_X12_kern; rw [if_pos q]; exact pt_some rfl) (fun d n hd hf h1 h2 => by
    obtain ⟨k1, -, k3, -, -, -, k7, -, -, -, -, -, k13, -⟩ := FT_all hf
    exact ⟨_, kern_x1 hd h1 k3 k7.2.2.1.2 k13 a b, kern_x2 h2 k1 k3 k7.2.2.1.1 k7.2.2.1.2 k13 a b⟩)
  subst exy
  exact ⟨x, V1, V2, e1, e2, z, s⟩
end FN
