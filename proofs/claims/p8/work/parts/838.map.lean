section
/-! glyphOf: the class and the reference alike -/
def gF (d : Nat → Int32) (n at' c f k : Nat) : Nat := match f with
  | 0 => 0
  | f + 1 => if g4 d n (at' + 16 + 12 * k) ≤ c ∧ c ≤ g4 d n (at' + 20 + 12 * k) then g4 d n (at' + 24 + 12 * k) + c - g4 d n (at' + 16 + 12 * k) else gF d n at' c f (k + 1)
def sF (d : Nat → Int32) (n at' c f k : Nat) : Option Nat := match f with
  | 0 => none
  | f + 1 => if c ≤ g2 d n (at' + 14 + 2 * k) then some k else sF d n at' c f (k + 1)
def spl (d : Nat → Int32) (n at' s c k : Nat) : Nat := 16 + 6 * s + 2 * k + g2 d n (at' + 16 + 6 * s + 2 * k) + 2 * (c - g2 d n (at' + 16 + 2 * s + 2 * k))
def svF (d : Nat → Int32) (n at' len s c k : Nat) : Nat := if c < g2 d n (at' + 16 + 2 * s + 2 * k) then 0 else if g2 d n (at' + 16 + 6 * s + 2 * k) = 0 then (c + g2 d n (at' + 16 + 4 * s + 2 * k)) % 65536 else if len < spl d n at' s c k + 2 then 0 else if g2 d n (at' + spl d n at' s c k) = 0 then 0 else (g2 d n (at' + spl d n at' s c k) + g2 d n (at' + 16 + 4 * s + 2 * k)) % 65536
def mpv (d : Nat → Int32) (n fo at' len cnt c : Nat) : Nat := if fo = 12 then gF d n at' c cnt 0 else if fo = 4 then (match sF d n at' c cnt 0 with
  | some k => svF d n at' len cnt c k
  | none => 0) else if c < 256 then g1 d n (at' + 6 + c) else 0
def glA (d : Nat → Int32) (n m : Nat) : Int32 := if m < glO d n then nI m else 0
section GO
variable {d : Nat → Int32} {n N : Nat} {V : sv_V} {fo at' len cnt c : Nat}
theorem MPF_b (h3 : K3 d n) (h : MPF d n fo at' len cnt) : (fo = 12 ∧ at' + 16 + 12 * cnt ≤ n ∧ cnt ≤ 40) ∨ (fo = 4 ∧ (1 ≤ cnt ∧ cnt ≤ 40) ∧ at' + 16 + 8 * cnt ≤ n ∧ len = g2 d n (at' + 2) ∧ at' + len ≤ n ∧ g2 d n (at' + 12 + 2 * cnt) = 65535 ∧ 16 + 8 * cnt ≤ len) ∨ (fo = 0 ∧ at' + 262 ≤ n) := by
  have bl : cB d n + cL d n ≤ n := bO_le (t := 1668112752) h3
  rcases h with ⟨o, -, ⟨z1, z2, z3, z4, z5, -⟩, rfl, rfl, rfl, rfl⟩ | ⟨-, o, -, ⟨z1, z2, z3, z4, z5, z6, z7⟩, rfl, rfl, rfl, rfl⟩ | ⟨-, -, o, -, ⟨z1, -⟩, rfl, rfl, rfl, rfl⟩
  · exact Or.inl ⟨rfl, by omega, by omega⟩
  · exact Or.inr (Or.inl ⟨rfl, z4, by omega, rfl, by omega, z7, z5⟩)
  · exact Or.inr (Or.inr ⟨rfl, by omega⟩)
theorem gF_lt : ∀ f k, c < 2000000 → gF d n at' c f k < 4300000000 := by
  intro f
  induction f with
  | zero => intro k _; exact (show (0 : Nat) < 4300000000 by decide)
  | succ f ih =>
    intro k hc
    unfold gF
    split
    · have := g4_lt (d := d) (n := n) (P := at' + 24 + 12 * k)
      omega
    · exact ih _ hc
theorem grp_c (hc : c < 2000000) (f : FC d n V) (hb : at' + 16 + 12 * cnt ≤ n) (h40 : cnt ≤ 40) (c12 : V.1 2 12 = nI at') (c14 : V.1 2 14 = nI cnt) : Pt (fun q : Int64 × sv_V => q.1 = lN (gF d n at' c cnt 0) ∧ q.2 = V) (F_X2_findInGroups N (nI c) V) := by
  have hn := f.1
  unfold F_X2_findInGroups
  refine pt_l3 (I := fun a1 a2 W => W = V ∧ a1 = nI c ∧ ∃ k, a2 = nI k ∧ k ≤ cnt ∧ gF d n at' c (cnt - k) k = gF d n at' c cnt 0) ?_ N _ _ V ⟨rfl, rfl, 0, rfl, Nat.zero_le _, rfl⟩
  rintro kk ih a1 a2 W ⟨rfl, rfl, k, rfl, kl, hk⟩
  unfold B_X2_findInGroups_2
  rw [c14, c12]
  refine pt_ite (fun q => ?_) (fun q => ?_)
  · have e : k = cnt := by
      have := (nI_leI (by omega) (by omega)).mp q
      omega
    rw [e, Nat.sub_self] at hk
    exact pt_some ⟨by rw [← hk]; rfl, rfl⟩
  have hkc : k < cnt := nI_nle2 q (by omega)
  obtain ⟨m, hm⟩ : ∃ m, cnt - k = m + 1 := ⟨cnt - k - 1, by omega⟩
  rw [hm, show gF d n at' c (m + 1) k = (if g4 d n (at' + 16 + 12 * k) ≤ c ∧ c ≤ g4 d n (at' + 20 + 12 * k) then g4 d n (at' + 24 + 12 * k) + c - g4 d n (at' + 16 + 12 * k) else gF d n at' c m (k + 1)) from rfl] at hk
  have b1 := g4_lt (d := d) (n := n) (P := at' + 16 + 12 * k)
  have b2 := g4_lt (d := d) (n := n) (P := at' + 20 + 12 * k)
  have b3 := g4_lt (d := d) (n := n) (P := at' + 24 + 12 * k)
  refine pt_let fun x3 e3 => ?_
  rw [show nI at' + (16 : Int32) = nI (at' + 16) from nI_add _ 16, show (12 : Int32) * nI k = nI (12 * k) from pk_mul 12 _, nI_add] at e3
  subst e3
  have g66 : ¬ (g4 d n (at' + 16 + 12 * k) ≤ c ∧ c ≤ g4 d n (at' + 20 + 12 * k)) → Pt (fun q : Int64 × sv_V => q.1 = lN (gF d n at' c cnt 0) ∧ q.2 = W) (B_X2_findInGroups_66 N kk (nI c) (nI k) W) := fun z => by
    unfold B_X2_findInGroups_66
    rw [if_neg z] at hk
    exact pt_let fun x1 hx => ih _ _ _ ⟨rfl, rfl, k + 1, by rw [hx, nI_1], hkc, by rw [show cnt - (k + 1) = m by omega]; exact hk⟩
  rw [u4_c f (by omega), Option.bind_some, c4_g (by omega), nI_l (by omega)]
  dsimp only
  refine pt_ite (fun q1 => g66 (fun z => ?_)) (fun q1 => ?_)
  · have := (pk_lLT (by omega) (by omega)).mp (lgc_gt.mp q1)
    omega
  rw [lgc_gt, pk_lLT (by omega) (by omega)] at q1
  rw [show nI (at' + 16 + 12 * k) + (4 : Int32) = nI (at' + 20 + 12 * k) by rw [show at' + 20 + 12 * k = at' + 16 + 12 * k + 4 by omega]; exact nI_add _ 4, u4_c f (by omega), Option.bind_some, c4_g (by omega)]
  dsimp only
  refine pt_ite (fun q2 => g66 (fun z => ?_)) (fun q2 => ?_)
  · have := (pk_lLT (by omega) (by omega)).mp (lgc_gt.mp q2)
    omega
  rw [lgc_gt, pk_lLT (by omega) (by omega)] at q2
  rw [if_pos (by omega)] at hk
  rw [show nI (at' + 16 + 12 * k) + (8 : Int32) = nI (at' + 24 + 12 * k) by rw [show at' + 24 + 12 * k = at' + 16 + 12 * k + 8 by omega]; exact nI_add _ 8, u4_c f (by omega), Option.bind_some, c4_g (by omega)]
  dsimp only
  rw [lN_add, lN_sub (by omega), hk]
  exact pt_some ⟨rfl, rfl⟩
theorem grp_r (hc : c < 2000000) (f : FR d n V) (hb : at' + 16 + 12 * cnt ≤ n) (h40 : cnt ≤ 40) (r21 : V.1 146 21 = nI at') : Pt (fun q : Int64 × sv_V => q.1 = lN (gF d n at' c cnt 0) ∧ q.2 = V) (sx_lp4 (B_X12_mapped_49 N) N (nI c) (nI cnt) 0 V) := by
  have hn := f.1
  refine pt_l4 (I := fun a1 a2 a3 W => W = V ∧ a1 = nI c ∧ a2 = nI cnt ∧ ∃ k, a3 = nI k ∧ k ≤ cnt ∧ gF d n at' c (cnt - k) k = gF d n at' c cnt 0) ?_ N _ _ _ V ⟨rfl, rfl, rfl, 0, rfl, Nat.zero_le _, rfl⟩
  rintro kk ih a1 a2 a3 W ⟨rfl, rfl, rfl, k, rfl, kl, hk⟩
  unfold B_X12_mapped_49
  rw [r21]
  refine pt_ite (fun q => ?_) (fun q => ?_)
  · have e : k = cnt := by
      have := (nI_leI (by omega) (by omega)).mp q
      omega
    rw [e, Nat.sub_self] at hk
    exact pt_some ⟨by rw [← hk]; rfl, rfl⟩
  have hkc : k < cnt := nI_nle2 q (by omega)
  obtain ⟨m, hm⟩ : ∃ m, cnt - k = m + 1 := ⟨cnt - k - 1, by omega⟩
  rw [hm, show gF d n at' c (m + 1) k = (if g4 d n (at' + 16 + 12 * k) ≤ c ∧ c ≤ g4 d n (at' + 20 + 12 * k) then g4 d n (at' + 24 + 12 * k) + c - g4 d n (at' + 16 + 12 * k) else gF d n at' c m (k + 1)) from rfl] at hk
  have b1 := g4_lt (d := d) (n := n) (P := at' + 16 + 12 * k)
  have b2 := g4_lt (d := d) (n := n) (P := at' + 20 + 12 * k)
  have b3 := g4_lt (d := d) (n := n) (P := at' + 24 + 12 * k)
  refine pt_let fun x3 e3 => ?_
  rw [show nI at' + (16 : Int32) = nI (at' + 16) from nI_add _ 16, show (12 : Int32) * nI k = nI (12 * k) from pk_mul 12 _, nI_add] at e3
  subst e3
  have g114 : ¬ (g4 d n (at' + 16 + 12 * k) ≤ c ∧ c ≤ g4 d n (at' + 20 + 12 * k)) → Pt (fun q : Int64 × sv_V => q.1 = lN (gF d n at' c cnt 0) ∧ q.2 = W) (B_X12_mapped_114 N kk (nI c) (nI cnt) (nI k) W) := fun z => by
    unfold B_X12_mapped_114
    rw [if_neg z] at hk
    exact pt_let fun x1 hx => ih _ _ _ _ ⟨rfl, rfl, rfl, k + 1, by rw [hx, nI_1], hkc, by rw [show cnt - (k + 1) = m by omega]; exact hk⟩
  rw [u4_r f (by omega), Option.bind_some, nI_l (by omega)]
  dsimp only
  refine pt_ite (fun q1 => g114 (fun z => ?_)) (fun q1 => ?_)
  · have := (pk_lLT (by omega) (by omega)).mp (lgc_lt.mp q1)
    omega
  rw [lgc_lt, pk_lLT (by omega) (by omega)] at q1
  rw [show nI (at' + 16 + 12 * k) + (4 : Int32) = nI (at' + 20 + 12 * k) by rw [show at' + 20 + 12 * k = at' + 16 + 12 * k + 4 by omega]; exact nI_add _ 4, u4_r f (by omega), Option.bind_some]
  dsimp only
  refine pt_ite (fun q2 => g114 (fun z => ?_)) (fun q2 => ?_)
  · have := (pk_lLT (by omega) (by omega)).mp (lgc_gt.mp q2)
    omega
  rw [lgc_gt, pk_lLT (by omega) (by omega)] at q2
  rw [if_pos (by omega)] at hk
  rw [show nI (at' + 16 + 12 * k) + (8 : Int32) = nI (at' + 24 + 12 * k) by rw [show at' + 24 + 12 * k = at' + 16 + 12 * k + 8 by omega]; exact nI_add _ 8, u4_r f (by omega), Option.bind_some]
  dsimp only
  rw [u4_r f (by omega), Option.bind_some]
  dsimp only
  rw [lN_add, lN_sub (by omega), hk]
  exact pt_some ⟨rfl, rfl⟩
theorem and64 {m : Nat} (h : m < 2 ^ 32) : nI m &&& (65535 : Int32) = nI (m % 65536) := pk_andN h 16 rfl
theorem svF_lt {k : Nat} : svF d n at' len cnt c k < 65536 := by
  unfold svF
  split
  · decide
  · split
    · exact Nat.mod_lt _ (by decide)
    · split
      · decide
      · split
        · decide
        · exact Nat.mod_lt _ (by decide)
theorem sg1_c {k : Nat} (hc : c < 2000000) (f : FC d n V) (hk : k < cnt) (h40 : cnt ≤ 40) (hb : at' + 16 + 8 * cnt ≤ n) (hl : at' + len ≤ n) (c12 : V.1 2 12 = nI at') (c13 : V.1 2 13 = nI len) (c14 : V.1 2 14 = nI cnt) : Pt (fun q : Int32 × sv_V => q.1 = nI (svF d n at' len cnt c k) ∧ q.2 = V) (F_X2_findInSegment (nI k) (nI c) V) := by
  have hn := f.1
  have b1 := g2_lt (d := d) (n := n) (P := at' + 16 + 2 * cnt + 2 * k)
  have b2 := g2_lt (d := d) (n := n) (P := at' + 16 + 4 * cnt + 2 * k)
  have b3 := g2_lt (d := d) (n := n) (P := at' + 16 + 6 * cnt + 2 * k)
  unfold F_X2_findInSegment
  rw [c12, c14]
  refine pt_let fun x1 e1 => ?_
  rw [show nI at' + (16 : Int32) = nI (at' + 16) from nI_add _ 16, show (2 : Int32) * nI cnt = nI (2 * cnt) from pk_mul 2 _, nI_add, show (2 : Int32) * nI k = nI (2 * k) from pk_mul 2 _, nI_add] at e1
  subst e1
  rw [u2_c f (by omega), Option.bind_some, c2_g (by omega)]
  dsimp only
  rw [c14, show (2 : Int32) * nI cnt = nI (2 * cnt) from pk_mul 2 _, nI_add, show at' + 16 + 2 * cnt + 2 * k + 2 * cnt = at' + 16 + 4 * cnt + 2 * k by omega, u2_c f (by omega), Option.bind_some, c2_g (by omega)]
  dsimp only
  rw [c14, show (4 : Int32) * nI cnt = nI (4 * cnt) from pk_mul 4 _, nI_add, show at' + 16 + 2 * cnt + 2 * k + 4 * cnt = at' + 16 + 6 * cnt + 2 * k by omega]
  refine pt_let fun x8 e8 => ?_
  subst e8
  rw [u2_c f (by omega), Option.bind_some, c2_g (by omega)]
  dsimp only
  unfold svF
  refine pt_ite (fun q => ?_) (fun q => ?_)
  rotate_left
  · have q' : c < g2 d n (at' + 16 + 2 * cnt + 2 * k) := nI_nle2 q (by omega)
    rw [if_pos q']
    exact pt_some ⟨rfl, rfl⟩
  have q' := (nI_leI (by omega) (by omega)).mp q
  rw [if_neg (show ¬ c < g2 d n (at' + 16 + 2 * cnt + 2 * k) by omega)]
  refine pt_ite (fun q1 => ?_) (fun q1 => ?_)
  · have q1' := (nI_eq (b := 0) (by omega) (by decide)).mp q1
    rw [if_pos q1', nI_add, and64 (by omega)]
    exact pt_some ⟨rfl, rfl⟩
  have q1' : ¬ g2 d n (at' + 16 + 6 * cnt + 2 * k) = 0 := fun z => q1 (by rw [z]; rfl)
  rw [if_neg q1', nI_add, pk_sub q', show (2 : Int32) * nI (c - g2 d n (at' + 16 + 2 * cnt + 2 * k)) = nI (2 * (c - g2 d n (at' + 16 + 2 * cnt + 2 * k))) from pk_mul 2 _, nI_add, show at' + 16 + 6 * cnt + 2 * k + g2 d n (at' + 16 + 6 * cnt + 2 * k) + 2 * (c - g2 d n (at' + 16 + 2 * cnt + 2 * k)) = at' + spl d n at' cnt c k by unfold spl; omega]
  have sb : spl d n at' cnt c k < 5000000 := by
    unfold spl
    omega
  have lb : len ≤ n := by omega
  generalize hS : spl d n at' cnt c k = s at *
  refine pt_let fun x14 e14 => ?_
  subst e14
  rw [c12, c13, nI_add, show nI (at' + s) + (2 : Int32) = nI (at' + s + 2) from nI_add _ 2]
  refine pt_ite (fun q2 => ?_) (fun q2 => ?_)
  · have q2' := (nI_ltI (by omega) (by omega)).mp q2
    rw [if_pos (by omega)]
    exact pt_some ⟨rfl, rfl⟩
  have q2' := nI_nlt2 q2 (by omega)
  rw [if_neg (by omega), u2_c f (by omega), Option.bind_some, c2_g (by omega)]
  have b4 := g2_lt (d := d) (n := n) (P := at' + s)
  dsimp only
  refine pt_ite (fun q3 => ?_) (fun q3 => ?_)
  · rw [if_pos ((nI_eq (b := 0) (by omega) (by decide)).mp q3)]
    exact pt_some ⟨rfl, rfl⟩
  · rw [if_neg (show ¬ g2 d n (at' + s) = 0 from fun z => q3 (by rw [z]; rfl)), u2_c f (by omega), Option.bind_some, c2_g (by omega)]
    dsimp only
    rw [nI_add, and64 (by omega)]
    exact pt_some ⟨rfl, rfl⟩
theorem seg_c (hc : c < 2000000) (f : FC d n V) (h40 : cnt ≤ 40) (hb : at' + 16 + 8 * cnt ≤ n) (hl : at' + len ≤ n) (c12 : V.1 2 12 = nI at') (c13 : V.1 2 13 = nI len) (c14 : V.1 2 14 = nI cnt) : Pt (fun q : Int32 × sv_V => (q.1 = nI (match sF d n at' c cnt 0 with
    | some k => svF d n at' len cnt c k
    | none => 0)) ∧ q.2 = V) (F_X2_findInSegments N (nI c) V) := by
  have hn := f.1
  unfold F_X2_findInSegments
  refine pt_l3 (I := fun a1 a2 W => W = V ∧ a1 = nI c ∧ ∃ k, a2 = nI k ∧ k ≤ cnt ∧ sF d n at' c (cnt - k) k = sF d n at' c cnt 0) ?_ N _ _ V ⟨rfl, rfl, 0, rfl, Nat.zero_le _, rfl⟩
  rintro kk ih a1 a2 W ⟨rfl, rfl, k, rfl, kl, hk⟩
  unfold B_X2_findInSegments_2
  rw [c14, c12]
  refine pt_ite (fun q => ?_) (fun q => ?_)
  · have e : k = cnt := by
      have := (nI_leI (by omega) (by omega)).mp q
      omega
    rw [e, Nat.sub_self] at hk
    refine pt_some ⟨?_, rfl⟩
    rw [← hk]
    rfl
  have hkc : k < cnt := nI_nle2 q (by omega)
  obtain ⟨m, hm⟩ : ∃ m, cnt - k = m + 1 := ⟨cnt - k - 1, by omega⟩
  rw [hm, show sF d n at' c (m + 1) k = (if c ≤ g2 d n (at' + 14 + 2 * k) then some k else sF d n at' c m (k + 1)) from rfl] at hk
  have b1 := g2_lt (d := d) (n := n) (P := at' + 14 + 2 * k)
  rw [show nI at' + (14 : Int32) = nI (at' + 14) from nI_add _ 14, show (2 : Int32) * nI k = nI (2 * k) from pk_mul 2 _, nI_add, u2_c f (by omega), Option.bind_some, c2_g (by omega)]
  dsimp only
  refine pt_ite (fun q1 => ?_) (fun q1 => ?_)
  · have q1' := (nI_ltI (by omega) (by omega)).mp q1
    rw [if_neg (by omega)] at hk
    exact pt_let fun x6 hx => ih _ _ _ ⟨rfl, rfl, k + 1, by rw [hx, nI_1], hkc, by rw [show cnt - (k + 1) = m by omega]; exact hk⟩
  · have q1' := nI_nlt2 q1 (by omega)
    rw [if_pos q1'] at hk
    refine pt_bb (sg1_c hc f hkc h40 hb hl c12 c13 c14) ?_
    rintro ⟨x9, V7⟩ ⟨hx, hv⟩
    refine pt_some ⟨?_, hv⟩
    rw [← hk]
    exact hx
theorem seg_r (hc : c ≤ 65535) (f : FR d n V) (h1 : 1 ≤ cnt) (h40 : cnt ≤ 40) (hb : at' + 16 + 8 * cnt ≤ n) (hl : at' + len ≤ n) (el : len = g2 d n (at' + 2)) (he : g2 d n (at' + 12 + 2 * cnt) = 65535) (r21 : V.1 146 21 = nI at') : Pt (fun q : Int64 × sv_V => (q.1 = lN (match sF d n at' c cnt 0 with
    | some k => svF d n at' len cnt c k
    | none => 0)) ∧ q.2 = V) (sx_lp4 (B_X12_mapped_133 N) N (nI c) (nI cnt) 0 V) := by
  have hn := f.1
  refine pt_l4 (I := fun a1 a2 a3 W => W = V ∧ a1 = nI c ∧ a2 = nI cnt ∧ ∃ k, a3 = nI k ∧ k < cnt ∧ sF d n at' c (cnt - k) k = sF d n at' c cnt 0) ?_ N _ _ _ V ⟨rfl, rfl, rfl, 0, rfl, h1, rfl⟩
  rintro kk ih a1 a2 a3 W ⟨rfl, rfl, rfl, k, rfl, hkc, hk⟩
  obtain ⟨m, hm⟩ : ∃ m, cnt - k = m + 1 := ⟨cnt - k - 1, by omega⟩
  rw [hm, show sF d n at' c (m + 1) k = (if c ≤ g2 d n (at' + 14 + 2 * k) then some k else sF d n at' c m (k + 1)) from rfl] at hk
  have b0 := g2_lt (d := d) (n := n) (P := at' + 14 + 2 * k)
  have b1 := g2_lt (d := d) (n := n) (P := at' + 16 + 2 * cnt + 2 * k)
  have b2 := g2_lt (d := d) (n := n) (P := at' + 16 + 4 * cnt + 2 * k)
  have b3 := g2_lt (d := d) (n := n) (P := at' + 16 + 6 * cnt + 2 * k)
  unfold B_X12_mapped_133
  rw [r21, show nI at' + (14 : Int32) = nI (at' + 14) from nI_add _ 14, show (2 : Int32) * nI k = nI (2 * k) from pk_mul 2 _, nI_add, u2_r f (by omega), Option.bind_some]
  dsimp only
  refine pt_ite (fun q1 => ?_) (fun q1 => ?_)
  rotate_left
  · have q1' : g2 d n (at' + 14 + 2 * k) < c := nI_nle2 q1 (by omega)
    rw [if_neg (by omega)] at hk
    have k1 : k + 1 < cnt := by
      rcases Nat.lt_or_ge (k + 1) cnt with y | y
      · exact y
      · have : at' + 12 + 2 * cnt = at' + 14 + 2 * k := by omega
        rw [this] at he
        omega
    exact pt_let fun x6 hx => ih _ _ _ _ ⟨rfl, rfl, rfl, k + 1, by rw [hx, nI_1], k1, by rw [show cnt - (k + 1) = m by omega]; exact hk⟩
  have q1' := (nI_leI (by omega) (by omega)).mp q1
  rw [if_pos q1'] at hk
  rw [← hk]
  show Pt (fun q : Int64 × sv_V => q.1 = lN (svF d n at' len cnt c k) ∧ q.2 = W) _
  rw [r21, show nI at' + (16 : Int32) = nI (at' + 16) from nI_add _ 16, show (2 : Int32) * nI cnt = nI (2 * cnt) from pk_mul 2 _, nI_add, nI_add, u2_r f (by omega), Option.bind_some]
  dsimp only
  unfold svF
  refine pt_ite (fun q => ?_) (fun q => ?_)
  rotate_left
  · have q' : c < g2 d n (at' + 16 + 2 * cnt + 2 * k) := nI_nle2 q (by omega)
    rw [if_pos q']
    exact pt_some ⟨rfl, rfl⟩
  have q' := (nI_leI (by omega) (by omega)).mp q
  rw [if_neg (show ¬ c < g2 d n (at' + 16 + 2 * cnt + 2 * k) by omega)]
  rw [r21, show nI at' + (16 : Int32) = nI (at' + 16) from nI_add _ 16, show (4 : Int32) * nI cnt = nI (4 * cnt) from pk_mul 4 _, nI_add, nI_add, u2_r f (by omega), Option.bind_some]
  dsimp only
  rw [show (6 : Int32) * nI cnt = nI (6 * cnt) from pk_mul 6 _, show (16 : Int32) + nI (6 * cnt) = nI (16 + 6 * cnt) from nI_add 16 _, nI_add]
  refine pt_let fun x30 e30 => ?_
  subst e30
  rw [r21, nI_add, show at' + (16 + 6 * cnt + 2 * k) = at' + 16 + 6 * cnt + 2 * k by omega, u2_r f (by omega), Option.bind_some]
  dsimp only
  refine pt_ite (fun q2 => ?_) (fun q2 => ?_)
  · have q2' := (nI_eq (b := 0) (by omega) (by decide)).mp q2
    rw [if_pos q2', nI_add, and64 (by omega), nI_l (by omega)]
    exact pt_some ⟨rfl, rfl⟩
  have q2' : ¬ g2 d n (at' + 16 + 6 * cnt + 2 * k) = 0 := fun z => q2 (by rw [z]; rfl)
  rw [if_neg q2', nI_add, pk_sub q', show (2 : Int32) * nI (c - g2 d n (at' + 16 + 2 * cnt + 2 * k)) = nI (2 * (c - g2 d n (at' + 16 + 2 * cnt + 2 * k))) from pk_mul 2 _, nI_add, show 16 + 6 * cnt + 2 * k + g2 d n (at' + 16 + 6 * cnt + 2 * k) + 2 * (c - g2 d n (at' + 16 + 2 * cnt + 2 * k)) = spl d n at' cnt c k from rfl]
  have sb : spl d n at' cnt c k < 5000000 := by
    unfold spl
    omega
  generalize hS : spl d n at' cnt c k = s at *
  refine pt_let fun x35 e35 => ?_
  subst e35
  rw [r21, show nI at' + (2 : Int32) = nI (at' + 2) from nI_add _ 2, u2_r f (by omega), Option.bind_some, ← el, show nI s + (2 : Int32) = nI (s + 2) from nI_add _ 2]
  dsimp only
  have g295 : ∀ v, v < 65536 → Pt (fun q : Int64 × sv_V => (q.1 = lN (if v = 0 then 0 else (v + g2 d n (at' + 16 + 4 * cnt + 2 * k)) % 65536)) ∧ q.2 = W) (B_X12_mapped_295 N (nI (g2 d n (at' + 16 + 4 * cnt + 2 * k))) (nI v) W) := fun v hv => by
    unfold B_X12_mapped_295
    refine pt_ite (fun z => ?_) (fun z => ?_)
    · rw [if_pos ((nI_eq (b := 0) (by omega) (by decide)).mp z)]
      exact pt_some ⟨rfl, rfl⟩
    · rw [if_neg (show ¬ v = 0 from fun y => z (by rw [y]; rfl)), nI_add, and64 (by omega), nI_l (by omega)]
      exact pt_some ⟨rfl, rfl⟩
  refine pt_ite (fun q3 => ?_) (fun q3 => ?_)
  · have q3' := (nI_ltI (by omega) (by omega)).mp q3
    rw [if_pos q3']
    exact g295 0 (by decide)
  · have q3' := nI_nlt2 q3 (by omega)
    rw [if_neg (by omega), r21, nI_add, u2_r f (by omega), Option.bind_some]
    exact g295 _ g2_lt
theorem sF_n : ∀ f k, 65535 < c → sF d n at' c f k = none := by
  intro f
  induction f with
  | zero => exact fun _ _ => rfl
  | succ f ih =>
    intro k hc
    unfold sF
    have := g2_lt (d := d) (n := n) (P := at' + 14 + 2 * k)
    rw [if_neg (by omega)]
    exact ih _ hc
theorem mpv_lt (hc : c < 2000000) : mpv d n fo at' len cnt c < 4300000000 := by
  unfold mpv
  split
  · exact gF_lt _ _ hc
  · split
    · split
      · have := svF_lt (d := d) (n := n) (at' := at') (len := len) (cnt := cnt) (c := c) (k := ‹Nat›)
        omega
      · decide
    · split
      · have := g1_lt (d := d) (n := n) (P := at' + 6 + c)
        omega
      · decide
theorem find_cx (hc : c < 2000000) (h : LX d n V) (h3 : K3 d n) (gl2 : glO d n ≤ 200) (hm : MPF d n fo at' len cnt) (c11 : V.1 2 11 = nI fo) (c12 : V.1 2 12 = nI at') (c13 : V.1 2 13 = nI len) (c14 : V.1 2 14 = nI cnt) : Pt (fun q : Int32 × sv_V => q.1 = glA d n (mpv d n fo at' len cnt c)) (F_X2_findGlyph N (nI c) V) := by
  have f := h.2.2.1.1.1
  have hn := f.1
  have g7 := h.2.2.1.2.2.1
  have hb := MPF_b h3 hm
  have g60 : ∀ m, m < 4300000000 → Pt (fun q : Int32 × sv_V => q.1 = glA d n m) (B_X2_findGlyph_60 N (lN m) V) := fun m hm' => by
    unfold B_X2_findGlyph_60 glA
    rw [g7, nI_l (by omega)]
    refine pt_ite (fun z => pt_some ?_) (fun z => pt_some ?_)
    · have := (pk_lLE (by omega) (by omega)).mp (lgc_ge.mp z)
      rw [if_neg (by omega)]
    · rw [lgc_ge, pk_lLE (by omega) (by omega)] at z
      rw [if_pos (by omega), lN_i]
  unfold F_X2_findGlyph
  rw [c11]
  refine pt_ite (fun q => ?_) (fun q => ?_)
  · have e := (nI_eq (b := 12) (by omega) (by decide)).mp q
    have ev : mpv d n fo at' len cnt c = gF d n at' c cnt 0 := if_pos e
    obtain ⟨-, y1, y2⟩ := hb.resolve_right (fun z => by omega)
    refine pt_bb (grp_c hc f y1 y2 c12 c14) ?_
    rintro ⟨x15, V13⟩ ⟨hx, hv⟩
    dsimp only at hx hv ⊢
    rw [hx, hv, ev]
    exact g60 _ (gF_lt _ _ hc)
  have e12 : ¬ fo = 12 := fun z => q (by rw [z]; rfl)
  refine pt_ite (fun q1 => ?_) (fun q1 => ?_)
  · have e := (nI_eq (b := 4) (by omega) (by decide)).mp q1
    have ev : mpv d n fo at' len cnt c = (match sF d n at' c cnt 0 with
      | some k => svF d n at' len cnt c k
      | none => 0) := by
      unfold mpv
      rw [if_neg e12, if_pos e]
    have lt := mpv_lt (d := d) (n := n) (fo := fo) (at' := at') (len := len) (cnt := cnt) hc
    obtain ⟨-, y1, y2, y3, y4, y5, y6⟩ := (hb.resolve_left (fun z => by omega)).resolve_right (fun z => by omega)
    have lt2 : (match sF d n at' c cnt 0 with
      | some k => svF d n at' len cnt c k
      | none => 0) < 65536 := by
      split
      · exact svF_lt
      · decide
    refine pt_bb (seg_c hc f y1.2 y2 y4 c12 c13 c14) ?_
    rintro ⟨x11, V9⟩ ⟨hx, hv⟩
    dsimp only at hx hv ⊢
    rw [hx, hv, ev]
    refine pt_let fun x12 e12' => ?_
    rw [nI_l (by omega)] at e12'
    rw [e12']
    exact g60 _ (by omega)
  have e4 : ¬ fo = 4 := fun z => q1 (by rw [z]; rfl)
  have ev : mpv d n fo at' len cnt c = if c < 256 then g1 d n (at' + 6 + c) else 0 := by
    unfold mpv
    rw [if_neg e12, if_neg e4]
  rw [ev]
  obtain ⟨-, y1⟩ := (hb.resolve_left (fun z => e12 z.1)).resolve_left (fun z => e4 z.1)
  refine pt_ite (fun q2 => ?_) (fun q2 => ?_)
  · have q2' := (nI_leI (a := 256) (by decide) (by omega)).mp q2
    rw [if_neg (by omega)]
    exact g60 0 (by decide)
  · have q2' : c < 256 := nI_nle2 (b := 256) q2 (by omega)
    have b := g1_lt (d := d) (n := n) (P := at' + 6 + c)
    rw [if_pos q2', c12, show nI at' + (6 : Int32) = nI (at' + 6) from nI_add _ 6, nI_add, u1_c f (by omega), Option.bind_some]
    refine pt_let fun x8 e8 => ?_
    rw [nI_l (by omega)] at e8
    rw [e8]
    exact g60 _ (by omega)
theorem find_rx (hc : c < 2000000) (h : LX d n V) (h3 : K3 d n) (gl2 : glO d n ≤ 200) (hm : MPF d n fo at' len cnt) (r22 : V.1 146 22 = nI fo) (r21 : V.1 146 21 = nI at') (r23 : V.1 146 23 = nI cnt) : Pt (fun q : Int32 × sv_V => q.1 = glA d n (mpv d n fo at' len cnt c)) (F_X12_glyphAt N (nI c) V) := by
  have f := h.2.2.2.1.1.1
  have hn := f.1
  have g12 := h.2.2.2.1.2.2
  have hb := MPF_b h3 hm
  have mp : Pt (fun q : Int64 × sv_V => q.1 = lN (mpv d n fo at' len cnt c) ∧ q.2 = V) (F_X12_mapped N (nI c) V) := by
    unfold F_X12_mapped
    rw [r22, r23]
    refine pt_ite (fun q => ?_) (fun q => ?_)
    · have e := (nI_eq (b := 0) (by omega) (by decide)).mp q
      have ev : mpv d n fo at' len cnt c = if c < 256 then g1 d n (at' + 6 + c) else 0 := by
        unfold mpv
        rw [if_neg (by omega), if_neg (by omega)]
      rw [ev]
      refine pt_ite (fun q2 => ?_) (fun q2 => ?_)
      · have q2' := (nI_leI (a := 256) (by decide) (by omega)).mp q2
        rw [if_neg (by omega)]
        exact pt_some ⟨rfl, rfl⟩
      · have q2' : c < 256 := nI_nle2 (b := 256) q2 (by omega)
        have b := g1_lt (d := d) (n := n) (P := at' + 6 + c)
        obtain ⟨-, y1⟩ := (hb.resolve_left (fun z => by omega)).resolve_left (fun z => by omega)
        rw [if_pos q2', r21, show nI at' + (6 : Int32) = nI (at' + 6) from nI_add _ 6, nI_add, u1_r f (by omega), Option.bind_some]
        dsimp only
        rw [nI_l (by omega)]
        exact pt_some ⟨rfl, rfl⟩
    have e0 : ¬ fo = 0 := fun z => q (by rw [z]; rfl)
    refine pt_let fun x45 e45 => ?_
    subst e45
    refine pt_ite (fun q1 => ?_) (fun q1 => ?_)
    · have e := (nI_eq (b := 12) (by omega) (by decide)).mp q1
      have ev : mpv d n fo at' len cnt c = gF d n at' c cnt 0 := if_pos e
      obtain ⟨-, y1, y2⟩ := hb.resolve_right (fun z => by omega)
      rw [ev]
      exact grp_r hc f y1 y2 r21
    have e12 : ¬ fo = 12 := fun z => q1 (by rw [z]; rfl)
    obtain ⟨e4, y1, y2, y3, y4, y5, y6⟩ := (hb.resolve_left (fun z => e12 z.1)).resolve_right (fun z => e0 z.1)
    have ev : mpv d n fo at' len cnt c = (match sF d n at' c cnt 0 with
      | some k => svF d n at' len cnt c k
      | none => 0) := by
      unfold mpv
      rw [if_neg e12, if_pos e4]
    rw [ev]
    refine pt_ite (fun q2 => ?_) (fun q2 => ?_)
    · exact seg_r ((nI_leI (b := 65535) (by omega) (by decide)).mp q2) f y1.1 y1.2 y2 y4 y3 y5 r21
    · have q2' : 65535 < c := nI_nle2 (a := 65535) (b := c) q2 (by decide)
      rw [sF_n _ _ q2']
      exact pt_some ⟨rfl, rfl⟩
  have lt := mpv_lt (d := d) (n := n) (fo := fo) (at' := at') (len := len) (cnt := cnt) hc
  unfold F_X12_glyphAt
  refine pt_bb mp ?_
  rintro ⟨x3, V1⟩ ⟨hx, hv⟩
  dsimp only at hx hv ⊢
  rw [hx, hv, g12, nI_l (by omega)]
  unfold glA
  refine pt_ite (fun z => pt_some ?_) (fun z => pt_some ?_)
  · have := (pk_lLE (by omega) (by omega)).mp (lgc_ge.mp z)
    rw [if_neg (by omega)]
  · rw [lgc_ge, pk_lLE (by omega) (by omega)] at z
    rw [if_pos (by omega), lN_i]
theorem al_glyphOf (hN : 8589934592 ≤ N) (B : BK N V) (a : Int32) : ∃ x V1 V2, F_X11_glyphOf N a V = some (x, V1) ∧ F_X12_glyphOf N a V1 = some (x, V2) ∧ BK N V2 ∧ V1.1 1000 = V.1 1000 := by
  obtain ⟨x, y, V1, V2, e1, e2, z, s⟩ := o3_glyphOf hN B a
  have exy : x = y := two_alike (no := -3) B.2.2 e1 e2 (m_X11_glyphOf sv_sub_rf e1) rfl (fun q => by unfold F_X11_glyphOf; rw [if_pos q]; exact pt_some rfl) (fun q => by unfold F_X12_glyphOf; rw [if_pos q]; exact pt_some rfl) (fun d n hd hf h1 h2 => by
    obtain ⟨fo, at', len, cnt, m, ⟨c11, c12, c13, c14⟩, -⟩ := LX_map h1
    obtain ⟨fo2, at2, len2, cnt2, m2, -, r22, r21, r23⟩ := LX_map h2
    obtain ⟨q1, q2, q3, q4⟩ := MPF_u m m2
    subst q1 q2 q3 q4
    obtain ⟨k1, -, k3, -, -, -, k7, -⟩ := FT_all hf
    refine ⟨if 0 ≤ a ∧ a ≤ 1114111 then glA d n (mpv d n fo at' len cnt a.toNatClampNeg) else -2, ?_, ?_⟩
    · unfold F_X11_glyphOf
      rw [if_neg (show ¬ V.1 2 2 = 0 by rw [h1.1]; decide)]
      refine pt_ite (fun q => pt_some ?_) (fun q => pt_ite (fun q1 => ?_) (fun q1 => pt_some ?_))
      · rw [if_neg (fun z => absurd z.1 (Int32.not_le.mpr q))]
      · rw [if_pos ⟨Int32.not_lt.mp q, q1⟩]
        obtain ⟨c, hc, rfl⟩ := nI_of q
        have c1 := (nI_leI (b := 1114111) hc (by decide)).mp q1
        rw [nI_clamp hc]
        refine pt_bb (find_cx (by omega) h1 k3 k7.2.2.1.2 m c11 c12 c13 c14) ?_
        rintro ⟨x6, V4⟩ hx
        exact pt_some hx
      · rw [if_neg (fun z => q1 z.2)]
    · unfold F_X12_glyphOf
      rw [if_neg (show ¬ V1.1 146 4 = 0 by rw [h2.2.1]; decide), F_in, Option.bind_some]
      dsimp only
      have ei : ((0 : Int64) ≤ a.toInt64 ∧ a.toInt64 ≤ 1114111) ↔ (0 ≤ a ∧ a ≤ 1114111) := ⟨fun h => ⟨(toI64_le (x := 0)).mp h.1, (toI64_le (y := 1114111)).mp h.2⟩, fun h => ⟨(toI64_le (x := 0)).mpr h.1, (toI64_le (y := 1114111)).mpr h.2⟩⟩
      refine pt_ite (fun q => pt_some ?_) (fun q => ?_)
      · rw [if_neg (fun z => (ite_z.mp q) (ei.mpr z))]
      · have q' := ei.mp (nnx (fun z => q (ite_z.mpr z)))
        rw [if_pos q']
        obtain ⟨c, hc, rfl⟩ := nI_of (Int32.not_lt.mpr q'.1)
        have c1 := (nI_leI (b := 1114111) hc (by decide)).mp q'.2
        rw [nI_clamp hc]
        refine pt_bb (find_rx (by omega) h2 k3 k7.2.2.1.2 m r22 r21 r23) ?_
        rintro ⟨x6, V4⟩ hx
        exact pt_some hx)
  subst exy
  exact ⟨x, V1, V2, e1, e2, z, s⟩
end GO
end
section
/-! glyph: the class and the reference alike -/
def GN (d : Nat → Int32) (n g m : Nat) : Prop := (¬ cmpd d n g ∧ m = 0) ∨ (cmpd d n g ∧ CPn d n (GB d n g) (GB d n (g + 1)) m)
def yC (d : Nat → Int32) (n g : Nat) : Int32 := if GB d n g = GB d n (g + 1) then 0 else s16 (g2 d n (GB d n g))
def yL (d : Nat → Int32) (n g : Nat) : Int32 := if GB d n g = GB d n (g + 1) then 0 else s16 (g2 d n (GB d n g + 2))
def yP (d : Nat → Int32) (n g : Nat) : Int32 := if GB d n g = GB d n (g + 1) then 0 else if g2 d n (GB d n g) ≤ 12 then nI (gM d n (GB d n g) (g2 d n (GB d n g))) else 0
def yR (d : Nat → Int32) (n g m : Nat) : Int32 := if GB d n g = GB d n (g + 1) then 0 else if g2 d n (GB d n g) ≤ 12 then nI (g2 d n (GB d n g + 10 + 2 * g2 d n (GB d n g))) else nI (if nI (g2 d n (pos d n (GB d n g) (m - 1))) &&& 256 = 0 then 0 else g2 d n (pos d n (GB d n g) m))
def advN (d : Nat → Int32) (n g : Nat) : Nat := g2 d n (bO d n 1752003704 + 4 * (if g < meO d n then g else meO d n - 1))
def beaN (d : Nat → Int32) (n g : Nat) : Nat := g2 d n (bO d n 1752003704 + (if g < meO d n then 4 * g + 2 else 4 * meO d n + 2 * (g - meO d n)))
def glyA (d : Nat → Int32) (n g m : Nat) (b : Int32) : Int32 := if b = 0 then nI (advN d n g) else if b = 1 then s16 (beaN d n g) else if b = 2 then nI (GB d n (g + 1) - GB d n g) else if b = 3 then yC d n g else if b = 4 then yL d n g else if b = 5 then yP d n g else if b = 6 then nI m else if b = 7 then yR d n g m else -2
section GY
variable {d : Nat → Int32} {n N g m : Nat} {V : sv_V}
theorem GN_u {m' : Nat} (h : GN d n g m) (h' : GN d n g m') : m = m' := by
  rcases h with ⟨a, b⟩ | ⟨a, b⟩ <;> rcases h' with ⟨a', b'⟩ | ⟨a', b'⟩
  · omega
  · exact absurd a' a
  · exact absurd a a'
  · exact CPn_u b b'
theorem GFc_y (h : GFc d n g V) : ∃ m, GN d n g m ∧ V.1 10 g = yC d n g ∧ V.1 11 g = yL d n g ∧ V.1 12 g = yP d n g ∧ V.1 13 g = nI m ∧ V.1 15 g = yR d n g m := by
  unfold yC yL yP yR
  rcases h with ⟨z, a, b, c, e, f⟩ | ⟨z, z2, a, b, c, e, f⟩ | ⟨z, z2, a, b, c, m, m1, m2, m3⟩
  · refine ⟨0, Or.inl ⟨fun x => x.1 z, rfl⟩, ?_⟩
    rw [if_pos z, if_pos z, if_pos z, if_pos z]
    exact ⟨a, b, c, e, f⟩
  · have nz : ¬ GB d n g = GB d n (g + 1) := by omega
    refine ⟨0, Or.inl ⟨fun x => by have := x.2; omega, rfl⟩, ?_⟩
    rw [if_neg nz, if_neg nz, if_neg nz, if_neg nz, if_pos z2, if_pos z2, s16_n (by omega)]
    exact ⟨a, b, c, e, f⟩
  · have nz : ¬ GB d n g = GB d n (g + 1) := by omega
    refine ⟨m, Or.inr ⟨⟨nz, z2⟩, m1⟩, ?_⟩
    rw [if_neg nz, if_neg nz, if_neg nz, if_neg nz, if_neg (by omega), if_neg (by omega), (s16_m1 g2_lt).mpr z2]
    exact ⟨a, b, c, m2, m3⟩
theorem GFr_y (h : GFr d n g V) : ∃ m, GN d n g m ∧ V.1 146 28 = yC d n g ∧ V.1 146 29 = yP d n g ∧ V.1 146 30 = nI m ∧ V.1 146 32 = yR d n g m := by
  unfold yC yP yR
  obtain ⟨-, -, ⟨z, a, c, e, f⟩ | ⟨z, z2, a, c, e, f⟩ | ⟨z, z2, a, c, m, m1, m2, m3, -⟩⟩ := h
  · refine ⟨0, Or.inl ⟨fun x => x.1 z, rfl⟩, ?_⟩
    rw [if_pos z, if_pos z, if_pos z]
    exact ⟨a, c, e, f⟩
  · have nz : ¬ GB d n g = GB d n (g + 1) := by omega
    refine ⟨0, Or.inl ⟨fun x => by have := x.2; omega, rfl⟩, ?_⟩
    rw [if_neg nz, if_neg nz, if_neg nz, if_pos z2, if_pos z2, s16_n (by omega)]
    exact ⟨a, c, e, f⟩
  · have nz : ¬ GB d n g = GB d n (g + 1) := by omega
    refine ⟨m, Or.inr ⟨⟨nz, z2⟩, m1⟩, ?_⟩
    rw [if_neg nz, if_neg nz, if_neg nz, if_neg (by omega), if_neg (by omega), (s16_m1 g2_lt).mpr z2]
    exact ⟨a, c, m2, m3⟩
theorem hm_b (h3 : K3 d n) (h8 : K8 d n) (h9 : K9 d n) (hg : g < glO d n) : bO d n 1752003704 + 4 * (if g < meO d n then g else meO d n - 1) + 2 ≤ n ∧ bO d n 1752003704 + (if g < meO d n then 4 * g + 2 else 4 * meO d n + 2 * (g - meO d n)) + 2 ≤ n := by
  have b := bO_le (t := 1752003704) h3
  unfold K9 at h9
  have h81 := h8.2.1
  have h82 := h8.2.2
  split <;> omega
theorem adv_c (h : CB d n V) (h8' : V.1 2 8 = nI (meO d n)) (h3 : K3 d n) (h8 : K8 d n) (h9 : K9 d n) (hg : g < glO d n) (gl2 : glO d n ≤ 200) : Pt (fun q : Int32 × sv_V => q.1 = nI (advN d n g)) (F_X2_advanceOf (nI g) V) := by
  have hn := h.1.1
  have hb := (hm_b h3 h8 h9 hg).1
  have h81 := h8.2.1
  have h82 := h8.2.2
  have eb : V.1 4 (4 : Int32).toNatClampNeg = nI (bO d n 1752003704) := (h.2.2.2 4 (by decide)).1
  unfold F_X2_advanceOf F_J9_min_7cf53
  rw [h8', eb, show nI (meO d n) - (1 : Int32) = nI (meO d n - 1) from pk_sub (b := 1) h81]
  refine pt_bb (Q := fun p : Int32 × sv_V => p = (nI (if g < meO d n then g else meO d n - 1), V)) ?_ ?_
  · refine pt_ite (fun q => pt_some ?_) (fun q => pt_some ?_)
    · have := (nI_ltI (by omega) (by omega)).mp q
      rw [if_neg (by omega)]
    · have := nI_nlt2 q (by omega)
      by_cases z : g < meO d n
      · rw [if_pos z]
      · omega
  · rintro _ rfl
    dsimp only
    rw [show (4 : Int32) * nI (if g < meO d n then g else meO d n - 1) = nI (4 * (if g < meO d n then g else meO d n - 1)) from pk_mul 4 _, nI_add, u2_c h.1 (by omega), Option.bind_some, c2_g hb]
    exact pt_some rfl
theorem bea_c (hd : DB d) (h : CB d n V) (h8' : V.1 2 8 = nI (meO d n)) (h3 : K3 d n) (h8 : K8 d n) (h9 : K9 d n) (hg : g < glO d n) (gl2 : glO d n ≤ 200) : Pt (fun q : Int32 × sv_V => q.1 = s16 (beaN d n g)) (F_X2_bearingOf (nI g) V) := by
  have hn := h.1.1
  have hb := (hm_b h3 h8 h9 hg).2
  have h82 := h8.2.2
  have eb : V.1 4 (4 : Int32).toNatClampNeg = nI (bO d n 1752003704) := (h.2.2.2 4 (by decide)).1
  unfold F_X2_bearingOf beaN
  rw [h8']
  refine pt_ite (fun q => ?_) (fun q => ?_)
  · have q' := (nI_leI (by omega) (by omega)).mp q
    rw [if_neg (by omega)] at hb ⊢
    unfold B_X2_bearingOf_31
    rw [eb, show (4 : Int32) * nI (meO d n) = nI (4 * meO d n) from pk_mul 4 _, pk_sub q', show (2 : Int32) * nI (g - meO d n) = nI (2 * (g - meO d n)) from pk_mul 2 _, nI_add, nI_add, s2_c hd h.1 (by omega), Option.bind_some, c2_g hb]
    exact pt_some rfl
  · have q' : g < meO d n := nI_nle2 q (by omega)
    rw [if_pos q'] at hb ⊢
    unfold B_X2_bearingOf_31
    rw [eb, show (4 : Int32) * nI g = nI (4 * g) from pk_mul 4 _, show nI (4 * g) + (2 : Int32) = nI (4 * g + 2) from nI_add _ 2, nI_add, s2_c hd h.1 (by omega), Option.bind_some, c2_g hb]
    exact pt_some rfl
theorem adv_r (h : RB d n V) (r20 : V.1 146 20 = nI (meO d n)) (h1 : K1 d n) (h3 : K3 d n) (h8 : K8 d n) (h9 : K9 d n) (hg : g < glO d n) (gl2 : glO d n ≤ 200) : Pt (fun q : Int32 × sv_V => q.1 = nI (advN d n g)) (F_X12_advanceOf N (nI g) V) := by
  have hn := h.1.1
  have hb := (hm_b h3 h8 h9 hg).1
  have h81 := h8.2.1
  have h82 := h8.2.2
  have g18 : ∀ k, k = (if g < meO d n then g else meO d n - 1) → Pt (fun q : Int32 × sv_V => q.1 = nI (advN d n g)) (B_X12_advanceOf_18 N (nI k) V) := fun k hk => by
    subst hk
    unfold B_X12_advanceOf_18
    refine pt_bb (beginOf_r (t := 1752003704) h h1 (by decide)) ?_
    rintro _ rfl
    dsimp only
    rw [show (4 : Int32) * nI (if g < meO d n then g else meO d n - 1) = nI (4 * (if g < meO d n then g else meO d n - 1)) from pk_mul 4 _, nI_add, u2_r h.1 (by omega), Option.bind_some]
    exact pt_some rfl
  unfold F_X12_advanceOf
  rw [r20, show nI (meO d n) - (1 : Int32) = nI (meO d n - 1) from pk_sub (b := 1) h81]
  refine pt_ite (fun q => g18 _ ?_) (fun q => g18 _ ?_)
  · have q' := (nI_leI (by omega) (by omega)).mp q
    rw [if_neg (by omega)]
  · have q' : g < meO d n := nI_nle2 q (by omega)
    rw [if_pos q']
theorem bea_r (h : RB d n V) (r20 : V.1 146 20 = nI (meO d n)) (h1 : K1 d n) (h3 : K3 d n) (h8 : K8 d n) (h9 : K9 d n) (hg : g < glO d n) (gl2 : glO d n ≤ 200) : Pt (fun q : Int32 × sv_V => q.1 = s16 (beaN d n g)) (F_X12_bearingOf N (nI g) V) := by
  have hn := h.1.1
  have hb := (hm_b h3 h8 h9 hg).2
  have h82 := h8.2.2
  unfold F_X12_bearingOf beaN
  refine pt_bb (beginOf_r (t := 1752003704) h h1 (by decide)) ?_
  rintro _ rfl
  dsimp only
  rw [r20]
  refine pt_ite (fun q => ?_) (fun q => ?_)
  · have q' := (nI_leI (by omega) (by omega)).mp q
    rw [if_neg (by omega)] at hb ⊢
    rw [show (4 : Int32) * nI (meO d n) = nI (4 * meO d n) from pk_mul 4 _, pk_sub q', show (2 : Int32) * nI (g - meO d n) = nI (2 * (g - meO d n)) from pk_mul 2 _, nI_add, nI_add, Nat.add_assoc, s2_r h.1 (by omega), Option.bind_some]
    exact pt_some rfl
  · have q' : g < meO d n := nI_nle2 q (by omega)
    rw [if_pos q'] at hb ⊢
    rw [show (4 : Int32) * nI g = nI (4 * g) from pk_mul 4 _, nI_add, show nI (bO d n 1752003704 + 4 * g) + (2 : Int32) = nI (bO d n 1752003704 + 4 * g + 2) from nI_add _ 2, Nat.add_assoc, s2_r h.1 (by omega), Option.bind_some]
    exact pt_some rfl
theorem left_r (h : RG d n V) (h1 : K1 d n) (h3 : K3 d n) (h10 : K10 d n) (hg : g < glO d n) (gl2 : glO d n ≤ 200) (h11 : GH d n g) : Pt (fun q : Int32 × sv_V => q.1 = yL d n g) (F_X12_leftOf N (nI g) V) := by
  have hn := h.1.1.1
  obtain ⟨een, ele⟩ := GB_le h3 h10 hg
  unfold F_X12_leftOf yL
  refine pt_bb (bytes_r h h1 h3 h10 hg gl2) ?_
  rintro V1 ⟨hV1, r26, r27, -⟩
  rw [r26, r27]
  refine pt_ite (fun q => ?_) (fun q => ?_)
  · rw [if_pos ((nI_eq (by omega) (by omega)).mp q)]
    exact pt_some rfl
  · have n0 : ¬ GB d n g = GB d n (g + 1) := fun z => q (by rw [z])
    have h10' : GB d n g + 10 ≤ GB d n (g + 1) := by
      rcases h11 with z | z
      · exact absurd z n0
      · exact z.1
    rw [if_neg n0, show nI (GB d n g) + (2 : Int32) = nI (GB d n g + 2) from nI_add _ 2, s2_r hV1.1.1 (by omega), Option.bind_some]
    exact pt_some rfl
def glyB (d : Nat → Int32) (n : Nat) (a b : Int32) (x : Int32) : Prop := (¬ (0 ≤ a ∧ a < nI (glO d n)) ∧ x = -1) ∨ ((0 ≤ a ∧ a < nI (glO d n)) ∧ ∃ m, GN d n a.toNatClampNeg m ∧ x = glyA d n a.toNatClampNeg m b)
theorem glyB_u {a b x y : Int32} (h : glyB d n a b x) (k : glyB d n a b y) : x = y := by
  rcases h with ⟨p, q⟩ | ⟨p, m, q, r⟩ <;> rcases k with ⟨p', q'⟩ | ⟨p', m', q', r'⟩
  · exact q.trans q'.symm
  · exact absurd p' p
  · exact absurd p p'
  · rw [r, r', GN_u q q']
theorem gly_c (hd : DB d) (hf : FT (KL d n) 1 0) (h : CF d n V) (f1 : V.1 2 2 = 1) (a b : Int32) : Pt (fun q : Int32 × sv_V => glyB d n a b q.1) (F_X11_glyph a b V) := by
  obtain ⟨k1, -, k3, -, -, -, k7, k8, k9, k10, -⟩ := FT_all hf
  have gl2 := k7.2.2.1.2
  obtain ⟨cb, -, c7, c8, -, -, -, hF⟩ := h
  unfold F_X11_glyph
  rw [if_neg (show ¬ V.1 2 2 = 0 by rw [f1]; decide), hasG c7, Option.bind_some]
  dsimp only
  refine pt_ite (fun q => pt_some (Or.inl ⟨ite_z.mp q, rfl⟩)) (fun q => ?_)
  have q' := nnx (fun z => q (ite_z.mpr z))
  obtain ⟨g, hg, rfl⟩ := nI_of (Int32.not_lt.mpr q'.1)
  have g1 := (nI_ltI hg (by omega)).mp q'.2
  obtain ⟨⟨h8, h9⟩, gf⟩ := hF g g1
  obtain ⟨m, gn, y1, y2, y3, y4, y5⟩ := GFc_y gf
  have ok : ∀ x, x = glyA d n g m b → glyB d n (nI g) b x := fun x hx => Or.inr ⟨q', m, by rw [nI_clamp hg]; exact gn, by rw [nI_clamp hg]; exact hx⟩
  unfold glyA at ok
  rw [nI_clamp hg]
  refine pt_ite (fun z => ?_) (fun z0 => pt_ite (fun z => ?_) (fun z1 => pt_ite (fun z => ?_) (fun z2 => pt_ite (fun z => ?_) (fun z3 => pt_ite (fun z => ?_) (fun z4 => pt_ite (fun z => ?_) (fun z5 => pt_ite (fun z => ?_) (fun z6 => pt_ite (fun z => ?_) (fun z7 => ?_))))))))
  · refine pt_bb (adv_c cb c8 k3 k8 k9 g1 gl2) ?_
    rintro ⟨x, U⟩ hx
    exact pt_some (ok _ (by rw [if_pos z]; exact hx))
  · refine pt_bb (bea_c hd cb c8 k3 k8 k9 g1 gl2) ?_
    rintro ⟨x, U⟩ hx
    exact pt_some (ok _ (by rw [if_neg z0, if_pos z]; exact hx))
  · rw [show cr 7 (1 : Int32).toNatClampNeg = some 9 from rfl, Option.bind_some, show sv_len 0 9 = some 200 from rfl, Option.bind_some]
    exact pt_g fun _ => pt_some (ok _ (by rw [if_neg z0, if_neg z1, if_pos z]; exact h9))
  · rw [show cr 7 (2 : Int32).toNatClampNeg = some 10 from rfl, Option.bind_some, show sv_len 0 10 = some 200 from rfl, Option.bind_some]
    exact pt_g fun _ => pt_some (ok _ (by rw [if_neg z0, if_neg z1, if_neg z2, if_pos z]; exact y1))
  · rw [show cr 7 (3 : Int32).toNatClampNeg = some 11 from rfl, Option.bind_some, show sv_len 0 11 = some 200 from rfl, Option.bind_some]
    exact pt_g fun _ => pt_some (ok _ (by rw [if_neg z0, if_neg z1, if_neg z2, if_neg z3, if_pos z]; exact y2))
  · rw [show cr 7 (4 : Int32).toNatClampNeg = some 12 from rfl, Option.bind_some, show sv_len 0 12 = some 200 from rfl, Option.bind_some]
    exact pt_g fun _ => pt_some (ok _ (by rw [if_neg z0, if_neg z1, if_neg z2, if_neg z3, if_neg z4, if_pos z]; exact y3))
  · rw [show cr 7 (5 : Int32).toNatClampNeg = some 13 from rfl, Option.bind_some, show sv_len 0 13 = some 200 from rfl, Option.bind_some]
    exact pt_g fun _ => pt_some (ok _ (by rw [if_neg z0, if_neg z1, if_neg z2, if_neg z3, if_neg z4, if_neg z5, if_pos z]; exact y4))
  · rw [show cr 7 (7 : Int32).toNatClampNeg = some 15 from rfl, Option.bind_some, show sv_len 0 15 = some 200 from rfl, Option.bind_some]
    exact pt_g fun _ => pt_some (ok _ (by rw [if_neg z0, if_neg z1, if_neg z2, if_neg z3, if_neg z4, if_neg z5, if_neg z6, if_pos z]; exact y5))
  · exact pt_some (ok _ (by rw [if_neg z0, if_neg z1, if_neg z2, if_neg z3, if_neg z4, if_neg z5, if_neg z6, if_neg z7]))
theorem gly_r (hf : FT (KL d n) 1 0) (h : RF d n V) (f1 : V.1 146 4 = 1) (a b : Int32) : Pt (fun q : Int32 × sv_V => glyB d n a b q.1) (F_X12_glyph N a b V) := by
  obtain ⟨k1, -, k3, -, -, -, k7, k8, k9, k10, k11, -⟩ := FT_all hf
  have gl2 := k7.2.2.1.2
  obtain ⟨rg', -, r20, -⟩ := h
  have hn := rg'.1.1.1
  unfold F_X12_glyph
  rw [if_neg (show ¬ V.1 146 4 = 0 by rw [f1]; decide), rg'.2.2, in_0 k7.2.2.1.1 (by omega), Option.bind_some]
  dsimp only
  refine pt_ite (fun q => pt_some (Or.inl ⟨ite_z.mp q, rfl⟩)) (fun q => ?_)
  have q' := nnx (fun z => q (ite_z.mpr z))
  obtain ⟨g, hg, rfl⟩ := nI_of (Int32.not_lt.mpr q'.1)
  have g1 := (nI_ltI hg (by omega)).mp q'.2
  obtain ⟨een, ele⟩ := GB_le k3 k10 g1
  refine pt_b fun z hz => ?_
  obtain ⟨x8, V6⟩ := z
  obtain ⟨hx, hy⟩ := isg_r rg' k1 k3 k10 g1 gl2 _ hz
  have mm := m_X12_isGlyph sv_sub_rf hz
  dsimp only at hx hy ⊢
  have gfr := hy (hx.elim (fun y => y.1) (fun y => absurd (k11.1 g g1) y.2))
  obtain ⟨m, gn, y1, y3, y4, y5⟩ := GFr_y gfr
  have h6 : RG d n V6 := RG_fr rg' mm rfl rfl rfl
  have s20 : V6.1 146 20 = nI (meO d n) := (mm 146 20 rfl).1.trans r20
  have ok : ∀ x, x = glyA d n g m b → glyB d n (nI g) b x := fun x hx => Or.inr ⟨q', m, by rw [nI_clamp hg]; exact gn, by rw [nI_clamp hg]; exact hx⟩
  unfold glyA at ok
  refine pt_ite (fun z => ?_) (fun z0 => pt_ite (fun z => ?_) (fun z1 => pt_ite (fun z => ?_) (fun z2 => pt_ite (fun z => ?_) (fun z3 => pt_ite (fun z => ?_) (fun z4 => pt_ite (fun z => ?_) (fun z5 => pt_ite (fun z => ?_) (fun z6 => pt_ite (fun z => ?_) (fun z7 => ?_))))))))
  · refine pt_bb (adv_r h6.1 s20 k1 k3 k8 k9 g1 gl2) ?_
    rintro ⟨x, U⟩ hx
    exact pt_some (ok _ (by rw [if_pos z]; exact hx))
  · refine pt_bb (bea_r h6.1 s20 k1 k3 k8 k9 g1 gl2) ?_
    rintro ⟨x, U⟩ hx
    exact pt_some (ok _ (by rw [if_neg z0, if_pos z]; exact hx))
  · refine pt_some (ok _ ?_)
    rw [if_neg z0, if_neg z1, if_pos z, gfr.1, gfr.2.1, pk_sub ele]
  · exact pt_some (ok _ (by rw [if_neg z0, if_neg z1, if_neg z2, if_pos z]; exact y1))
  · refine pt_bb (left_r h6 k1 k3 k10 g1 gl2 (k11.1 g g1)) ?_
    rintro ⟨x, U⟩ hx
    exact pt_some (ok _ (by rw [if_neg z0, if_neg z1, if_neg z2, if_neg z3, if_pos z]; exact hx))
  · exact pt_some (ok _ (by rw [if_neg z0, if_neg z1, if_neg z2, if_neg z3, if_neg z4, if_pos z]; exact y3))
  · exact pt_some (ok _ (by rw [if_neg z0, if_neg z1, if_neg z2, if_neg z3, if_neg z4, if_neg z5, if_pos z]; exact y4))
  · exact pt_some (ok _ (by rw [if_neg z0, if_neg z1, if_neg z2, if_neg z3, if_neg z4, if_neg z5, if_neg z6, if_pos z]; exact y5))
  · exact pt_some (ok _ (by rw [if_neg z0, if_neg z1, if_neg z2, if_neg z3, if_neg z4, if_neg z5, if_neg z6, if_neg z7]))
end GY
end
section
/-! what the class noted of glyphs stays, whatever is made -/
def FI (d : Nat → Int32) (n : Nat) (V : sv_V) : Prop := FC d n V ∧ V.1 2 7 = nI (glO d n) ∧ ∀ g, g < glO d n → (V.1 8 g = nI (GB d n g) ∧ V.1 9 g = nI (GB d n (g + 1) - GB d n g)) ∧ GFc d n g V
/-- nothing below cell 16 changes -/
def K15 (V W : sv_V) : Prop := ∀ a i, a < 16 → W.1 a i = V.1 a i
section FX
variable {d : Nat → Int32} {n N : Nat} {V W : sv_V}
theorem FI_k (h : FI d n V) (k : K15 V W) : FI d n W := by
  obtain ⟨⟨a, b, c⟩, e, f⟩ := h
  refine ⟨⟨a, (k _ _ (by decide)).trans b, fun j hj => (k _ _ (by decide)).trans (c j hj)⟩, (k _ _ (by decide)).trans e, fun g hg => ?_⟩
  obtain ⟨⟨x, y⟩, z⟩ := f g hg
  refine ⟨⟨(k _ _ (by decide)).trans x, (k _ _ (by decide)).trans y⟩, ?_⟩
  unfold GFc at z ⊢
  rw [k 10 g (by decide), k 11 g (by decide), k 12 g (by decide), k 13 g (by decide), k 15 g (by decide)]
  exact z
theorem K15_md {md : List (Nat × Option Nat)} (f : sv_eq md V W) (c : md.all (fun q => decide (16 ≤ q.1)) = true) : K15 V W := fun a i ha => (f a i (by
  cases e : sv_hit md a i with
  | false => rfl
  | true =>
    exfalso
    unfold sv_hit at e
    rw [List.any_eq_true] at e
    obtain ⟨q, hq, e⟩ := e
    have z := of_decide_eq_true (List.all_eq_true.mp c q hq)
    simp only [Bool.and_eq_true, beq_iff_eq] at e
    omega)).1
theorem FI_md {md : List (Nat × Option Nat)} (h : FI d n V) (f : sv_eq md V W) (c : md.all (fun q => decide (16 ≤ q.1)) = true) : FI d n W := FI_k h (K15_md f c)
theorem FI_w {a i : Nat} {x : Int32} (h : FI d n V) (e : W = sv_I V a i x) (ha : 16 ≤ a) : FI d n W := FI_k h (fun b j hb => by rw [e]; exact vI_cell _ _ _ _ (by omega))
theorem FI_16 (h : FI d n V) (k : K16 V W) : FI d n W := FI_k h (fun a i ha => k a i (by omega))
/-- cells of the five outlines -/
theorem cr_p {p k b : Nat} (hp : p ∈ [93, 103, 113, 123, 133]) (hk : k < 9) (h : cr p k = some b) : 16 ≤ b := by
  have key : ∀ p ∈ [93, 103, 113, 123, 133], ∀ k, k < 9 → (match cr p k with | some b => decide (16 ≤ b) | none => true) = true := by decide
  have z := key p hp k hk
  rw [h] at z
  exact of_decide_eq_true z
theorem p16 {p : Nat} (hp : p ∈ [93, 103, 113, 123, 133]) : 16 ≤ p := by
  have key : ∀ p ∈ [93, 103, 113, 123, 133], 16 ≤ p := by decide
  exact key p hp
theorem out_p {g p : Nat} (h : FI d n V) (h3 : K3 d n) (h10 : K10 d n) (h11 : K11 d n) (gl2 : glO d n ≤ 200) (hg : g < glO d n) (hp : p ∈ [93, 103, 113, 123, 133]) (hs : ¬ cmpd d n g) (hne : ¬ GB d n g = GB d n (g + 1)) : Pt (fun q : Int32 × sv_V => FI d n q.2) (F_X3_readOutline N (nI g) p V) := by
  have hn := h.1.1
  obtain ⟨een, ele⟩ := GB_le h3 h10 hg
  obtain ⟨⟨h8, h9⟩, gf⟩ := h.2.2 g hg
  have gh := h11.1 g hg
  have p6 := p16 hp
  obtain ⟨hb, hc, v10, vp⟩ : GB d n g + 10 ≤ GB d n (g + 1) ∧ g2 d n (GB d n g) ≤ 12 ∧ V.1 10 g = nI (g2 d n (GB d n g)) ∧ V.1 15 g = nI (g2 d n (GB d n g + 10 + 2 * g2 d n (GB d n g))) := by
    rcases gf with ⟨z, -⟩ | ⟨z, z2, a, -, -, -, f⟩ | ⟨z, z2, -⟩
    · exact absurd z hne
    · exact ⟨z, z2, a, f⟩
    · exact absurd ⟨hne, z2⟩ hs
  have sp : SPv d n (GB d n g) (GB d n (g + 1)) (g2 d n (GB d n g)) := by
    rcases gh with z | ⟨-, z | z⟩
    · exact absurd z hne
    · exact z.2
    · exact absurd ⟨hne, z.1⟩ hs
  generalize hB : GB d n g = b at *
  generalize hE : GB d n (g + 1) = e at *
  generalize hC : g2 d n b = c at *
  obtain ⟨t, z1, z2, z3, z4, -⟩ := sp
  unfold F_X3_readOutline
  refine pt_bb (goto_c (by omega) h8 h9 hb) ?_
  intro V49 ⟨t0, k0⟩
  have f0 : FI d n V49 := FI_k h (fun a i ha => k0 a i (by omega))
  dsimp only
  rw [show cr 7 (2 : Int32).toNatClampNeg = some 10 from rfl, Option.bind_some, show sv_len 0 10 = some 200 from rfl, Option.bind_some, nI_clamp (by omega), (k0 10 g (by omega)).trans v10]
  refine pt_g fun _ => ?_
  unfold F_J9_min_7cf53
  rw [if_neg (show ¬ (12 : Int32) < nI c from nI_nlt (a := 12) hc (by decide)), Option.bind_some]
  dsimp only
  refine pt_l6 (I := fun a1 a2 a3 a4 a5 W => a1 = nI g ∧ a2 = p ∧ a3 = nI c ∧ FI d n W ∧ ∃ k, a5 = nI k ∧ k ≤ c ∧ TS e (b + 10 + 2 * k) W) ?_ N _ _ _ _ _ V49 ⟨rfl, rfl, rfl, f0, 0, rfl, Nat.zero_le _, t0⟩
  rintro kk ih a1 a2 a3 a4 a5 W ⟨rfl, rfl, rfl, fW', k, rfl, kl, hT⟩
  unfold B_X3_readOutline_28
  refine pt_ite (fun q => ?_) (fun q => ?_)
  rotate_left
  · have hkc : k < c := nI_nle2 q (by omega)
    refine pt_bb (take2 fW'.1 hT een (by omega)) ?_
    rintro ⟨x37, V35⟩ ⟨-, t1, k1⟩
    dsimp only at t1 k1 ⊢
    have f1 : FI d n V35 := FI_16 fW' k1
    refine pt_ite (fun _ => pt_ite (fun _ => pt_some f1) (fun _ => pt_ite (fun _ => ?_) (fun _ => pt_some f1))) (fun _ => pt_some f1)
    refine pt_g fun _ => pt_b fun b42 hb42 => pt_b fun n44 _ => pt_g fun _ => pt_let fun V47 e47 => pt_let fun x48 hx => ?_
    have b16 := cr_p hp (by decide) hb42
    have b17 : b42 ≠ 16 := by
      have key : ∀ p ∈ [93, 103, 113, 123, 133], cr p 6 ≠ some 16 := by decide
      intro z
      rw [z] at hb42
      exact key _ hp hb42
    refine ih _ _ _ _ _ _ ⟨rfl, rfl, rfl, FI_w f1 e47 b16, k + 1, by rw [hx, nI_1], hkc, ?_⟩
    rw [show b + 10 + 2 * (k + 1) = b + 10 + 2 * k + 2 by omega]
    exact TS_fr t1 (by rw [e47]; exact vI_cell _ _ _ _ (Ne.symm b17)) (by rw [e47]; exact vI_cell _ _ _ _ (Ne.symm b17)) (by rw [e47]; exact vI_cell _ _ _ _ (Ne.symm b17))
  have ek : k = c := by
    have := (nI_leI (by omega) (by omega)).mp q
    omega
  subst ek
  refine pt_b fun z hz => ?_
  obtain ⟨x23, V21⟩ := z
  have m21 := m_J9_max_7cf53 sv_sub_rf hz
  refine pt_g fun _ => pt_let fun V25 e25 => pt_let fun V26 e26 => ?_
  have a17 : a2 ≠ 16 := by
    have key : ∀ p ∈ [93, 103, 113, 123, 133], p ≠ 16 := by decide
    exact key _ hp
  have f26 : FI d n V26 := FI_w (FI_w (FI_md fW' m21 rfl) e25 p6) e26 p6
  have t26 : TS e (b + 10 + 2 * k) V26 := TS_fr hT (by rw [e26, vI_cell _ _ _ _ (Ne.symm a17), e25, vI_cell _ _ _ _ (Ne.symm a17)]; exact (m21 16 4 rfl).1) (by rw [e26, vI_cell _ _ _ _ (Ne.symm a17), e25, vI_cell _ _ _ _ (Ne.symm a17)]; exact (m21 16 5 rfl).1) (by rw [e26, vI_cell _ _ _ _ (Ne.symm a17), e25, vI_cell _ _ _ _ (Ne.symm a17)]; exact (m21 16 6 rfl).1)
  refine pt_bb (prog_t f26.1 t26 een (by omega) (by omega)) ?_
  rintro ⟨x29, V27⟩ ⟨hx, kr, hy⟩
  dsimp only at hx kr hy ⊢
  have y1 : x29 = 1 := hx.elim (fun y => y.1) (fun y => absurd ⟨by omega, z3, by omega⟩ y.2)
  obtain ⟨-, r15⟩ := hy y1
  have f27 : FI d n V27 := by
    refine ⟨⟨f26.1.1, (kr 2 1 (by omega) (by omega)).trans f26.1.2.1, fun j hj => (kr 3 j (by omega) (by omega)).trans (f26.1.2.2 j hj)⟩, (kr 2 7 (by omega) (by omega)).trans f26.2.1, fun g' hg' => ?_⟩
    obtain ⟨⟨x, y⟩, z⟩ := f26.2.2 g' hg'
    refine ⟨⟨(kr 8 g' (by omega) (by omega)).trans x, (kr 9 g' (by omega) (by omega)).trans y⟩, ?_⟩
    have e15 : V27.1 15 g' = V26.1 15 g' := by
      by_cases e' : g' = g
      · subst e'
        rw [r15]
        rcases z with ⟨u, -⟩ | ⟨u, u2, -, -, -, -, u3⟩ | ⟨u, u2, -⟩
        · rw [hB, hE] at u
          exact absurd u hne
        · rw [hB, hC] at u3
          exact u3.symm
        · rw [hB, hC] at u2
          omega
      · exact kr 15 g' (by omega) (by omega)
    unfold GFc at z ⊢
    rw [kr 10 g' (by omega) (by omega), kr 11 g' (by omega) (by omega), kr 12 g' (by omega) (by omega), kr 13 g' (by omega) (by omega), e15]
    exact z
  refine pt_ite (fun z => by rw [y1] at z; exact absurd z (by decide)) (fun _ => ?_)
  refine pt_b fun z hz => ?_
  obtain ⟨x33, V31⟩ := z
  have f31 : FI d n V31 := FI_md f27 (m_X3_takeFlags sv_sub_rf hz) rfl
  dsimp only
  refine pt_ite (fun _ => pt_some f31) (fun _ => ?_)
  refine pt_l3 (I := fun a1 a2' U => a1 = a2 ∧ FI d n U) ?_ N _ _ V31 ⟨rfl, f31⟩
  rintro k3 ih3 c1 c2 U ⟨rfl, uF⟩
  unfold B_X3_readOutline_123
  have tp : ∀ (q : Nat) (X Y : sv_V) (m' : Int32) (o1 o2 : Int32), 16 ≤ q → FI d n X → F_X3_takePlaces N q m' o1 o2 X = some Y → FI d n Y := fun q X Y m' o1 o2 hq hX e => by
    refine FI_md (md := (q, none) :: md_X3_takePlaces) hX (m_X3_takePlaces (fun a k z => ?_) (fun k => sv_hit_n (by simp) k) e) ?_
    · unfold sv_hit at z ⊢
      rw [List.any_cons, z, Bool.or_true]
    · rw [List.all_cons, decide_eq_true hq]
      rfl
  refine pt_g fun _ => pt_ite (fun _ => ?_) (fun _ => ?_)
  · refine pt_b fun b3 hb3 => pt_b fun V5 e5 => pt_b fun b7 hb7 => pt_b fun V9 e9 => ?_
    have f5 := tp _ _ _ _ _ _ (cr_p hp (by decide) hb3) uF e5
    have f9 := tp _ _ _ _ _ _ (cr_p hp (by decide) hb7) f5 e9
    exact pt_ite (fun _ => pt_some f9) (fun _ => pt_some f9)
  · exact pt_b fun b12 hb12 => pt_g fun _ => pt_b fun n15 _ => pt_g fun _ => pt_let fun V18 e18 => pt_let fun x19 _ => ih3 _ _ _ ⟨rfl, FI_w uF e18 (cr_p hp (by decide) hb12)⟩
theorem tko_p {g p : Nat} (h : FI d n V) (h3 : K3 d n) (h10 : K10 d n) (h11 : K11 d n) (gl2 : glO d n ≤ 200) (hg : g < glO d n) (hp : p ∈ [93, 103, 113, 123, 133]) (hs : ¬ cmpd d n g) (hne : ¬ GB d n g = GB d n (g + 1)) : Pt (fun W : sv_V => FI d n W) (F_X6_takeOutline N (nI g) p V) := by
  unfold F_X6_takeOutline
  refine pt_bb (out_p h h3 h10 h11 gl2 hg hp hs hne) ?_
  rintro ⟨x26, V24⟩ f24
  refine pt_l3 (I := fun a1 _ U => a1 = p ∧ FI d n U) ?_ N _ _ V24 ⟨rfl, f24⟩
  rintro kk ih a1 a2 U ⟨rfl, uF⟩
  unfold B_X6_takeOutline_12
  refine pt_g fun _ => pt_ite (fun _ => pt_some uF) (fun _ => pt_b fun b3 hb3 => pt_b fun n5 _ => pt_g fun _ => pt_b fun z hz => ?_)
  obtain ⟨x10, V8⟩ := z
  have f8 : FI d n V8 := FI_md uF (m_X5_scaled sv_sub_rf hz) rfl
  refine pt_g fun _ => pt_let fun V12 e12 => pt_b fun b13 hb13 => pt_b fun n15 _ => pt_g fun _ => pt_b fun z hz2 => ?_
  obtain ⟨x20, V18⟩ := z
  have f12 := FI_w f8 e12 (cr_p hp (by decide) hb3)
  have f18 : FI d n V18 := FI_md f12 (m_X5_scaled sv_sub_rf hz2) rfl
  exact pt_g fun _ => pt_let fun V22 e22 => pt_let fun x23 _ => ih _ _ _ ⟨rfl, FI_w f18 e22 (cr_p hp (by decide) hb13)⟩
theorem bld_p (h : FI d n V) (h3 : K3 d n) (h10 : K10 d n) (h11 : K11 d n) (gl2 : glO d n ≤ 200) (a l : Int32) : Pt (fun q : Int32 × sv_V => FI d n q.2) (F_X6_build N a l V) := by
  unfold F_X6_build
  refine pt_l3 (I := fun _ _ W => FI d n W) ?_ 8 _ _ V h
  intro kb ih a1 a2 W hW
  have no16 : ∀ U, FI d n U → Pt (fun q : Int32 × sv_V => FI d n q.2) (B_X6_build_16 N kb U) := fun U hU => by
    unfold B_X6_build_16
    exact pt_b fun V1 e1 => pt_some (FI_md hU (m_X5_failOutside sv_sub_rf e1) rfl)
  have g169 : ∀ U, FI d n U → Pt (fun q : Int32 × sv_V => FI d n q.2) (B_X6_build_169 N kb U) := fun U hU => by
    unfold B_X6_build_169
    exact pt_ite (fun _ => pt_some hU) (fun _ => pt_some hU)
  have g85 : ∀ l1 l3 U, FI d n U → Pt (fun q : Int32 × sv_V => FI d n q.2) (B_X6_build_85 N kb l1 l3 U) := fun l1 l3 U hU => by
    unfold B_X6_build_85
    refine pt_b fun z hz => ?_
    obtain ⟨x6, V4⟩ := z
    have f4 : FI d n V4 := FI_md hU (m_X8_liesWithin sv_sub_rf hz) rfl
    refine pt_g fun _ => pt_ite (fun _ => pt_b fun V29 e29 => pt_some (FI_md f4 (m_X5_failOutside sv_sub_rf e29) rfl)) (fun _ => pt_b fun b9 _ => pt_b fun n11 _ => pt_g fun _ => pt_let fun x14 _ => pt_ite (fun _ => g169 _ f4) (fun _ => pt_b fun V16 e16 => pt_b fun V18 e18 => pt_b fun b20 _ => pt_b fun n22 _ => pt_g fun _ => pt_b fun V25 e25 => pt_b fun V27 e27 => g169 _ ?_))
    exact FI_md (FI_md (FI_md (FI_md f4 (m_X7_copyFrom sv_sub_rf e16) (by decide +kernel)) (m_X8_beginProgram sv_sub_rf e18) (by decide +kernel)) (m_X5_run sv_sub_rf e25) (by decide +kernel)) (m_X8_endProgram sv_sub_rf e27) (by decide +kernel)
  unfold G_X6_build
  refine pt_ite (fun _ => no16 _ hW) (fun _ => ?_)
  rw [hasG hW.2.1, Option.bind_some]
  dsimp only
  refine pt_ite (fun _ => no16 _ hW) (fun q => ?_)
  have q' := nnx (fun z => q (ite_z.mpr z))
  obtain ⟨g, hg, rfl⟩ := nI_of (Int32.not_lt.mpr q'.1)
  have g1 := (nI_ltI hg (by omega)).mp q'.2
  refine pt_g fun _ => pt_b fun b37 hb37 => pt_b fun V39 e39 => ?_
  have hp := cr_rows59 hb37
  have f39 : FI d n V39 := FI_md hW (m_X6_beginOutline sv_sub_rf e39) (by decide +kernel)
  obtain ⟨⟨h8, h9⟩, gf⟩ := f39.2.2 g g1
  obtain ⟨een, ele⟩ := GB_le h3 h10 g1
  have hn := hW.1.1
  rw [show cr 7 (5 : Int32).toNatClampNeg = some 13 from rfl, Option.bind_some, show sv_len 0 13 = some 200 from rfl, Option.bind_some, nI_clamp hg]
  refine pt_g fun _ => pt_ite (fun q1 => ?_) (fun _ => ?_)
  · rw [show cr 7 (1 : Int32).toNatClampNeg = some 9 from rfl, Option.bind_some, show sv_len 0 9 = some 200 from rfl, Option.bind_some, h9]
    refine pt_g fun _ => pt_ite (fun _ => g85 _ _ _ f39) (fun q2 => ?_)
    have hs : ¬ cmpd d n g := by
      rcases GFc_p gf with ⟨c, -⟩ | ⟨-, -, m, m1, e13⟩
      · exact c
      · rw [e13] at q1
        exact absurd q1 (nI_nle m1.1 (by have := m1.2.1; omega))
    refine pt_bb (tko_p f39 h3 h10 h11 gl2 g1 hp hs (fun z => q2 (by rw [z, Nat.sub_self]; decide))) ?_
    intro V53 f53
    exact g85 _ _ _ f53
  · refine pt_bb (Q := fun q : Int32 × sv_V => FI d n q.2) ?_ ?_
    · unfold F_X6_addParts
      refine pt_l4 (I := fun _ _ _ U => FI d n U) ?_ N _ _ _ V39 f39
      intro k2 ih2 c1 c2 c3 U hU
      unfold B_X6_addParts_2
      refine pt_b fun b1 _ => pt_b fun n3 _ => pt_g fun _ => pt_ite (fun _ => pt_some hU) (fun _ => pt_let fun V7 e7 => ?_)
      have f7 := FI_w hU e7 (by decide)
      refine pt_ite (fun _ => pt_b fun V9 e9 => ?_) (fun _ => pt_b fun V22 e22 => pt_some (FI_md f7 (m_X5_failOutside sv_sub_rf e22) rfl))
      have f9 : FI d n V9 := FI_md f7 (m_X3_readPart sv_sub_rf e9) (by decide +kernel)
      refine pt_bb (ih _ _ _ f9) ?_
      rintro ⟨x13, V11⟩ f11
      refine pt_ite (fun _ => pt_some f11) (fun _ => pt_b fun V15 e15 => pt_b fun z hz => ?_)
      obtain ⟨x19, V17⟩ := z
      have f15 : FI d n V15 := FI_md f11 (m_X3_readPart sv_sub_rf e15) (by decide +kernel)
      have f17 : FI d n V17 := FI_md f15 (m_X6_addPart sv_sub_rf hz) (by decide +kernel)
      exact pt_ite (fun _ => pt_some f17) (fun _ => pt_let fun x21 _ => ih2 _ _ _ _ f17)
    · rintro ⟨x57, V55⟩ f55
      exact pt_ite (fun _ => pt_some f55) (fun _ => g85 _ _ _ f55)
theorem mkg_p (h : FI d n V) (h3 : K3 d n) (h10 : K10 d n) (h11 : K11 d n) (gl2 : glO d n ≤ 200) (a : Int32) : Pt (fun q : Int32 × sv_V => FI d n q.2) (F_X6_makeGlyph N a V) := by
  have g106 : ∀ p U, FI d n U → Pt (fun q : Int32 × sv_V => FI d n q.2) (B_X6_makeGlyph_106 N p U) := fun p U hU => by
    unfold B_X6_makeGlyph_106
    refine pt_ite (fun _ => pt_let fun V2 e2 => pt_b fun V3 e3 => pt_g fun _ => pt_some ?_) (fun _ => pt_let fun V6 e6 => pt_some (FI_w hU e6 (by decide)))
    exact FI_md (FI_w hU e2 (by decide)) (m_X10_trace sv_sub_rf e3) (by decide +kernel)
  have g54 : ∀ p s U, FI d n U → Pt (fun q : Int32 × sv_V => FI d n q.2) (B_X6_makeGlyph_54 N p s U) := fun p s U hU => by
    unfold B_X6_makeGlyph_54
    refine pt_g fun _ => pt_let fun V8 e8 => pt_g fun _ => pt_b fun b10 _ => pt_b fun n12 _ => pt_g fun _ => pt_g fun _ => pt_let fun V16 e16 => pt_g fun _ => pt_b fun V18 e18 => pt_b fun z hz => ?_
    obtain ⟨x22, V20⟩ := z
    have f18 : FI d n V18 := FI_md (FI_w (FI_w hU e8 (by decide)) e16 (by decide)) (m_X8_shift sv_sub_rf e18) (by decide +kernel)
    have f20 : FI d n V20 := FI_md f18 (m_X8_liesWithin sv_sub_rf hz) rfl
    exact pt_ite (fun _ => pt_b fun V24 e24 => g106 _ _ (FI_md f20 (m_X5_failOutside sv_sub_rf e24) rfl)) (fun _ => g106 _ _ f20)
  unfold F_X6_makeGlyph
  refine pt_let fun V26 e26 => pt_let fun V27 e27 => pt_b fun V28 e28 => pt_b fun b30 _ => ?_
  have f28 : FI d n V28 := FI_md (FI_w (FI_w h e26 (by decide)) e27 (by decide)) (m_X5_beginCount sv_sub_rf e28) rfl
  refine pt_bb (bld_p f28 h3 h10 h11 gl2 a 0) ?_
  rintro ⟨x34, V32⟩ f32
  exact pt_ite (fun _ => g106 _ _ f32) (fun _ => pt_b fun b36 _ => pt_b fun n38 _ => pt_g fun _ => pt_ite (fun _ => g54 _ _ _ f32) (fun _ => g54 _ _ _ f32))
theorem mk_p (h : FI d n V) (h3 : K3 d n) (h10 : K10 d n) (h11 : K11 d n) (gl2 : glO d n ≤ 200) (a : Int32) : Pt (fun q : Int32 × sv_V => FI d n q.2) (F_X11_make N a V) := by
  unfold F_X11_make
  refine pt_ite (fun _ => pt_some h) (fun _ => pt_ite (fun _ => pt_some h) (fun _ => ?_))
  rw [hasG h.2.1, Option.bind_some]
  dsimp only
  refine pt_ite (fun _ => pt_some h) (fun _ => ?_)
  refine pt_bb (mkg_p h h3 h10 h11 gl2 a) ?_
  rintro ⟨x9, V7⟩ f7
  exact pt_some f7
theorem ln_p (h : FI d n V) (h3 : K3 d n) (h10 : K10 d n) (h11 : K11 d n) (gl2 : glO d n ≤ 200) (a b : Int32) : Pt (fun q : Int32 × sv_V => FI d n q.2) (F_X11_line N a b V) := by
  unfold F_X11_line
  refine pt_ite (fun _ => pt_some h) (fun _ => pt_ite (fun _ => pt_some h) (fun _ => pt_ite (fun _ => pt_some h) (fun _ => pt_b fun z hz => ?_)))
  obtain ⟨x32, V30⟩ := z
  have f30 : FI d n V30 := FI_md h (m_X11_isBeyond sv_sub_rf hz) rfl
  refine pt_ite (fun _ => pt_b fun z hz2 => ?_) (fun _ => pt_some f30)
  obtain ⟨x36, V34⟩ := z
  have f34 : FI d n V34 := FI_md f30 (m_X11_isBeyond sv_sub_rf hz2) rfl
  refine pt_ite (fun _ => pt_let fun x38 _ => pt_let fun V39 e39 => pt_let fun x40 _ => ?_) (fun _ => pt_some f34)
  have f39 : FI d n V39 := by
    obtain ⟨⟨p1, p2, p3⟩, p4, p5⟩ := f34
    have c : ∀ a i, a ≠ 0 → V39.1 a i = V34.1 a i := fun a i ha => by rw [e39]; exact vI_cell _ _ _ _ ha
    refine ⟨⟨p1, (c _ _ (by decide)).trans p2, fun j hj => (c _ _ (by decide)).trans (p3 j hj)⟩, (c _ _ (by decide)).trans p4, fun g hg => ?_⟩
    obtain ⟨⟨x, y⟩, z⟩ := p5 g hg
    refine ⟨⟨(c _ _ (by decide)).trans x, (c _ _ (by decide)).trans y⟩, ?_⟩
    unfold GFc at z ⊢
    rw [c 10 g (by decide), c 11 g (by decide), c 12 g (by decide), c 13 g (by decide), c 15 g (by decide)]
    exact z
  refine pt_l6 (I := fun _ _ _ _ _ U => FI d n U) ?_ N _ _ _ _ _ V39 f39
  intro kk ih c1 c2 c3 c4 c5 U hU
  have g133 : ∀ l2 l3 l4 l7 l8 X, FI d n X → Pt (fun q : Int32 × sv_V => FI d n q.2) (B_X11_line_133 N kk l2 l3 l4 l7 l8 X) := fun l2 l3 l4 l7 l8 X hX => by
    unfold B_X11_line_133
    refine pt_bb (mkg_p hX h3 h10 h11 gl2 l8) ?_
    rintro ⟨x3, V1⟩ f1
    refine pt_ite (fun _ => pt_b fun z hz3 => ?_) (fun _ => pt_some f1)
    obtain ⟨x7, V5⟩ := z
    have f5 : FI d n V5 := FI_md f1 (m_X11_isBeyond sv_sub_rf hz3) rfl
    refine pt_ite (fun _ => pt_b fun z hz4 => ?_) (fun _ => pt_some f5)
    obtain ⟨x11, V9⟩ := z
    have f9 : FI d n V9 := FI_md f5 (m_X1_fillIn sv_sub_rf hz4) rfl
    exact pt_let fun x12 _ => pt_let fun x13 _ => ih _ _ _ _ _ _ f9
  unfold B_X11_line_78
  refine pt_ite (fun _ => pt_some hU) (fun _ => pt_g fun _ => pt_b fun z hz3 => ?_)
  obtain ⟨x18, V16⟩ := z
  have f16 : FI d n V16 := FI_md hU (m_X2_findGlyph sv_sub_rf hz3) rfl
  refine pt_ite (fun _ => g133 _ _ _ _ _ _ f16) (fun _ => pt_b fun z hz4 => ?_)
  obtain ⟨x22, V20⟩ := z
  have f20 : FI d n V20 := FI_md f16 (m_X2_kernOf sv_sub_rf hz4) rfl
  refine pt_b fun z hz5 => ?_
  obtain ⟨x25, V23⟩ := z
  exact pt_let fun x26 _ => g133 _ _ _ _ _ _ (FI_md f20 (m_X5_scaled sv_sub_rf hz5) rfl)
end FX
end
section
/-! glyph: what is kept between two calls -/
def LG (V : sv_V) : Prop := (V.1 2 2 = 0 ∧ V.1 146 4 = 0) ∨ ∃ d n, DB d ∧ FT (KL d n) 1 0 ∧ LX d n V ∧ FI d n V
def okr (q : Nat × Option Nat) : Bool := okq q && !(decide (8 ≤ q.1) && decide (q.1 ≤ 15))
theorem okr_q {md : List (Nat × Option Nat)} (c : md.all okr = true) : md.all okq = true := List.all_eq_true.mpr (fun q hq => by
  have z := List.all_eq_true.mp c q hq
  unfold okr at z
  exact (Bool.and_eq_true _ _ ▸ z).1)
theorem okr_h {md : List (Nat × Option Nat)} (c : md.all okr = true) {a i : Nat} (h1 : 8 ≤ a) (h2 : a ≤ 15) : sv_hit md a i = false := by
  cases e : sv_hit md a i with
  | false => rfl
  | true =>
    exfalso
    unfold sv_hit at e
    rw [List.any_eq_true] at e
    obtain ⟨q, hq, e⟩ := e
    have z := List.all_eq_true.mp c q hq
    unfold okr at z
    simp only [Bool.and_eq_true, beq_iff_eq, Bool.not_eq_true', Bool.and_eq_false_iff, decide_eq_false_iff_not] at e z
    omega
theorem FI_c {d : Nat → Int32} {n : Nat} {V W : sv_V} (h : FI d n V) (k : ∀ a i, (2 ≤ a ∧ a ≤ 3) ∨ (8 ≤ a ∧ a ≤ 15) → W.1 a i = V.1 a i) : FI d n W := by
  obtain ⟨⟨a, b, c⟩, e, f⟩ := h
  refine ⟨⟨a, (k _ _ (by omega)).trans b, fun j hj => (k _ _ (by omega)).trans (c j hj)⟩, (k _ _ (by omega)).trans e, fun g hg => ?_⟩
  obtain ⟨⟨x, y⟩, z⟩ := f g hg
  refine ⟨⟨(k _ _ (by omega)).trans x, (k _ _ (by omega)).trans y⟩, ?_⟩
  unfold GFc at z ⊢
  rw [k 10 g (by omega), k 11 g (by omega), k 12 g (by omega), k 13 g (by omega), k 15 g (by omega)]
  exact z
theorem LG_md {md : List (Nat × Option Nat)} {V W : sv_V} (h : LG V) (f : sv_eq md V W) (c : md.all okr = true) : LG W := by
  have k1 : ∀ a i, prt a i → W.1 a i = V.1 a i := fun a i z => (f a i (okq_h (okr_q c) z)).1
  rcases h with ⟨a, b⟩ | ⟨d, n, hd, hf, hx, hi⟩
  · exact Or.inl ⟨(k1 2 2 (Or.inl (by omega))).trans a, (k1 146 4 (Or.inr (Or.inr (Or.inr ⟨rfl, by omega⟩)))).trans b⟩
  · refine Or.inr ⟨d, n, hd, hf, LX_md hx f (okr_q c), FI_c hi (fun a i z => ?_)⟩
    rcases z with z | z
    · exact k1 a i (Or.inl (by omega))
    · exact (f a i (okr_h c z.1 z.2)).1
theorem LG_LE {V : sv_V} (h : LG V) : LE V := by
  rcases h with h | ⟨d, n, hd, hf, hx, -⟩
  · exact Or.inl h
  · exact Or.inr ⟨d, n, hd, hf, hx⟩
theorem LD_LG {V : sv_V} (h : LD V) : LG V := by
  rcases h with h | ⟨a, b, d, n, hd, hf, ⟨c1, c2, c3, c4, c5, c6, c7, c8⟩, hr⟩
  · exact Or.inl h
  · exact Or.inr ⟨d, n, hd, hf, ⟨a, b, ⟨c1, c2, c3, c4, c5, c6, c7⟩, hr⟩, c1.1, c3, c8⟩
def BG (N : Nat) (V : sv_V) : Prop := BI N V ∧ SC V ∧ LG V
theorem BG_K {N : Nat} {V : sv_V} (B : BG N V) : BK N V := ⟨B.1, B.2.1, LG_LE B.2.2⟩
theorem K_BG {N : Nat} {V : sv_V} (B : BK N V) (h : LG V) : BG N V := ⟨B.1, B.2.1, h⟩
theorem o4_load {N : Nat} (hN : 8589934592 ≤ N) {V : sv_V} (B : BG N V) : ∃ x V1 V2, F_X11_load N V = some (x, V1) ∧ F_X12_load N V1 = some (x, V2) ∧ BG N V2 ∧ V1.1 1000 = V.1 1000 := by
  obtain ⟨x, V1, V2, e1, e2, b, s⟩ := o3_load hN (BG_K B)
  exact ⟨x, V1, V2, e1, e2, K_BG b (LD_LG (load_alike (by omega) B.1.1 B.2.1 e1 e2).2), s⟩
/-- a call whose class changes no more than a frame that spares all but what was noted of glyphs -/
theorem LG_mk {md mr : List (Nat × Option Nat)} {V V1 V2 : sv_V} (h : LG V) (f : sv_eq md V V1) (c : md.all okq = true) (g : sv_eq mr V1 V2) (cr' : mr.all okr = true) (k : ∀ d n, FT (KL d n) 1 0 → FI d n V → FI d n V1) : LG V2 := by
  refine LG_md ?_ g cr'
  have k1 : ∀ a i, prt a i → V1.1 a i = V.1 a i := fun a i z => (f a i (okq_h c z)).1
  rcases h with ⟨a, b⟩ | ⟨d, n, hd, hf, hx, hi⟩
  · exact Or.inl ⟨(k1 2 2 (Or.inl (by omega))).trans a, (k1 146 4 (Or.inr (Or.inr (Or.inr ⟨rfl, by omega⟩)))).trans b⟩
  · exact Or.inr ⟨d, n, hd, hf, LX_md hx f c, k d n hf hi⟩
theorem o4_make {N : Nat} (hN : 8589934592 ≤ N) {V : sv_V} (B : BG N V) (a : Int32) : ∃ x y V1 V2, F_X11_make N a V = some (x, V1) ∧ F_X12_make N a V1 = some (y, V2) ∧ BG N V2 ∧ V1.1 1000 = V.1 1000 := by
  obtain ⟨x, y, V1, V2, e1, e2, b, s⟩ := o3_make hN (BG_K B) a
  refine ⟨x, y, V1, V2, e1, e2, K_BG b (LG_mk B.2.2 (m_X11_make sv_sub_rf e1) (by decide +kernel) (m_X12_make sv_sub_rf e2) (by decide +kernel) (fun d n hf hi => ?_)), s⟩
  obtain ⟨-, -, k3, -, -, -, k7, -, -, k10, k11, -⟩ := FT_all hf
  exact mk_p hi k3 k10 k11 k7.2.2.1.2 a _ e1
theorem o4_line {N : Nat} (hN : 8589934592 ≤ N) {V : sv_V} (B : BG N V) (a b : Int32) : ∃ x y V1 V2, F_X11_line N a b V = some (x, V1) ∧ F_X12_line N a b V1 = some (y, V2) ∧ BG N V2 ∧ V1.1 1000 = V.1 1000 := by
  obtain ⟨x, y, V1, V2, e1, e2, z, s⟩ := o3_line hN (BG_K B) a b
  refine ⟨x, y, V1, V2, e1, e2, K_BG z (LG_mk B.2.2 (m_X11_line sv_sub_rf e1) (by decide +kernel) (m_X12_line sv_sub_rf e2) (by decide +kernel) (fun d n hf hi => ?_)), s⟩
  obtain ⟨-, -, k3, -, -, -, k7, -, -, k10, k11, -⟩ := FT_all hf
  exact ln_p hi k3 k10 k11 k7.2.2.1.2 a b _ e1
theorem al_glyph {N : Nat} (hN : 8589934592 ≤ N) {V : sv_V} (B : BG N V) (a b : Int32) : ∃ x V1 V2, F_X11_glyph a b V = some (x, V1) ∧ F_X12_glyph N a b V1 = some (x, V2) ∧ BG N V2 ∧ V1.1 1000 = V.1 1000 := by
  obtain ⟨x, y, V1, V2, e1, e2, z, s⟩ := o3_glyph hN (BG_K B) a b
  have m1 := m_X11_glyph sv_sub_rf e1
  have exy : x = y := by
    rcases B.2.2 with ⟨p, q⟩ | ⟨d, n, hd, hf, hx, hi⟩
    · have q1 : V1.1 146 4 = 0 := (m1 146 4 rfl).1.trans q
      have r1 : x = -3 := by
        unfold F_X11_glyph at e1
        rw [if_pos p] at e1
        cases e1
        rfl
      have r2 : y = -3 := by
        unfold F_X12_glyph at e2
        rw [if_pos q1] at e2
        cases e2
        rfl
      exact r1.trans r2.symm
    · have cf : CF d n V := ⟨hx.2.2.1.1, hx.2.2.1.2.1, hx.2.2.1.2.2.1, hx.2.2.1.2.2.2.1, hx.2.2.1.2.2.2.2.1, hx.2.2.1.2.2.2.2.2.1, hx.2.2.1.2.2.2.2.2.2, hi.2.2⟩
      have hx1 := LX_md hx m1 (by decide +kernel)
      exact glyB_u (gly_c hd hf cf hx.1 a b _ e1) (gly_r hf hx1.2.2.2 hx1.2.1 a b _ e2)
  subst exy
  exact ⟨x, V1, V2, e1, e2, K_BG z (LG_md (LG_md B.2.2 m1 (by decide +kernel)) (m_X12_glyph sv_sub_rf e2) (by decide +kernel)), s⟩
theorem o4_font {N : Nat} (hN : 8589934592 ≤ N) {V : sv_V} (B : BG N V) (a : Int32) : ∃ x y V1 V2, F_X11_font a V = some (x, V1) ∧ F_X12_font a V1 = some (y, V2) ∧ BG N V2 ∧ V1.1 1000 = V.1 1000 := by
  obtain ⟨x, y, V1, V2, e1, e2, z, s⟩ := o3_font hN (BG_K B) a
  exact ⟨x, y, V1, V2, e1, e2, K_BG z (LG_md (LG_md B.2.2 (m_X11_font sv_sub_rf e1) (by decide +kernel)) (m_X12_font sv_sub_rf e2) (by decide +kernel)), s⟩
theorem o4_table {N : Nat} (hN : 8589934592 ≤ N) {V : sv_V} (B : BG N V) (a b : Int32) : ∃ x y V1 V2, F_X11_table a b V = some (x, V1) ∧ F_X12_table a b V1 = some (y, V2) ∧ BG N V2 ∧ V1.1 1000 = V.1 1000 := by
  obtain ⟨x, y, V1, V2, e1, e2, z, s⟩ := o3_table hN (BG_K B) a b
  exact ⟨x, y, V1, V2, e1, e2, K_BG z (LG_md (LG_md B.2.2 (m_X11_table sv_sub_rf e1) (by decide +kernel)) (m_X12_table sv_sub_rf e2) (by decide +kernel)), s⟩
theorem o4_glyphOf {N : Nat} (hN : 8589934592 ≤ N) {V : sv_V} (B : BG N V) (a : Int32) : ∃ x y V1 V2, F_X11_glyphOf N a V = some (x, V1) ∧ F_X12_glyphOf N a V1 = some (y, V2) ∧ BG N V2 ∧ V1.1 1000 = V.1 1000 := by
  obtain ⟨x, y, V1, V2, e1, e2, z, s⟩ := o3_glyphOf hN (BG_K B) a
  exact ⟨x, y, V1, V2, e1, e2, K_BG z (LG_md (LG_md B.2.2 (m_X11_glyphOf sv_sub_rf e1) (by decide +kernel)) (m_X12_glyphOf sv_sub_rf e2) (by decide +kernel)), s⟩
theorem o4_kern {N : Nat} (hN : 8589934592 ≤ N) {V : sv_V} (B : BG N V) (a b : Int32) : ∃ x y V1 V2, F_X11_kern N a b V = some (x, V1) ∧ F_X12_kern N a b V1 = some (y, V2) ∧ BG N V2 ∧ V1.1 1000 = V.1 1000 := by
  obtain ⟨x, y, V1, V2, e1, e2, z, s⟩ := o3_kern hN (BG_K B) a b
  exact ⟨x, y, V1, V2, e1, e2, K_BG z (LG_md (LG_md B.2.2 (m_X11_kern sv_sub_rf e1) (by decide +kernel)) (m_X12_kern sv_sub_rf e2) (by decide +kernel)), s⟩
theorem o4_size {N : Nat} (hN : 8589934592 ≤ N) {V : sv_V} (B : BG N V) (a : Int32) : ∃ x y V1 V2, F_X11_size N a V = some (x, V1) ∧ F_X12_size N a V1 = some (y, V2) ∧ BG N V2 ∧ V1.1 1000 = V.1 1000 := by
  obtain ⟨x, y, V1, V2, e1, e2, z, s⟩ := o3_size hN (BG_K B) a
  exact ⟨x, y, V1, V2, e1, e2, K_BG z (LG_md (LG_md B.2.2 (m_X11_size sv_sub_rf e1) (by decide +kernel)) (m_X12_size sv_sub_rf e2) (by decide +kernel)), s⟩
theorem o4_point {N : Nat} (hN : 8589934592 ≤ N) {V : sv_V} (B : BG N V) (a b : Int32) : ∃ x y V1 V2, F_X11_point N a b V = some (x, V1) ∧ F_X12_point N a b V1 = some (y, V2) ∧ BG N V2 ∧ V1.1 1000 = V.1 1000 := by
  obtain ⟨x, y, V1, V2, e1, e2, z, s⟩ := o3_point hN (BG_K B) a b
  exact ⟨x, y, V1, V2, e1, e2, K_BG z (LG_md (LG_md B.2.2 (m_X11_point sv_sub_rf e1) (by decide +kernel)) (m_X12_point sv_sub_rf e2) (by decide +kernel)), s⟩
theorem o4_told {N : Nat} (hN : 8589934592 ≤ N) {V : sv_V} (B : BG N V) (a : Int32) : ∃ x y V1 V2, F_X11_told a V = some (x, V1) ∧ F_X12_told a V1 = some (y, V2) ∧ BG N V2 ∧ V1.1 1000 = V.1 1000 := by
  obtain ⟨x, y, V1, V2, e1, e2, z, s⟩ := o3_told hN (BG_K B) a
  exact ⟨x, y, V1, V2, e1, e2, K_BG z (LG_md (LG_md B.2.2 (m_X11_told sv_sub_rf e1) (by decide +kernel)) (m_X12_told sv_sub_rf e2) (by decide +kernel)), s⟩
theorem o4_held {N : Nat} (hN : 8589934592 ≤ N) {V : sv_V} (B : BG N V) (a b : Int32) : ∃ x y V1 V2, F_X11_held a b V = some (x, V1) ∧ F_X12_held a b V1 = some (y, V2) ∧ BG N V2 ∧ V1.1 1000 = V.1 1000 := by
  obtain ⟨x, y, V1, V2, e1, e2, z, s⟩ := o3_held hN (BG_K B) a b
  exact ⟨x, y, V1, V2, e1, e2, K_BG z (LG_md (LG_md B.2.2 (m_X11_held sv_sub_rf e1) (by decide +kernel)) (m_X12_held sv_sub_rf e2) (by decide +kernel)), s⟩
theorem o4_isIn {N : Nat} (hN : 8589934592 ≤ N) {V : sv_V} (B : BG N V) (a b : Int32) : ∃ x y V1 V2, F_X11_isIn N a b V = some (x, V1) ∧ F_X12_isIn N a b V1 = some (y, V2) ∧ BG N V2 ∧ V1.1 1000 = V.1 1000 := by
  obtain ⟨x, y, V1, V2, e1, e2, z, s⟩ := o3_isIn hN (BG_K B) a b
  exact ⟨x, y, V1, V2, e1, e2, K_BG z (LG_md (LG_md B.2.2 (m_X11_isIn sv_sub_rf e1) (by decide +kernel)) (m_X12_isIn sv_sub_rf e2) (by decide +kernel)), s⟩
theorem o4_canvas {N : Nat} (hN : 8589934592 ≤ N) {V : sv_V} (B : BG N V) (a b : Int32) : ∃ x y V1 V2, F_X11_canvas N a b V = some (x, V1) ∧ F_X12_canvas N a b V1 = some (y, V2) ∧ BG N V2 ∧ V1.1 1000 = V.1 1000 := by
  obtain ⟨x, y, V1, V2, e1, e2, z, s⟩ := o3_canvas hN (BG_K B) a b
  exact ⟨x, y, V1, V2, e1, e2, K_BG z (LG_md (LG_md B.2.2 (m_X11_canvas sv_sub_rf e1) (by decide +kernel)) (m_X12_canvas sv_sub_rf e2) (by decide +kernel)), s⟩
theorem o4_draw {N : Nat} (hN : 8589934592 ≤ N) {V : sv_V} (B : BG N V) (a b : Int32) : ∃ x y V1 V2, F_X11_draw N a b V = some (x, V1) ∧ F_X12_draw N a b V1 = some (y, V2) ∧ BG N V2 ∧ V1.1 1000 = V.1 1000 := by
  obtain ⟨x, y, V1, V2, e1, e2, z, s⟩ := o3_draw hN (BG_K B) a b
  exact ⟨x, y, V1, V2, e1, e2, K_BG z (LG_md (LG_md B.2.2 (m_X11_draw sv_sub_rf e1) (by decide +kernel)) (m_X12_draw sv_sub_rf e2) (by decide +kernel)), s⟩
theorem o4_pixel {N : Nat} (hN : 8589934592 ≤ N) {V : sv_V} (B : BG N V) (a b : Int32) : ∃ x y V1 V2, F_X11_pixel a b V = some (x, V1) ∧ F_X12_pixel a b V1 = some (y, V2) ∧ BG N V2 ∧ V1.1 1000 = V.1 1000 := by
  obtain ⟨x, y, V1, V2, e1, e2, z, s⟩ := o3_pixel hN (BG_K B) a b
  exact ⟨x, y, V1, V2, e1, e2, K_BG z (LG_md (LG_md B.2.2 (m_X11_pixel sv_sub_rf e1) (by decide +kernel)) (m_X12_pixel sv_sub_rf e2) (by decide +kernel)), s⟩
theorem o4_type {N : Nat} (hN : 8589934592 ≤ N) {V : sv_V} (B : BG N V) (a : Int32) : ∃ x y V1 V2, F_X11_type a V = some (x, V1) ∧ F_X12_type a V1 = some (y, V2) ∧ BG N V2 ∧ V1.1 1000 = V.1 1000 := by
  obtain ⟨x, y, V1, V2, e1, e2, z, s⟩ := o3_type hN (BG_K B) a
  exact ⟨x, y, V1, V2, e1, e2, K_BG z (LG_md (LG_md B.2.2 (m_X11_type sv_sub_rf e1) (by decide +kernel)) (m_X12_type sv_sub_rf e2) (by decide +kernel)), s⟩
theorem o4_feed {N : Nat} (hN : 8589934592 ≤ N) {V : sv_V} (B : BG N V) (a : Int32) (b : Int64) : ∃ x y V1 V2, F_X11_feed N a b V = some (x, V1) ∧ F_X12_feed N a b V1 = some (y, V2) ∧ BG N V2 ∧ V1.1 1000 = V.1 1000 := by
  obtain ⟨x, y, V1, V2, e1, e2, z, s⟩ := o3_feed hN (BG_K B) a b
  exact ⟨x, y, V1, V2, e1, e2, K_BG z (LG_md (LG_md B.2.2 (m_X11_feed sv_sub_rf e1) (by decide +kernel)) (m_X12_feed sv_sub_rf e2) (by decide +kernel)), s⟩
theorem o4_wipe {N : Nat} {V : sv_V} (B : BG N V)  : ∃ x y V1 V2, F_X11_wipe  V = some (x, V1) ∧ F_X12_wipe  V1 = some (y, V2) ∧ BG N V2 ∧ V1.1 1000 = V.1 1000 := by
  obtain ⟨x, y, V1, V2, e1, e2, z, s⟩ := o3_wipe (BG_K B) 
  exact ⟨x, y, V1, V2, e1, e2, K_BG z (LG_md (LG_md B.2.2 (m_X11_wipe sv_sub_rf e1) (by decide +kernel)) (m_X12_wipe sv_sub_rf e2) (by decide +kernel)), s⟩
end
