section
/-! glyphOf: the class and the reference alike -/
def gF (d : Nat → Int32) (n at' c f k : Nat) : Nat := match f with
  | 0 => 0
  | f + 1 => if g4 d n (at' + 16 + 12 * k) ≤ c ∧ c ≤ g4 d n (at' + 20 + 12 * k) then g4 d n (at' + 24 + 12 * k) + c - g4 d n (at' + 16 + 12 * k) else gF d n at' c f (k + 1)
def sF (d : Nat → Int32) (n at' c f k : Nat) : Option Nat := match f with
  | 0 => none
  | f + 1 => if c ≤ g2 d n (at' + 14 + 2 * k) then some k else sF d n at' c f (k + 1)
def spl (d : Nat → Int32) (n at' s c k : Nat) : Nat := 16 + 6 * s + 2 * k + g2 d n (at' + 16 + 6 * s + 2 * k) + 2 * (c - g2 d n (at' + 16 + 2 * s + 2 * k))
def svF (d : Nat → Int32) (n at' len s c k : Nat) : Nat := if c < g2 d n (at' + 16 + 2 * s + 2 * k) then 0 else if g2 d n (at' + 16 + 6 * s + 2 * k) = 0 then (c + g2 d n (at' + 16 + 4 * s + 2 * k)) % 65536 else if len < spl d n at' s c k + 2 then 0 else if g2 d n (at' + spl d n at' s c k) = 0 then 0 else (g2 d n (at' + spl d n at' s c k) + g2 d n (at' + 16 + 4 * s + 2 * k)) % 65536
def mpv (d : Nat → Int32) (n fo at' len cnt c : Nat) : Nat := if fo = 12 then gF d n at' c cnt 0 else if fo = 4 then (match sF d n at' c cnt 0 with
  | some k => svF d n at' len cnt c k
  | none => 0) else if c < 256 then g1 d n (at' + 6 + c) else 0
def glA (d : Nat → Int32) (n m : Nat) : Int32 := if m < glO d n then nI m else 0
section GO
variable {d : Nat → Int32} {n N : Nat} {V : sv_V} {fo at' len cnt c : Nat}
theorem MPF_b (h3 : K3 d n) (h : MPF d n fo at' len cnt) : (fo = 12 ∧ at' + 16 + 12 * cnt ≤ n ∧ cnt ≤ 40) ∨ (fo = 4 ∧ (1 ≤ cnt ∧ cnt ≤ 40) ∧ at' + 16 + 8 * cnt ≤ n ∧ len = g2 d n (at' + 2) ∧ at' + len ≤ n ∧ g2 d n (at' + 12 + 2 * cnt) = 65535 ∧ 16 + 8 * cnt ≤ len) ∨ (fo = 0 ∧ at' + 262 ≤ n) := by
  have bl : cB d n + cL d n ≤ n := bO_le (t := 1668112752) h3
  rcases h with ⟨o, -, ⟨z1, z2, z3, z4, z5, -⟩, rfl, rfl, rfl, rfl⟩ | ⟨-, o, -, ⟨z1, z2, z3, z4, z5, z6, z7⟩, rfl, rfl, rfl, rfl⟩ | ⟨-, -, o, -, ⟨z1, -⟩, rfl, rfl, rfl, rfl⟩
  · exact Or.inl ⟨rfl, by omega, by omega⟩
  · exact Or.inr (Or.inl ⟨rfl, z4, by omega, rfl, by omega, z7, z5⟩)
  · exact Or.inr (Or.inr ⟨rfl, by omega⟩)
theorem gF_lt : ∀ f k, c < 2000000 → gF d n at' c f k < 4300000000 := by
  intro f
  induction f with
  | zero => intro k _; exact (show (0 : Nat) < 4300000000 by decide)
  | succ f ih =>
    intro k hc
    unfold gF
    split
    · have := g4_lt (d := d) (n := n) (P := at' + 24 + 12 * k)
      omega
    · exact ih _ hc
theorem grp_c (hc : c < 2000000) (f : FC d n V) (hb : at' + 16 + 12 * cnt ≤ n) (h40 : cnt ≤ 40) (c12 : V.1 2 12 = nI at') (c14 : V.1 2 14 = nI cnt) : Pt (fun q : Int64 × sv_V => q.1 = lN (gF d n at' c cnt 0) ∧ q.2 = V) (F_X2_findInGroups N (nI c) V) := by
  have hn := f.1
  unfold F_X2_findInGroups
  refine pt_l3 (I := fun a1 a2 W => W = V ∧ a1 = nI c ∧ ∃ k, a2 = nI k ∧ k ≤ cnt ∧ gF d n at' c (cnt - k) k = gF d n at' c cnt 0) ?_ N _ _ V ⟨rfl, rfl, 0, rfl, Nat.zero_le _, rfl⟩
  rintro kk ih a1 a2 W ⟨rfl, rfl, k, rfl, kl, hk⟩
  unfold B_X2_findInGroups_2
  rw [c14, c12]
  refine pt_ite (fun q => ?_) (fun q => ?_)
  · have e : k = cnt := by
      have := (nI_leI (by omega) (by omega)).mp q
      omega
    rw [e, Nat.sub_self] at hk
    exact pt_some ⟨by rw [← hk]; rfl, rfl⟩
  have hkc : k < cnt := nI_nle2 q (by omega)
  obtain ⟨m, hm⟩ : ∃ m, cnt - k = m + 1 := ⟨cnt - k - 1, by omega⟩
  rw [hm, show gF d n at' c (m + 1) k = (if g4 d n (at' + 16 + 12 * k) ≤ c ∧ c ≤ g4 d n (at' + 20 + 12 * k) then g4 d n (at' + 24 + 12 * k) + c - g4 d n (at' + 16 + 12 * k) else gF d n at' c m (k + 1)) from rfl] at hk
  have b1 := g4_lt (d := d) (n := n) (P := at' + 16 + 12 * k)
  have b2 := g4_lt (d := d) (n := n) (P := at' + 20 + 12 * k)
  have b3 := g4_lt (d := d) (n := n) (P := at' + 24 + 12 * k)
  refine pt_let fun x3 e3 => ?_
  rw [show nI at' + (16 : Int32) = nI (at' + 16) from nI_add _ 16, show (12 : Int32) * nI k = nI (12 * k) from pk_mul 12 _, nI_add] at e3
  subst e3
  have g66 : ¬ (g4 d n (at' + 16 + 12 * k) ≤ c ∧ c ≤ g4 d n (at' + 20 + 12 * k)) → Pt (fun q : Int64 × sv_V => q.1 = lN (gF d n at' c cnt 0) ∧ q.2 = W) (B_X2_findInGroups_66 N kk (nI c) (nI k) W) := fun z => by
    unfold B_X2_findInGroups_66
    rw [if_neg z] at hk
    exact pt_let fun x1 hx => ih _ _ _ ⟨rfl, rfl, k + 1, by rw [hx, nI_1], hkc, by rw [show cnt - (k + 1) = m by omega]; exact hk⟩
  rw [u4_c f (by omega), Option.bind_some, c4_g (by omega), nI_l (by omega)]
  dsimp only
  refine pt_ite (fun q1 => g66 (fun z => ?_)) (fun q1 => ?_)
  · have := (pk_lLT (by omega) (by omega)).mp (lgc_gt.mp q1)
    omega
  rw [lgc_gt, pk_lLT (by omega) (by omega)] at q1
  rw [show nI (at' + 16 + 12 * k) + (4 : Int32) = nI (at' + 20 + 12 * k) by rw [show at' + 20 + 12 * k = at' + 16 + 12 * k + 4 by omega]; exact nI_add _ 4, u4_c f (by omega), Option.bind_some, c4_g (by omega)]
  dsimp only
  refine pt_ite (fun q2 => g66 (fun z => ?_)) (fun q2 => ?_)
  · have := (pk_lLT (by omega) (by omega)).mp (lgc_gt.mp q2)
    omega
  rw [lgc_gt, pk_lLT (by omega) (by omega)] at q2
  rw [if_pos (by omega)] at hk
  rw [show nI (at' + 16 + 12 * k) + (8 : Int32) = nI (at' + 24 + 12 * k) by rw [show at' + 24 + 12 * k = at' + 16 + 12 * k + 8 by omega]; exact nI_add _ 8, u4_c f (by omega), Option.bind_some, c4_g (by omega)]
  dsimp only
  rw [lN_add, lN_sub (by omega), hk]
  exact pt_some ⟨rfl, rfl⟩
theorem grp_r (hc : c < 2000000) (f : FR d n V) (hb : at' + 16 + 12 * cnt ≤ n) (h40 : cnt ≤ 40) (r21 : V.1 146 21 = nI at') : Pt (fun q : Int64 × sv_V => q.1 = lN (gF d n at' c cnt 0) ∧ q.2 = V) (sx_lp4 (B_X12_mapped_49 N) N (nI c) (nI cnt) 0 V) := by
  have hn := f.1
  refine pt_l4 (I := fun a1 a2 a3 W => W = V ∧ a1 = nI c ∧ a2 = nI cnt ∧ ∃ k, a3 = nI k ∧ k ≤ cnt ∧ gF d n at' c (cnt - k) k = gF d n at' c cnt 0) ?_ N _ _ _ V ⟨rfl, rfl, rfl, 0, rfl, Nat.zero_le _, rfl⟩
  rintro kk ih a1 a2 a3 W ⟨rfl, rfl, rfl, k, rfl, kl, hk⟩
  unfold B_X12_mapped_49
  rw [r21]
  refine pt_ite (fun q => ?_) (fun q => ?_)
  · have e : k = cnt := by
      have := (nI_leI (by omega) (by omega)).mp q
      omega
    rw [e, Nat.sub_self] at hk
    exact pt_some ⟨by rw [← hk]; rfl, rfl⟩
  have hkc : k < cnt := nI_nle2 q (by omega)
  obtain ⟨m, hm⟩ : ∃ m, cnt - k = m + 1 := ⟨cnt - k - 1, by omega⟩
  rw [hm, show gF d n at' c (m + 1) k = (if g4 d n (at' + 16 + 12 * k) ≤ c ∧ c ≤ g4 d n (at' + 20 + 12 * k) then g4 d n (at' + 24 + 12 * k) + c - g4 d n (at' + 16 + 12 * k) else gF d n at' c m (k + 1)) from rfl] at hk
  have b1 := g4_lt (d := d) (n := n) (P := at' + 16 + 12 * k)
  have b2 := g4_lt (d := d) (n := n) (P := at' + 20 + 12 * k)
  have b3 := g4_lt (d := d) (n := n) (P := at' + 24 + 12 * k)
  refine pt_let fun x3 e3 => ?_
  rw [show nI at' + (16 : Int32) = nI (at' + 16) from nI_add _ 16, show (12 : Int32) * nI k = nI (12 * k) from pk_mul 12 _, nI_add] at e3
  subst e3
  have g114 : ¬ (g4 d n (at' + 16 + 12 * k) ≤ c ∧ c ≤ g4 d n (at' + 20 + 12 * k)) → Pt (fun q : Int64 × sv_V => q.1 = lN (gF d n at' c cnt 0) ∧ q.2 = W) (B_X12_mapped_114 N kk (nI c) (nI cnt) (nI k) W) := fun z => by
    unfold B_X12_mapped_114
    rw [if_neg z] at hk
    exact pt_let fun x1 hx => ih _ _ _ _ ⟨rfl, rfl, rfl, k + 1, by rw [hx, nI_1], hkc, by rw [show cnt - (k + 1) = m by omega]; exact hk⟩
  rw [u4_r f (by omega), Option.bind_some, nI_l (by omega)]
  dsimp only
  refine pt_ite (fun q1 => g114 (fun z => ?_)) (fun q1 => ?_)
  · have := (pk_lLT (by omega) (by omega)).mp (lgc_lt.mp q1)
    omega
  rw [lgc_lt, pk_lLT (by omega) (by omega)] at q1
  rw [show nI (at' + 16 + 12 * k) + (4 : Int32) = nI (at' + 20 + 12 * k) by rw [show at' + 20 + 12 * k = at' + 16 + 12 * k + 4 by omega]; exact nI_add _ 4, u4_r f (by omega), Option.bind_some]
  dsimp only
  refine pt_ite (fun q2 => g114 (fun z => ?_)) (fun q2 => ?_)
  · have := (pk_lLT (by omega) (by omega)).mp (lgc_gt.mp q2)
    omega
  rw [lgc_gt, pk_lLT (by omega) (by omega)] at q2
  rw [if_pos (by omega)] at hk
  rw [show nI (at' + 16 + 12 * k) + (8 : Int32) = nI (at' + 24 + 12 * k) by rw [show at' + 24 + 12 * k = at' + 16 + 12 * k + 8 by omega]; exact nI_add _ 8, u4_r f (by omega), Option.bind_some]
  dsimp only
  rw [u4_r f (by omega), Option.bind_some]
  dsimp only
  rw [lN_add, lN_sub (by omega), hk]
  exact pt_some ⟨rfl, rfl⟩
theorem and64 {m : Nat} (h : m < 2 ^ 32) : nI m &&& (65535 : Int32) = nI (m % 65536) := pk_andN h 16 rfl
theorem svF_lt {k : Nat} : svF d n at' len cnt c k < 65536 := by
  unfold svF
  split
  · decide
  · split
    · exact Nat.mod_lt _ (by decide)
    · split
      · decide
      · split
        · decide
        · exact Nat.mod_lt _ (by decide)
theorem sg1_c {k : Nat} (hc : c < 2000000) (f : FC d n V) (hk : k < cnt) (h40 : cnt ≤ 40) (hb : at' + 16 + 8 * cnt ≤ n) (hl : at' + len ≤ n) (c12 : V.1 2 12 = nI at') (c13 : V.1 2 13 = nI len) (c14 : V.1 2 14 = nI cnt) : Pt (fun q : Int32 × sv_V => q.1 = nI (svF d n at' len cnt c k) ∧ q.2 = V) (F_X2_findInSegment (nI k) (nI c) V) := by
  have hn := f.1
  have b1 := g2_lt (d := d) (n := n) (P := at' + 16 + 2 * cnt + 2 * k)
  have b2 := g2_lt (d := d) (n := n) (P := at' + 16 + 4 * cnt + 2 * k)
  have b3 := g2_lt (d := d) (n := n) (P := at' + 16 + 6 * cnt + 2 * k)
  unfold F_X2_findInSegment
  rw [c12, c14]
  refine pt_let fun x1 e1 => ?_
  rw [show nI at' + (16 : Int32) = nI (at' + 16) from nI_add _ 16, show (2 : Int32) * nI cnt = nI (2 * cnt) from pk_mul 2 _, nI_add, show (2 : Int32) * nI k = nI (2 * k) from pk_mul 2 _, nI_add] at e1
  subst e1
  rw [u2_c f (by omega), Option.bind_some, c2_g (by omega)]
  dsimp only
  rw [c14, show (2 : Int32) * nI cnt = nI (2 * cnt) from pk_mul 2 _, nI_add, show at' + 16 + 2 * cnt + 2 * k + 2 * cnt = at' + 16 + 4 * cnt + 2 * k by omega, u2_c f (by omega), Option.bind_some, c2_g (by omega)]
  dsimp only
  rw [c14, show (4 : Int32) * nI cnt = nI (4 * cnt) from pk_mul 4 _, nI_add, show at' + 16 + 2 * cnt + 2 * k + 4 * cnt = at' + 16 + 6 * cnt + 2 * k by omega]
  refine pt_let fun x8 e8 => ?_
  subst e8
  rw [u2_c f (by omega), Option.bind_some, c2_g (by omega)]
  dsimp only
  unfold svF
  refine pt_ite (fun q => ?_) (fun q => ?_)
  rotate_left
  · have q' : c < g2 d n (at' + 16 + 2 * cnt + 2 * k) := nI_nle2 q (by omega)
    rw [if_pos q']
    exact pt_some ⟨rfl, rfl⟩
  have q' := (nI_leI (by omega) (by omega)).mp q
  rw [if_neg (show ¬ c < g2 d n (at' + 16 + 2 * cnt + 2 * k) by omega)]
  refine pt_ite (fun q1 => ?_) (fun q1 => ?_)
  · have q1' := (nI_eq (b := 0) (by omega) (by decide)).mp q1
    rw [if_pos q1', nI_add, and64 (by omega)]
    exact pt_some ⟨rfl, rfl⟩
  have q1' : ¬ g2 d n (at' + 16 + 6 * cnt + 2 * k) = 0 := fun z => q1 (by rw [z]; rfl)
  rw [if_neg q1', nI_add, pk_sub q', show (2 : Int32) * nI (c - g2 d n (at' + 16 + 2 * cnt + 2 * k)) = nI (2 * (c - g2 d n (at' + 16 + 2 * cnt + 2 * k))) from pk_mul 2 _, nI_add, show at' + 16 + 6 * cnt + 2 * k + g2 d n (at' + 16 + 6 * cnt + 2 * k) + 2 * (c - g2 d n (at' + 16 + 2 * cnt + 2 * k)) = at' + spl d n at' cnt c k by unfold spl; omega]
  have sb : spl d n at' cnt c k < 5000000 := by
    unfold spl
    omega
  have lb : len ≤ n := by omega
  generalize hS : spl d n at' cnt c k = s at *
  refine pt_let fun x14 e14 => ?_
  subst e14
  rw [c12, c13, nI_add, show nI (at' + s) + (2 : Int32) = nI (at' + s + 2) from nI_add _ 2]
  refine pt_ite (fun q2 => ?_) (fun q2 => ?_)
  · have q2' := (nI_ltI (by omega) (by omega)).mp q2
    rw [if_pos (by omega)]
    exact pt_some ⟨rfl, rfl⟩
  have q2' := nI_nlt2 q2 (by omega)
  rw [if_neg (by omega), u2_c f (by omega), Option.bind_some, c2_g (by omega)]
  have b4 := g2_lt (d := d) (n := n) (P := at' + s)
  dsimp only
  refine pt_ite (fun q3 => ?_) (fun q3 => ?_)
  · rw [if_pos ((nI_eq (b := 0) (by omega) (by decide)).mp q3)]
    exact pt_some ⟨rfl, rfl⟩
  · rw [if_neg (show ¬ g2 d n (at' + s) = 0 from fun z => q3 (by rw [z]; rfl)), u2_c f (by omega), Option.bind_some, c2_g (by omega)]
    dsimp only
    rw [nI_add, and64 (by omega)]
    exact pt_some ⟨rfl, rfl⟩
theorem seg_c (hc : c < 2000000) (f : FC d n V) (h40 : cnt ≤ 40) (hb : at' + 16 + 8 * cnt ≤ n) (hl : at' + len ≤ n) (c12 : V.1 2 12 = nI at') (c13 : V.1 2 13 = nI len) (c14 : V.1 2 14 = nI cnt) : Pt (fun q : Int32 × sv_V => (q.1 = nI (match sF d n at' c cnt 0 with
    | some k => svF d n at' len cnt c k
    | none => 0)) ∧ q.2 = V) (F_X2_findInSegments N (nI c) V) := by
  have hn := f.1
  unfold F_X2_findInSegments
  refine pt_l3 (I := fun a1 a2 W => W = V ∧ a1 = nI c ∧ ∃ k, a2 = nI k ∧ k ≤ cnt ∧ sF d n at' c (cnt - k) k = sF d n at' c cnt 0) ?_ N _ _ V ⟨rfl, rfl, 0, rfl, Nat.zero_le _, rfl⟩
  rintro kk ih a1 a2 W ⟨rfl, rfl, k, rfl, kl, hk⟩
  unfold B_X2_findInSegments_2
  rw [c14, c12]
  refine pt_ite (fun q => ?_) (fun q => ?_)
  · have e : k = cnt := by
      have := (nI_leI (by omega) (by omega)).mp q
      omega
    rw [e, Nat.sub_self] at hk
    refine pt_some ⟨?_, rfl⟩
    rw [← hk]
    rfl
  have hkc : k < cnt := nI_nle2 q (by omega)
  obtain ⟨m, hm⟩ : ∃ m, cnt - k = m + 1 := ⟨cnt - k - 1, by omega⟩
  rw [hm, show sF d n at' c (m + 1) k = (if c ≤ g2 d n (at' + 14 + 2 * k) then some k else sF d n at' c m (k + 1)) from rfl] at hk
  have b1 := g2_lt (d := d) (n := n) (P := at' + 14 + 2 * k)
  rw [show nI at' + (14 : Int32) = nI (at' + 14) from nI_add _ 14, show (2 : Int32) * nI k = nI (2 * k) from pk_mul 2 _, nI_add, u2_c f (by omega), Option.bind_some, c2_g (by omega)]
  dsimp only
  refine pt_ite (fun q1 => ?_) (fun q1 => ?_)
  · have q1' := (nI_ltI (by omega) (by omega)).mp q1
    rw [if_neg (by omega)] at hk
    exact pt_let fun x6 hx => ih _ _ _ ⟨rfl, rfl, k + 1, by rw [hx, nI_1], hkc, by rw [show cnt - (k + 1) = m by omega]; exact hk⟩
  · have q1' := nI_nlt2 q1 (by omega)
    rw [if_pos q1'] at hk
    refine pt_bb (sg1_c hc f hkc h40 hb hl c12 c13 c14) ?_
    rintro ⟨x9, V7⟩ ⟨hx, hv⟩
    refine pt_some ⟨?_, hv⟩
    rw [← hk]
    exact hx
theorem seg_r (hc : c ≤ 65535) (f : FR d n V) (h1 : 1 ≤ cnt) (h40 : cnt ≤ 40) (hb : at' + 16 + 8 * cnt ≤ n) (hl : at' + len ≤ n) (el : len = g2 d n (at' + 2)) (he : g2 d n (at' + 12 + 2 * cnt) = 65535) (r21 : V.1 146 21 = nI at') : Pt (fun q : Int64 × sv_V => (q.1 = lN (match sF d n at' c cnt 0 with
    | some k => svF d n at' len cnt c k
    | none => 0)) ∧ q.2 = V) (sx_lp4 (B_X12_mapped_133 N) N (nI c) (nI cnt) 0 V) := by
  have hn := f.1
  refine pt_l4 (I := fun a1 a2 a3 W => W = V ∧ a1 = nI c ∧ a2 = nI cnt ∧ ∃ k, a3 = nI k ∧ k < cnt ∧ sF d n at' c (cnt - k) k = sF d n at' c cnt 0) ?_ N _ _ _ V ⟨rfl, rfl, rfl, 0, rfl, h1, rfl⟩
  rintro kk ih a1 a2 a3 W ⟨rfl, rfl, rfl, k, rfl, hkc, hk⟩
  obtain ⟨m, hm⟩ : ∃ m, cnt - k = m + 1 := ⟨cnt - k - 1, by omega⟩
  rw [hm, show sF d n at' c (m + 1) k = (if c ≤ g2 d n (at' + 14 + 2 * k) then some k else sF d n at' c m (k + 1)) from rfl] at hk
  have b0 := g2_lt (d := d) (n := n) (P := at' + 14 + 2 * k)
  have b1 := g2_lt (d := d) (n := n) (P := at' + 16 + 2 * cnt + 2 * k)
  have b2 := g2_lt (d := d) (n := n) (P := at' + 16 + 4 * cnt + 2 * k)
  have b3 := g2_lt (d := d) (n := n) (P := at' + 16 + 6 * cnt + 2 * k)
  unfold B_X12_mapped_133
  rw [r21, show nI at' + (14 : Int32) = nI (at' + 14) from nI_add _ 14, show (2 : Int32) * nI k = nI (2 * k) from pk_mul 2 _, nI_add, u2_r f (by omega), Option.bind_some]
  dsimp only
  refine pt_ite (fun q1 => ?_) (fun q1 => ?_)
  rotate_left
  · have q1' : g2 d n (at' + 14 + 2 * k) < c := nI_nle2 q1 (by omega)
    rw [if_neg (by omega)] at hk
    have k1 : k + 1 < cnt := by
      rcases Nat.lt_or_ge (k + 1) cnt with y | y
      · exact y
      · have : at' + 12 + 2 * cnt = at' + 14 + 2 * k := by omega
        rw [this] at he
        omega
    exact pt_let fun x6 hx => ih _ _ _ _ ⟨rfl, rfl, rfl, k + 1, by rw [hx, nI_1], k1, by rw [show cnt - (k + 1) = m by omega]; exact hk⟩
  have q1' := (nI_leI (by omega) (by omega)).mp q1
  rw [if_pos q1'] at hk
  rw [← hk]
  show Pt (fun q : Int64 × sv_V => q.1 = lN (svF d n at' len cnt c k) ∧ q.2 = W) _
  rw [r21, show nI at' + (16 : Int32) = nI (at' + 16) from nI_add _ 16, show (2 : Int32) * nI cnt = nI (2 * cnt) from pk_mul 2 _, nI_add, nI_add, u2_r f (by omega), Option.bind_some]
  dsimp only
  unfold svF
  refine pt_ite (fun q => ?_) (fun q => ?_)
  rotate_left
  · have q' : c < g2 d n (at' + 16 + 2 * cnt + 2 * k) := nI_nle2 q (by omega)
    rw [if_pos q']
    exact pt_some ⟨rfl, rfl⟩
  have q' := (nI_leI (by omega) (by omega)).mp q
  rw [if_neg (show ¬ c < g2 d n (at' + 16 + 2 * cnt + 2 * k) by omega)]
  rw [r21, show nI at' + (16 : Int32) = nI (at' + 16) from nI_add _ 16, show (4 : Int32) * nI cnt = nI (4 * cnt) from pk_mul 4 _, nI_add, nI_add, u2_r f (by omega), Option.bind_some]
  dsimp only
  rw [show (6 : Int32) * nI cnt = nI (6 * cnt) from pk_mul 6 _, show (16 : Int32) + nI (6 * cnt) = nI (16 + 6 * cnt) from nI_add 16 _, nI_add]
  refine pt_let fun x30 e30 => ?_
  subst e30
  rw [r21, nI_add, show at' + (16 + 6 * cnt + 2 * k) = at' + 16 + 6 * cnt + 2 * k by omega, u2_r f (by omega), Option.bind_some]
  dsimp only
  refine pt_ite (fun q2 => ?_) (fun q2 => ?_)
  · have q2' := (nI_eq (b := 0) (by omega) (by decide)).mp q2
    rw [if_pos q2', nI_add, and64 (by omega), nI_l (by omega)]
    exact pt_some ⟨rfl, rfl⟩
  have q2' : ¬ g2 d n (at' + 16 + 6 * cnt + 2 * k) = 0 := fun z => q2 (by rw [z]; rfl)
  rw [if_neg q2', nI_add, pk_sub q', show (2 : Int32) * nI (c - g2 d n (at' + 16 + 2 * cnt + 2 * k)) = nI (2 * (c - g2 d n (at' + 16 + 2 * cnt + 2 * k))) from pk_mul 2 _, nI_add, show 16 + 6 * cnt + 2 * k + g2 d n (at' + 16 + 6 * cnt + 2 * k) + 2 * (c - g2 d n (at' + 16 + 2 * cnt + 2 * k)) = spl d n at' cnt c k from rfl]
  have sb : spl d n at' cnt c k < 5000000 := by
    unfold spl
    omega
  generalize hS : spl d n at' cnt c k = s at *
  refine pt_let fun x35 e35 => ?_
  subst e35
  rw [r21, show nI at' + (2 : Int32) = nI (at' + 2) from nI_add _ 2, u2_r f (by omega), Option.bind_some, ← el, show nI s + (2 : Int32) = nI (s + 2) from nI_add _ 2]
  dsimp only
  have g295 : ∀ v, v < 65536 → Pt (fun q : Int64 × sv_V => (q.1 = lN (if v = 0 then 0 else (v + g2 d n (at' + 16 + 4 * cnt + 2 * k)) % 65536)) ∧ q.2 = W) (B_X12_mapped_295 N (nI (g2 d n (at' + 16 + 4 * cnt + 2 * k))) (nI v) W) := fun v hv => by
    unfold B_X12_mapped_295
    refine pt_ite (fun z => ?_) (fun z => ?_)
    · rw [if_pos ((nI_eq (b := 0) (by omega) (by decide)).mp z)]
      exact pt_some ⟨rfl, rfl⟩
    · rw [if_neg (show ¬ v = 0 from fun y => z (by rw [y]; rfl)), nI_add, and64 (by omega), nI_l (by omega)]
      exact pt_some ⟨rfl, rfl⟩
  refine pt_ite (fun q3 => ?_) (fun q3 => ?_)
  · have q3' := (nI_ltI (by omega) (by omega)).mp q3
    rw [if_pos q3']
    exact g295 0 (by decide)
  · have q3' := nI_nlt2 q3 (by omega)
    rw [if_neg (by omega), r21, nI_add, u2_r f (by omega), Option.bind_some]
    exact g295 _ g2_lt
theorem sF_n : ∀ f k, 65535 < c → sF d n at' c f k = none := by
  intro f
  induction f with
  | zero => exact fun _ _ => rfl
  | succ f ih =>
    intro k hc
    unfold sF
    have := g2_lt (d := d) (n := n) (P := at' + 14 + 2 * k)
    rw [if_neg (by omega)]
    exact ih _ hc
theorem mpv_lt (hc : c < 2000000) : mpv d n fo at' len cnt c < 4300000000 := by
  unfold mpv
  split
  · exact gF_lt _ _ hc
  · split
    · split
      · have := svF_lt (d := d) (n := n) (at' := at') (len := len) (cnt := cnt) (c := c) (k := ‹Nat›)
        omega
      · decide
    · split
      · have := g1_lt (d := d) (n := n) (P := at' + 6 + c)
        omega
      · decide
theorem find_cx (hc : c < 2000000) (h : LX d n V) (h3 : K3 d n) (gl2 : glO d n ≤ 200) (hm : MPF d n fo at' len cnt) (c11 : V.1 2 11 = nI fo) (c12 : V.1 2 12 = nI at') (c13 : V.1 2 13 = nI len) (c14 : V.1 2 14 = nI cnt) : Pt (fun q : Int32 × sv_V => q.1 = glA d n (mpv d n fo at' len cnt c)) (F_X2_findGlyph N (nI c) V) := by
  have f := h.2.2.1.1.1
  have hn := f.1
  have g7 := h.2.2.1.2.2.1
  have hb := MPF_b h3 hm
  have g60 : ∀ m, m < 4300000000 → Pt (fun q : Int32 × sv_V => q.1 = glA d n m) (B_X2_findGlyph_60 N (lN m) V) := fun m hm' => by
    unfold B_X2_findGlyph_60 glA
    rw [g7, nI_l (by omega)]
    refine pt_ite (fun z => pt_some ?_) (fun z => pt_some ?_)
    · have := (pk_lLE (by omega) (by omega)).mp (lgc_ge.mp z)
      rw [if_neg (by omega)]
    · rw [lgc_ge, pk_lLE (by omega) (by omega)] at z
      rw [if_pos (by omega), lN_i]
  unfold F_X2_findGlyph
  rw [c11]
  refine pt_ite (fun q => ?_) (fun q => ?_)
  · have e := (nI_eq (b := 12) (by omega) (by decide)).mp q
    have ev : mpv d n fo at' len cnt c = gF d n at' c cnt 0 := if_pos e
    obtain ⟨-, y1, y2⟩ := hb.resolve_right (fun z => by omega)
    refine pt_bb (grp_c hc f y1 y2 c12 c14) ?_
    rintro ⟨x15, V13⟩ ⟨hx, hv⟩
    dsimp only at hx hv ⊢
    rw [hx, hv, ev]
    exact g60 _ (gF_lt _ _ hc)
  have e12 : ¬ fo = 12 := fun z => q (by rw [z]; rfl)
  refine pt_ite (fun q1 => ?_) (fun q1 => ?_)
  · have e := (nI_eq (b := 4) (by omega) (by decide)).mp q1
    have ev : mpv d n fo at' len cnt c = (match sF d n at' c cnt 0 with
      | some k => svF d n at' len cnt c k
      | none => 0) := by
      unfold mpv
      rw [if_neg e12, if_pos e]
    have lt := mpv_lt (d := d) (n := n) (fo := fo) (at' := at') (len := len) (cnt := cnt) hc
    obtain ⟨-, y1, y2, y3, y4, y5, y6⟩ := (hb.resolve_left (fun z => by omega)).resolve_right (fun z => by omega)
    have lt2 : (match sF d n at' c cnt 0 with
      | some k => svF d n at' len cnt c k
      | none => 0) < 65536 := by
      split
      · exact svF_lt
      · decide
    refine pt_bb (seg_c hc f y1.2 y2 y4 c12 c13 c14) ?_
    rintro ⟨x11, V9⟩ ⟨hx, hv⟩
    dsimp only at hx hv ⊢
    rw [hx, hv, ev]
    refine pt_let fun x12 e12' => ?_
    rw [nI_l (by omega)] at e12'
    rw [e12']
    exact g60 _ (by omega)
  have e4 : ¬ fo = 4 := fun z => q1 (by rw [z]; rfl)
  have ev : mpv d n fo at' len cnt c = if c < 256 then g1 d n (at' + 6 + c) else 0 := by
    unfold mpv
    rw [if_neg e12, if_neg e4]
  rw [ev]
  obtain ⟨-, y1⟩ := (hb.resolve_left (fun z => e12 z.1)).resolve_left (fun z => e4 z.1)
  refine pt_ite (fun q2 => ?_) (fun q2 => ?_)
  · have q2' := (nI_leI (a := 256) (by decide) (by omega)).mp q2
    rw [if_neg (by omega)]
    exact g60 0 (by decide)
  · have q2' : c < 256 := nI_nle2 (b := 256) q2 (by omega)
    have b := g1_lt (d := d) (n := n) (P := at' + 6 + c)
    rw [if_pos q2', c12, show nI at' + (6 : Int32) = nI (at' + 6) from nI_add _ 6, nI_add, u1_c f (by omega), Option.bind_some]
    refine pt_let fun x8 e8 => ?_
    rw [nI_l (by omega)] at e8
    rw [e8]
    exact g60 _ (by omega)
theorem find_rx (hc : c < 2000000) (h : LX d n V) (h3 : K3 d n) (gl2 : glO d n ≤ 200) (hm : MPF d n fo at' len cnt) (r22 : V.1 146 22 = nI fo) (r21 : V.1 146 21 = nI at') (r23 : V.1 146 23 = nI cnt) : Pt (fun q : Int32 × sv_V => q.1 = glA d n (mpv d n fo at' len cnt c)) (F_X12_glyphAt N (nI c) V) := by
  have f := h.2.2.2.1.1.1
  have hn := f.1
  have g12 := h.2.2.2.1.2.2
  have hb := MPF_b h3 hm
  have mp : Pt (fun q : Int64 × sv_V => q.1 = lN (mpv d n fo at' len cnt c) ∧ q.2 = V) (F_X12_mapped N (nI c) V) := by
    unfold F_X12_mapped
    rw [r22, r23]
    refine pt_ite (fun q => ?_) (fun q => ?_)
    · have e := (nI_eq (b := 0) (by omega) (by decide)).mp q
      have ev : mpv d n fo at' len cnt c = if c < 256 then g1 d n (at' + 6 + c) else 0 := by
        unfold mpv
        rw [if_neg (by omega), if_neg (by omega)]
      rw [ev]
      refine pt_ite (fun q2 => ?_) (fun q2 => ?_)
      · have q2' := (nI_leI (a := 256) (by decide) (by omega)).mp q2
        rw [if_neg (by omega)]
        exact pt_some ⟨rfl, rfl⟩
      · have q2' : c < 256 := nI_nle2 (b := 256) q2 (by omega)
        have b := g1_lt (d := d) (n := n) (P := at' + 6 + c)
        obtain ⟨-, y1⟩ := (hb.resolve_left (fun z => by omega)).resolve_left (fun z => by omega)
        rw [if_pos q2', r21, show nI at' + (6 : Int32) = nI (at' + 6) from nI_add _ 6, nI_add, u1_r f (by omega), Option.bind_some]
        dsimp only
        rw [nI_l (by omega)]
        exact pt_some ⟨rfl, rfl⟩
    have e0 : ¬ fo = 0 := fun z => q (by rw [z]; rfl)
    refine pt_let fun x45 e45 => ?_
    subst e45
    refine pt_ite (fun q1 => ?_) (fun q1 => ?_)
    · have e := (nI_eq (b := 12) (by omega) (by decide)).mp q1
      have ev : mpv d n fo at' len cnt c = gF d n at' c cnt 0 := if_pos e
      obtain ⟨-, y1, y2⟩ := hb.resolve_right (fun z => by omega)
      rw [ev]
      exact grp_r hc f y1 y2 r21
    have e12 : ¬ fo = 12 := fun z => q1 (by rw [z]; rfl)
    obtain ⟨e4, y1, y2, y3, y4, y5, y6⟩ := (hb.resolve_left (fun z => e12 z.1)).resolve_right (fun z => e0 z.1)
    have ev : mpv d n fo at' len cnt c = (match sF d n at' c cnt 0 with
      | some k => svF d n at' len cnt c k
      | none => 0) := by
      unfold mpv
      rw [if_neg e12, if_pos e4]
    rw [ev]
    refine pt_ite (fun q2 => ?_) (fun q2 => ?_)
    · exact seg_r ((nI_leI (b := 65535) (by omega) (by decide)).mp q2) f y1.1 y1.2 y2 y4 y3 y5 r21
    · have q2' : 65535 < c := nI_nle2 (a := 65535) (b := c) q2 (by decide)
      rw [sF_n _ _ q2']
      exact pt_some ⟨rfl, rfl⟩
  have lt := mpv_lt (d := d) (n := n) (fo := fo) (at' := at') (len := len) (cnt := cnt) hc
  unfold F_X12_glyphAt
  refine pt_bb mp ?_
  rintro ⟨x3, V1⟩ ⟨hx, hv⟩
  dsimp only at hx hv ⊢
  rw [hx, hv, g12, nI_l (by omega)]
  unfold glA
  refine pt_ite (fun z => pt_some ?_) (fun z => pt_some ?_)
  · have := (pk_lLE (by omega) (by omega)).mp (lgc_ge.mp z)
    rw [if_neg (by omega)]
  · rw [lgc_ge, pk_lLE (by omega) (by omega)] at z
    rw [if_pos (by omega), lN_i]
theorem al_glyphOf (hN : 8589934592 ≤ N) (B : BK N V) (a : Int32) : ∃ x V1 V2, F_X11_glyphOf N a V = some (x, V1) ∧ F_X12_glyphOf N a V1 = some (x, V2) ∧ BK N V2 ∧ V1.1 1000 = V.1 1000 := by
  obtain ⟨x, y, V1, V2, e1, e2, z, s⟩ := o3_glyphOf hN B a
  have exy : x = y := two_alike (no := -3) B.2.2 e1 e2 (m_X11_glyphOf sv_sub_rf e1) rfl (fun q => by unfold F_X11_glyphOf; rw [if_pos q]; exact pt_some rfl) (fun q => by unfold F_X12_glyphOf; rw [if_pos q]; exact pt_some rfl) (fun d n hd hf h1 h2 => by
    obtain ⟨fo, at', len, cnt, m, ⟨c11, c12, c13, c14⟩, -⟩ := LX_map h1
    obtain ⟨fo2, at2, len2, cnt2, m2, -, r22, r21, r23⟩ := LX_map h2
    obtain ⟨q1, q2, q3, q4⟩ := MPF_u m m2
    subst q1 q2 q3 q4
    obtain ⟨k1, -, k3, -, -, -, k7, -⟩ := FT_all hf
    refine ⟨if 0 ≤ a ∧ a ≤ 1114111 then glA d n (mpv d n fo at' len cnt a.toNatClampNeg) else -2, ?_, ?_⟩
    · unfold F_X11_glyphOf
      rw [if_neg (show ¬ V.1 2 2 = 0 by rw [h1.1]; decide)]
      refine pt_ite (fun q => pt_some ?_) (fun q => pt_ite (fun q1 => ?_) (fun q1 => pt_some ?_))
      · rw [if_neg (fun z => absurd z.1 (Int32.not_le.mpr q))]
      · rw [if_pos ⟨Int32.not_lt.mp q, q1⟩]
        obtain ⟨c, hc, rfl⟩ := nI_of q
        have c1 := (nI_leI (b := 1114111) hc (by decide)).mp q1
        rw [nI_clamp hc]
        refine pt_bb (find_cx (by omega) h1 k3 k7.2.2.1.2 m c11 c12 c13 c14) ?_
        rintro ⟨x6, V4⟩ hx
        exact pt_some hx
      · rw [if_neg (fun z => q1 z.2)]
    · unfold F_X12_glyphOf
      rw [if_neg (show ¬ V1.1 146 4 = 0 by rw [h2.2.1]; decide), F_in, Option.bind_some]
      dsimp only
      have ei : ((0 : Int64) ≤ a.toInt64 ∧ a.toInt64 ≤ 1114111) ↔ (0 ≤ a ∧ a ≤ 1114111) := ⟨fun h => ⟨(toI64_le (x := 0)).mp h.1, (toI64_le (y := 1114111)).mp h.2⟩, fun h => ⟨(toI64_le (x := 0)).mpr h.1, (toI64_le (y := 1114111)).mpr h.2⟩⟩
      refine pt_ite (fun q => pt_some ?_) (fun q => ?_)
      · rw [if_neg (fun z => (ite_z.mp q) (ei.mpr z))]
      · have q' := ei.mp (nnx (fun z => q (ite_z.mpr z)))
        rw [if_pos q']
        obtain ⟨c, hc, rfl⟩ := nI_of (Int32.not_lt.mpr q'.1)
        have c1 := (nI_leI (b := 1114111) hc (by decide)).mp q'.2
        rw [nI_clamp hc]
        refine pt_bb (find_rx (by omega) h2 k3 k7.2.2.1.2 m r22 r21 r23) ?_
        rintro ⟨x6, V4⟩ hx
        exact pt_some hx)
  subst exy
  exact ⟨x, V1, V2, e1, e2, z, s⟩
end GO
end
