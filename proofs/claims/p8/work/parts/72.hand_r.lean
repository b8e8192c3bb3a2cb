/-! BY HAND: depth, map, maxp, load (the reference) -/
def Pt {A : Type} (P : A → Prop) (o : Option A) : Prop := ∀ a, o = some a → P a
section PT
variable {A B : Type} {P : A → Prop}
theorem pt_some {a : A} (h : P a) : Pt P (some a) := fun b e => by
  cases e
  exact h
theorem pt_ite {c : Prop} [Decidable c] {a b : Option A} (h1 : c → Pt P a) (h2 : ¬ c → Pt P b) : Pt P (if c then a else b) := by
  by_cases h : c
  · rw [if_pos h]
    exact h1 h
  · rw [if_neg h]
    exact h2 h
theorem pt_g {c : Prop} [Decidable c] {a : Option A} (h1 : c → Pt P a) : Pt P (if c then a else none) := pt_ite h1 (fun _ b e => by cases e)
theorem pt_let {e : B} {f : B → Option A} (h : ∀ x, x = e → Pt P (f x)) : Pt P (sx_let e f) := h e rfl
theorem pt_b {o : Option B} {f : B → Option A} (h : ∀ x, o = some x → Pt P (f x)) : Pt P (o.bind f) := fun a e => by
  obtain ⟨x, e1, e2⟩ := sx_bnd e
  exact h x e1 a e2
end PT
theorem Fnt.w1 {G V V2 : sv_V} {a k : Nat} {x : Int32} (h : Fnt G V) (q : V2 = sv_I V a k x) (n : fnt a k = false) : Fnt G V2 := by
  subst q
  refine fun b j hb => ⟨?_, (h b j hb).2⟩
  show (if b = a ∧ j = k then x else V.1 b j) = _
  rw [if_neg]
  · exact (h b j hb).1
  · rintro ⟨rfl, rfl⟩
    rw [n] at hb
    cases hb
theorem fnt_fr {G V W : sv_V} {md : List (Nat × Option Nat)} (h : Fnt G V) (f : sv_eq md V W) (n : md.all (fun q => !(q.1 == 148 || q.1 == 149 || q.1 == 151 || q.1 == 152 || (q.1 == 146 && (q.2 == none || q.2 == some 3 || q.2 == some 5 || q.2 == some 11 || q.2 == some 12)))) = true) : Fnt G W := fun a k hf => by
  have hh : sv_hit md a k = false := by
    cases e : sv_hit md a k with
    | false => rfl
    | true =>
      exfalso
      unfold sv_hit at e
      rw [List.any_eq_true] at e
      obtain ⟨q, hq, e⟩ := e
      have := List.all_eq_true.mp n q hq
      obtain ⟨q1, q2⟩ := q
      simp only [Bool.and_eq_true, Bool.or_eq_true, beq_iff_eq, Bool.not_eq_true', Bool.or_eq_false_iff, Bool.and_eq_false_iff] at this e
      unfold fnt at hf
      simp only [Bool.and_eq_true, Bool.or_eq_true, beq_iff_eq] at hf
      obtain ⟨rfl, e⟩ := e
      simp only [beq_eq_false_iff_ne, ne_eq] at this
      rcases hf with (((rfl | rfl) | rfl) | rfl) | ⟨rfl, hk⟩
      · exact this.1.1.1.1 rfl
      · exact this.1.1.1.2 rfl
      · exact this.1.1.2 rfl
      · exact this.1.2 rfl
      · rcases this.2 with z | z
        · exact z rfl
        · rcases e with e | e
          · exact z.1.1.1.1 e
          · rcases hk with ((rfl | rfl) | rfl) | rfl
            · exact z.1.1.1.2 e
            · exact z.1.1.2 e
            · exact z.1.2 e
            · exact z.2 e
  exact ⟨(f a k hh).1.trans (h a k hf).1, (f a k hh).2.1.trans (h a k hf).2⟩
theorem DP_no {N : Nat} {G : sv_V} {g : Int32} (h : ∀ x, ¬ PTx N G g x) (d : Nat) : DPx N G d g := by
  cases d with
  | zero => exact h
  | succ d => exact fun x hx => absurd hx (h x)
/-- what is known while the levels are counted -/
def AW (N : Nat) (G : sv_V) (m : Int32) (l : Nat) (V : sv_V) : Prop := Fnt G V ∧ V.1 146 19 = m ∧ (l = 0 ∨ ∀ g : Int32, 0 ≤ g.toInt → g.toInt < (G.1 146 12).toInt → ¬ V.1 162 g.toNatClampNeg = 0 → DPx N G (l - 1) g) ∧ SIx T_rM G V
theorem sg_get {A : Type} {P : A → Prop} {o : Option A} {a : A} (h : Sg P o) (e : o = some a) : P a := by
  obtain ⟨b, e2, k⟩ := h
  rw [e] at e2
  cases e2
  exact k
theorem bl_inv {x : Int32} (h : sv_bl x = true) : rg x 0 1 := by
  unfold sv_bl at h
  simp only [Bool.or_eq_true, beq_iff_eq] at h
  rcases h with rfl | rfl <;> exact ⟨by decide, by decide⟩
def AN (N : Nat) (G : sv_V) (l : Nat) (n : Int) (V : sv_V) : Prop := ∀ g : Int32, 0 ≤ g.toInt → g.toInt < n → ¬ V.1 163 g.toNatClampNeg = 0 → DPx N G l g
def AP (N : Nat) (G : sv_V) (m : Int32) (p : Int32 × sv_V) : Prop := p.1 = 0 ∨ ∀ g : Int32, 0 ≤ g.toInt → g.toInt < (G.1 146 12).toInt → ∃ d : Nat, (d : Int) ≤ m.toInt ∧ DPx N G d g
theorem aw_152 {N : Nat} {G V : sv_V} {m : Int32} {l : Nat} (hm : (l : Int) = m.toInt + 1) (m0 : 0 ≤ m.toInt) (g200 : (G.1 146 12).toInt ≤ 200) (h : AW N G m l V) : Pt (AP N G m) (sx_lp2 (B_X12_areWithin_152 N) N 0 V) := by
  have key : ∀ (n : Nat) (i : Int32), 0 ≤ i.toInt → i.toInt ≤ 200 → (∀ g : Int32, 0 ≤ g.toInt → g.toInt < i.toInt → ¬ V.1 162 g.toNatClampNeg = 0) → Pt (AP N G m) (sx_lp2 (B_X12_areWithin_152 N) n i V) := by
    intro n
    induction n with
    | zero => intro i _ _ _ a e; cases e
    | succ n ih =>
      intro i i0 i1 hi
      show Pt (AP N G m) (B_X12_areWithin_152 N (sx_lp2 (B_X12_areWithin_152 N) n) i V)
      unfold B_X12_areWithin_152
      rw [(h.1 146 12 rfl).1]
      refine pt_ite (fun hc => pt_some (Or.inr fun g g0 g1 => ?_)) (fun hc => pt_g fun _ => pt_ite (fun _ => pt_some (Or.inl rfl)) (fun hw => pt_let fun x q => ?_))
      · have hc' := Int32.le_iff_toInt_le.mp hc
        rcases h.2.2.1 with z | z
        · omega
        · exact ⟨l - 1, by omega, z g g0 g1 (hi g g0 (by omega))⟩
      · have hc' := Int32.lt_iff_toInt_lt.mp (Int32.not_le.mp hc)
        have e := ti_1 q (show rg i 0 200 from ⟨i0, i1⟩) (by decide)
        refine ih x (by omega) (by omega) (fun g g0 g1 => ?_)
        by_cases q2 : g.toInt < i.toInt
        · exact hi g g0 q2
        · have : g = i := Int32.toInt_inj.mp (by omega)
          rw [this]
          exact hw
  exact key N 0 (by decide) (by decide) (fun g g0 g1 => absurd g1 (by rw [show (0 : Int32).toInt = 0 from rfl]; omega))
theorem aw_118 {N : Nat} {G V : sv_V} {m l1 : Int32} {l : Nat} (g200 : (G.1 146 12).toInt ≤ 200) {k2 : Int32 → sv_V → Option (Int32 × sv_V)} (hk : ∀ W x, AW N G m (l + 1) W → x = l1 + 1 → Pt (AP N G m) (k2 x W)) (h : AW N G m l V) (hn : AN N G l (G.1 146 12).toInt V) : Pt (AP N G m) (sx_lp3 (B_X12_areWithin_118 N k2) N l1 0 V) := by
  have key : ∀ (n : Nat) (i : Int32) (V : sv_V), 0 ≤ i.toInt → i.toInt ≤ 200 → Fnt G V → V.1 146 19 = m → SIx T_rM G V → AN N G l (G.1 146 12).toInt V → (∀ g : Int32, 0 ≤ g.toInt → g.toInt < i.toInt → V.1 162 g.toNatClampNeg = V.1 163 g.toNatClampNeg) → Pt (AP N G m) (sx_lp3 (B_X12_areWithin_118 N k2) n l1 i V) := by
    intro n
    induction n with
    | zero => intro i V _ _ _ _ _ _ _ a e; cases e
    | succ n ih =>
      intro i V i0 i1 hf h19 S hn hi
      show Pt (AP N G m) (B_X12_areWithin_118 N k2 (sx_lp3 (B_X12_areWithin_118 N k2) n) l1 i V)
      unfold B_X12_areWithin_118
      rw [(hf 146 12 rfl).1]
      refine pt_ite (fun hc => pt_let fun x q => hk V x ⟨hf, h19, Or.inr fun g g0 g1 hw => ?_, S⟩ q) (fun hc => pt_g fun _ => pt_g fun _ => pt_g fun _ => pt_let fun V2 qv => pt_let fun x q => ?_)
      · have hc' := Int32.le_iff_toInt_le.mp hc
        rw [hi g g0 (by omega)] at hw
        exact hn g g0 g1 hw
      · have hc' := Int32.lt_iff_toInt_lt.mp (Int32.not_le.mp hc)
        have e := ti_1 q (show rg i 0 200 from ⟨i0, i1⟩) (by decide)
        have ni := tncn i i0
        have f163 : ∀ j, V2.1 163 j = V.1 163 j := fun j => rd_c qv (by decide)
        refine ih x V2 (by omega) (by omega) (hf.w1 qv rfl) ((rd_c qv (by decide)).trans h19) (by rw [qv]; exact S.wca (l := 0) (h := 1) (fun _ => ⟨⟨rfl, rfl⟩, rfl⟩) (S.rdA (fun _ => rfl))) (fun g g0 g1 hw => hn g g0 g1 (by rw [f163] at hw; exact hw)) (fun g g0 g1 => ?_)
        have ng := tncn g g0
        rw [f163]
        by_cases q2 : g.toNatClampNeg = i.toNatClampNeg
        · rw [q2, rd_s qv]
        · rw [rd_k qv q2]
          exact hi g g0 (by omega)
  exact key N 0 V (by decide) (by decide) h.1 h.2.1 h.2.2.2 hn (fun g g0 g1 => absurd g1 (by rw [show (0 : Int32).toInt = 0 from rfl]; omega))
theorem aw_12 {N : Nat} {G V : sv_V} {m l1 : Int32} {l : Nat} (hl : l1.toInt = (l : Int)) (g200 : (G.1 146 12).toInt ≤ 200) (hN : 8589934592 ≤ N) {k2 : Int32 → sv_V → Option (Int32 × sv_V)} (hk : ∀ W x, AW N G m (l + 1) W → x = l1 + 1 → Pt (AP N G m) (k2 x W)) (h : AW N G m l V) : Pt (AP N G m) (sx_lp3 (B_X12_areWithin_12 N k2) N l1 0 V) := by
  have key : ∀ (n : Nat) (i : Int32) (V : sv_V), 0 ≤ i.toInt → i.toInt ≤ 200 → AW N G m l V → AN N G l i.toInt V → Pt (AP N G m) (sx_lp3 (B_X12_areWithin_12 N k2) n l1 i V) := by
    intro n
    induction n with
    | zero => intro i V _ _ _ _ a e; cases e
    | succ n ih =>
      intro i V i0 i1 h hn
      show Pt (AP N G m) (B_X12_areWithin_12 N k2 (sx_lp3 (B_X12_areWithin_12 N k2) n) l1 i V)
      have e12 := (h.1 146 12 rfl).1
      unfold B_X12_areWithin_12
      rw [e12]
      refine pt_ite (fun hc => ?_) (fun hc => pt_b fun x26 e26 => ?_)
      · have hc' := Int32.le_iff_toInt_le.mp hc
        exact aw_118 g200 hk h (fun g g0 g1 hw => hn g g0 (by omega) hw)
      have hc' := Int32.lt_iff_toInt_lt.mp (Int32.not_le.mp hc)
      obtain ⟨x, V1⟩ := x26
      dsimp only
      have fr := m_X12_isGlyph sv_sub_rf e26
      have f1 : Fnt G V1 := fnt_fr h.1 fr (by decide +kernel)
      have S1 : SIx T_rM G V1 := (sg_get (s_F_X12_isGlyph_M hN h.2.2.2 ⟨i0, by omega⟩) e26).1
      have r30 : rg (V1.1 146 30) 0 8 := S1.rd (by decide +kernel)
      have r158 : ∀ k, rg (V1.1 158 k) 0 65535 := fun k => S1.rdA (fun _ => rfl)
      have h1 : AW N G m l V1 := ⟨f1, (rd_fr fr rfl).trans h.2.1, h.2.2.1.elim Or.inl (fun z => Or.inr fun g g0 g1 hw => z g g0 g1 (by rw [rd_fr fr rfl] at hw; exact hw)), S1⟩
      have hn1 : AN N G l i.toInt V1 := fun g g0 g1 hw => hn g g0 g1 (by rw [rd_fr fr rfl] at hw; exact hw)
      have hpt : (V1.1 146 28 = -1 ∧ ∀ y, PTx N G i y → ∃ j : Nat, (j : Int) < (V1.1 146 30).toInt ∧ V1.1 158 j = y) ∨ (¬ V1.1 146 28 = -1 ∧ ∀ y, ¬ PTx N G i y) := by
        by_cases q : V1.1 146 28 = -1
        · refine Or.inl ⟨q, fun y hy => ?_⟩
          obtain ⟨r, W, V2, F, e, a1, j, a2, a3⟩ := hy
          obtain ⟨b1, b2⟩ := cg_isGlyph h.1 F e26 e
          obtain ⟨b3, b4⟩ := b2 q
          rw [b3] at a2
          exact ⟨j, a2, by rw [← b4 j a2]; exact a3⟩
        · refine Or.inr ⟨q, fun y hy => ?_⟩
          obtain ⟨r, W, V2, F, e, a1, j, a2, a3⟩ := hy
          obtain ⟨b1, b2⟩ := cg_isGlyph h.1 F e26 e
          exact q (b1.symm.trans a1)
      have rng : V1.1 146 28 = -1 → ∀ j : Nat, (j : Int) < (V1.1 146 30).toInt → 0 ≤ (V1.1 158 j).toInt ∧ (V1.1 158 j).toInt < (G.1 146 12).toInt := fun q j hj => ⟨(r158 j).1, by
        have := parts_lt e26 q j hj
        rw [(f1 146 12 rfl).1] at this
        exact this⟩
      have b110 : ∀ W, AW N G m l W → AN N G l i.toInt W → (¬ W.1 163 i.toNatClampNeg = 0 → DPx N G l i) → Pt (AP N G m) (B_X12_areWithin_110 N k2 (sx_lp3 (B_X12_areWithin_12 N k2) n) l1 i W) := fun W hW hnW hi => by
        unfold B_X12_areWithin_110
        refine pt_let fun y q => ?_
        have e := ti_1 q (show rg i 0 200 from ⟨i0, i1⟩) (by decide)
        refine ih y W (by omega) (by omega) hW (fun g g0 g1 hw => ?_)
        by_cases q2 : g.toInt < i.toInt
        · exact hnW g g0 q2 hw
        · have : g = i := Int32.toInt_inj.mp (by omega)
          rw [this] at hw ⊢
          exact hi hw
      have L52 : ∀ (n2 : Nat) (k : Int32) (W : sv_V), 0 ≤ k.toInt → k.toInt ≤ 300 → AW N G m l W → AN N G l i.toInt W → W.1 146 28 = V1.1 146 28 → W.1 146 30 = V1.1 146 30 → (∀ j, W.1 158 j = V1.1 158 j) → (V1.1 146 30).toInt ≤ 300 → (¬ W.1 163 i.toNatClampNeg = 0 → ¬ V1.1 146 28 = -1 ∨ (0 < l ∧ ∀ j : Nat, (j : Int) < k.toInt → (j : Int) < (V1.1 146 30).toInt → DPx N G (l - 1) (V1.1 158 j))) → Pt (AP N G m) (sx_lp4 (B_X12_areWithin_52 N k2 (sx_lp3 (B_X12_areWithin_12 N k2) n)) n2 l1 i k W) := by
        intro n2
        induction n2 with
        | zero => intro k W _ _ _ _ _ _ _ _ _ a e; cases e
        | succ n2 ih2 =>
          intro k W k0 k1 hW hnW w28 w30 w158 b300 cur
          show Pt (AP N G m) (B_X12_areWithin_52 N k2 (sx_lp3 (B_X12_areWithin_12 N k2) n) (sx_lp4 (B_X12_areWithin_52 N k2 (sx_lp3 (B_X12_areWithin_12 N k2) n)) n2) l1 i k W)
          have done : ((V1.1 146 30).toInt ≤ k.toInt ∨ ¬ V1.1 146 28 = -1) → Pt (AP N G m) (B_X12_areWithin_110 N k2 (sx_lp3 (B_X12_areWithin_12 N k2) n) l1 i W) := fun hd => b110 W hW hnW (fun hw => by
            rcases hpt with z | z
            · rcases cur hw with c | c
              · exact absurd z.1 c
              · obtain ⟨l', rfl⟩ : ∃ l', l = l' + 1 := ⟨l - 1, by omega⟩
                intro y hy
                obtain ⟨j, j1, j2⟩ := z.2 y hy
                have := c.2 j (by rcases hd with d | d; omega; exact absurd z.1 d) j1
                rw [j2] at this
                exact this
            · exact DP_no z.2 l)
          have wr : ∀ (s2 : Int32), k.toInt < (V1.1 146 30).toInt → (¬ s2 = 0 → ¬ V1.1 146 28 = -1 ∨ (0 < l ∧ ∀ j : Nat, (j : Int) < k.toInt + 1 → (j : Int) < (V1.1 146 30).toInt → DPx N G (l - 1) (V1.1 158 j))) → Pt (AP N G m) (B_X12_areWithin_103 N k2 (sx_lp3 (B_X12_areWithin_12 N k2) n) (sx_lp4 (B_X12_areWithin_52 N k2 (sx_lp3 (B_X12_areWithin_12 N k2) n)) n2) l1 i k i s2 W) := fun s2 hk1 hs => by
            unfold B_X12_areWithin_103
            refine pt_g fun _ => pt_g fun hbl => pt_let fun W2 qv => pt_let fun y q => ?_
            have e := ti_1 q (show rg k 0 300 from ⟨k0, k1⟩) (by decide)
            refine ih2 y W2 (by omega) (by omega) ⟨hW.1.w1 qv rfl, (rd_c qv (by decide)).trans hW.2.1, hW.2.2.1.elim Or.inl (fun z => Or.inr fun g g0 g1 hw => z g g0 g1 (by rw [rd_c qv (by decide)] at hw; exact hw)), by rw [qv]; exact hW.2.2.2.wca (l := 0) (h := 1) (fun _ => ⟨⟨rfl, rfl⟩, rfl⟩) (bl_inv hbl)⟩ (fun g g0 g1 hw => hnW g g0 g1 (by
              have ng := tncn g g0
              have ni := tncn i i0
              rw [rd_k qv (show g.toNatClampNeg ≠ i.toNatClampNeg by omega)] at hw
              exact hw)) ((rd_c qv (by decide)).trans w28) ((rd_c qv (by decide)).trans w30) (fun j => (rd_c qv (by decide)).trans (w158 j)) b300 (fun hw => ?_)
            rw [rd_s qv] at hw
            rw [e]
            exact hs hw
          unfold B_X12_areWithin_52
          rw [w30, w28]
          refine pt_ite (fun hc => done (Or.inl (Int32.le_iff_toInt_le.mp hc))) (fun hc => pt_ite (fun hm => pt_g fun _ => ?_) (fun hm => done (Or.inr hm)))
          have hc2 := Int32.lt_iff_toInt_lt.mp (Int32.not_le.mp hc)
          refine pt_ite (fun _ => wr 0 hc2 (fun z => absurd rfl z)) (fun hw => pt_g fun _ => ?_)
          rw [w158]
          refine pt_g fun _ => pt_ite (fun _ => wr 0 hc2 (fun z => absurd rfl z)) (fun hin => wr 1 hc2 (fun _ => ?_))
          have nk := tncn k k0
          rcases cur hw with c | c
          · exact absurd hm c
          · refine Or.inr ⟨c.1, fun j j1 j2 => ?_⟩
            by_cases q : (j : Int) < k.toInt
            · exact c.2 j q j2
            · have ej : j = k.toNatClampNeg := by omega
              obtain ⟨p0, p1⟩ := rng hm j j2
              rcases hW.2.2.1 with z | z
              · omega
              · exact z _ p0 p1 (by rw [ej]; exact hin)
      have hb : (V1.1 146 30).toInt ≤ 300 := by have := r30.2; omega
      have st : ∀ s2 : Int32, (V1.1 146 30).toInt ≤ 300 → (¬ s2 = 0 → ¬ V1.1 146 28 = -1 ∨ 0 < l) → Pt (AP N G m) (B_X12_areWithin_48 N k2 (sx_lp3 (B_X12_areWithin_12 N k2) n) l1 i i s2 V1) := fun s2 hb hs => by
        unfold B_X12_areWithin_48
        refine pt_g fun _ => pt_g fun hbl => pt_let fun W2 qv => ?_
        refine L52 N 0 W2 (by decide) (by decide) ⟨h1.1.w1 qv rfl, (rd_c qv (by decide)).trans h1.2.1, h1.2.2.1.elim Or.inl (fun z => Or.inr fun g g0 g1 hw => z g g0 g1 (by rw [rd_c qv (by decide)] at hw; exact hw)), by rw [qv]; exact S1.wca (l := 0) (h := 1) (fun _ => ⟨⟨rfl, rfl⟩, rfl⟩) (bl_inv hbl)⟩ (fun g g0 g1 hw => hn1 g g0 g1 (by
          have ng := tncn g g0
          have ni := tncn i i0
          rw [rd_k qv (show g.toNatClampNeg ≠ i.toNatClampNeg by omega)] at hw
          exact hw)) (rd_c qv (by decide)) (rd_c qv (by decide)) (fun j => rd_c qv (by decide)) hb (fun hw => ?_)
        rw [rd_s qv] at hw
        rcases hs hw with c | c
        · exact Or.inl c
        · exact Or.inr ⟨c, fun j j1 => absurd j1 (by rw [show (0 : Int32).toInt = 0 from rfl]; omega)⟩
      refine pt_ite (fun hm => pt_ite (fun _ => st 0 hb (fun z => absurd rfl z)) (fun h0 => st 1 hb (fun _ => Or.inr ?_))) (fun hm => st 1 hb (fun _ => Or.inl hm))
      have h0' := Int32.lt_iff_toInt_lt.mp (Int32.not_le.mp h0)
      have t0 : (0 : Int32).toInt = 0 := rfl
      omega
  exact key N 0 V (by decide) (by decide) h (fun g g0 g1 => absurd g1 (by rw [show (0 : Int32).toInt = 0 from rfl]; omega))
/-- the levels held: the depth of each glyph -/
theorem aw_main {N : Nat} (hN : 8589934592 ≤ N) {G V : sv_V} (S : SIx T_rM G V) {x : Int32} {W : sv_V} (e : F_X12_areWithin N V = some (x, W)) (hx : ¬ x = 0) : DWx N G := by
  have r12 : rg (V.1 146 12) 1 200 := S.rd (by decide +kernel)
  have r19 : rg (V.1 146 19) 0 4 := S.rd (by decide +kernel)
  have hF := fnt_M S
  have e12 : V.1 146 12 = G.1 146 12 := (hF 146 12 rfl).1
  have g200 : (G.1 146 12).toInt ≤ 200 := by rw [← e12]; exact r12.2
  have m0 := r19.1
  have m4 := r19.2
  have key : ∀ (n : Nat) (l : Nat) (l1 : Int32) (V' : sv_V), l1.toInt = (l : Int) → (l : Int) ≤ (V.1 146 19).toInt + 1 → AW N G (V.1 146 19) l V' → Pt (AP N G (V.1 146 19)) (sx_lp2 (B_X12_areWithin_2 N) n l1 V') := by
    intro n
    induction n with
    | zero => intro l l1 V' _ _ _ a e; cases e
    | succ n ih =>
      intro l l1 V' hl hm h
      show Pt (AP N G (V.1 146 19)) (B_X12_areWithin_2 N (sx_lp2 (B_X12_areWithin_2 N) n) l1 V')
      unfold B_X12_areWithin_2
      rw [h.2.1]
      refine pt_ite (fun hc => aw_152 (l := l) ?_ m0 g200 h) (fun hc => aw_12 hl g200 hN (fun W' y hW q => ?_) h)
      · have hc' := Int32.lt_iff_toInt_lt.mp hc
        omega
      · have hc' := Int32.le_iff_toInt_le.mp (Int32.not_lt.mp hc)
        have ey := ti_1 q (show rg l1 0 4 from ⟨by omega, by omega⟩) (by decide)
        exact ih (l + 1) y W' (by omega) (by omega) hW
  rcases key N 0 0 V rfl (by omega) ⟨hF, rfl, Or.inl rfl, S⟩ (x, W) e with z | z
  · exact absurd z hx
  · intro g g0 g1
    obtain ⟨d, d1, d2⟩ := z g g0 g1
    have t0 : (0 : Int32).toInt = 0 := rfl
    exact ⟨d, by omega, d2⟩
