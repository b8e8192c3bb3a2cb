/-! BY HAND: check and load (the reference) -/
theorem pt_maxp {N : Nat} {V : sv_V} : Pt (fun p : Int32 × sv_V => p.1 = 0 ∨ MR p.2) (F_X12_maxp N V) := by
  have no : ∀ W, Pt (fun p : Int32 × sv_V => p.1 = 0 ∨ MR p.2) (B_X12_maxp_249 N W) := fun W => by
    unfold B_X12_maxp_249 B_X12_maxp_250
    exact pt_ite (fun _ => pt_some (Or.inl rfl)) (fun h => absurd rfl h)
  unfold F_X12_maxp
  refine pt_b fun a _ => pt_b fun b1 _ => pt_let fun W1 _ => pt_b fun b2 _ => pt_let fun W2 _ => pt_b fun b3 _ => pt_let fun W3 _ => pt_b fun b4 _ => pt_let fun W4 _ => pt_b fun b5 _ => pt_let fun W5 _ => pt_b fun b6 _ => pt_let fun W6 _ => pt_b fun b7 _ => pt_let fun W7 _ => pt_b fun b8 _ => pt_let fun W8 _ => pt_b fun c _ => pt_ite (fun _ => pt_b fun d _ => pt_ite (fun _ => ?_) (fun _ => no _)) (fun _ => no _)
  obtain ⟨x45, U⟩ := d
  dsimp only
  refine pt_b fun e1 h1 => ?_
  obtain ⟨y1, U1⟩ := e1
  obtain ⟨rfl, g1⟩ := in_rgx h1
  refine pt_ite (fun _ => no _) (fun n1 => pt_b fun e2 h2 => ?_)
  obtain ⟨y2, U2⟩ := e2
  obtain ⟨rfl, g2⟩ := in_rgx h2
  refine pt_ite (fun _ => no _) (fun n2 => pt_b fun e3 h3 => ?_)
  obtain ⟨y3, U3⟩ := e3
  obtain ⟨rfl, g3⟩ := in_rgx h3
  refine pt_ite (fun _ => no _) (fun n3 => pt_b fun e4 h4 => ?_)
  obtain ⟨y4, U4⟩ := e4
  obtain ⟨rfl, g4⟩ := in_rgx h4
  refine pt_ite (fun _ => no _) (fun n4 => pt_b fun e5 h5 => ?_)
  obtain ⟨y5, U5⟩ := e5
  obtain ⟨rfl, g5⟩ := in_rgx h5
  refine pt_ite (fun _ => no _) (fun n5 => pt_b fun e6 h6 => ?_)
  obtain ⟨y6, U6⟩ := e6
  obtain ⟨rfl, g6⟩ := in_rgx h6
  refine pt_ite (fun _ => no _) (fun n6 => pt_b fun e7 h7 => ?_)
  obtain ⟨y7, U7⟩ := e7
  obtain ⟨rfl, g7⟩ := in_rgx h7
  refine pt_ite (fun _ => no _) (fun n7 => pt_b fun e8 h8 => ?_)
  obtain ⟨y8, U8⟩ := e8
  obtain ⟨rfl, g8⟩ := in_rgx h8
  refine pt_ite (fun _ => no _) (fun n8 => ?_)
  have M : MR U8 := ⟨g1.resolve_left n1, g2.resolve_left n2, g3.resolve_left n3, g4.resolve_left n4, g5.resolve_left n5, g6.resolve_left n6, g7.resolve_left n7, g8.resolve_left n8⟩
  have yes : Pt (fun p : Int32 × sv_V => p.1 = 0 ∨ MR p.2) (B_X12_maxp_270 N U8) := pt_some (Or.inr M)
  unfold B_X12_maxp_250
  exact pt_ite (fun _ => pt_some (Or.inl rfl)) (fun _ => pt_ite (fun _ => yes) (fun _ => pt_ite (fun _ => yes) (fun _ => pt_some (Or.inl rfl))))
theorem pt_head {N : Nat} {V : sv_V} : Pt (fun p : Int32 × sv_V => p.1 = 0 ∨ HR p.2) (F_X12_head N V) := by
  have no : ∀ x W, Pt (fun p : Int32 × sv_V => p.1 = 0 ∨ HR p.2) (B_X12_head_114 N x W) := fun x W => by
    unfold B_X12_head_114 B_X12_head_115
    exact pt_ite (fun _ => pt_some (Or.inl rfl)) (fun h => absurd rfl h)
  unfold F_X12_head
  refine pt_b fun a _ => pt_b fun b1 _ => pt_let fun W1 _ => pt_b fun b2 _ => pt_let fun W2 _ => pt_b fun c _ => pt_ite (fun _ => pt_b fun d _ => pt_ite (fun _ => pt_b fun d2 _ => pt_ite (fun _ => ?_) (fun _ => no _ _)) (fun _ => no _ _)) (fun _ => no _ _)
  obtain ⟨x45, U⟩ := d2
  dsimp only
  refine pt_b fun e1 h1 => ?_
  obtain ⟨y1, U1⟩ := e1
  obtain ⟨rfl, g1⟩ := in_rgx h1
  refine pt_ite (fun _ => no _ _) (fun n1 => pt_b fun e2 h2 => ?_)
  obtain ⟨y2, U2⟩ := e2
  obtain ⟨rfl, g2⟩ := in_rgx h2
  refine pt_ite (fun _ => no _ _) (fun n2 => pt_b fun e3 h3 => ?_)
  obtain ⟨y3, U3⟩ := e3
  have q3 : U3 = U2 := (cg_s2 (fnt_rf (V := U2)) _ y3 U3 h3).1
  refine pt_ite (fun _ => ?_) (fun _ => no _ _)
  show Pt _ (B_X12_head_115 N a.1 1 U3)
  rw [q3]
  unfold B_X12_head_115
  refine pt_ite (fun _ => pt_some (Or.inl rfl)) (fun _ => pt_b fun f hf => pt_b fun g hg => pt_ite (fun _ => pt_some (Or.inr ?_)) (fun _ => pt_some (Or.inl rfl)))
  obtain ⟨z1, T1⟩ := f
  obtain ⟨z2, T2⟩ := g
  have f1 := m_X12_sumOf sv_sub_rf hf
  have f2 := m_X12_u4 sv_sub_rf hg
  refine ⟨?_, ?_⟩
  · show rg (T2.1 146 10) 16 16384
    rw [rd_fr f2 rfl, rd_fr f1 rfl]
    exact g1.resolve_left n1
  · show rg (T2.1 146 11) 0 1
    rw [rd_fr f2 rfl, rd_fr f1 rfl]
    exact g2.resolve_left n2
theorem L_U {G V : sv_V} (S : SIx T_rL G V) : SIx T_rU G V := ⟨sub_rg (ex := []) (by decide +kernel : subT A_rL F_rL A_rU F_rU [] = true) S.1 (fun q hq => by cases hq), S.2.1, S.2.2.1, S.2.2.2.1, S.2.2.2.2.1.1, sup_rU⟩
theorem U_L {G V : sv_V} (S : SIx T_rU G V) (h : LB V) : SIx T_rL G V := ⟨sub_rg (ex := []) (by decide +kernel : subT A_rU F_rU A_rL F_rL [] = true) S.1 (fun q hq => by cases hq), S.2.1, S.2.2.1, S.2.2.2.1, ⟨S.2.2.2.2.1, h⟩, sup_rL⟩
theorem rg_of {V : sv_V} {a k : Nat} {l h l2 h2 : Int} {T : Nat → Nat → Option (Int × Int)} (e : T a k = some (l, h)) (e2 : T a k = some (l2, h2)) (r : rg (V.1 a k) l h) : rg (V.1 a k) l2 h2 := by
  rw [e] at e2
  cases e2
  exact r
theorem L_M {G V : sv_V} (S : SIx T_rL G V) (hh : HR V) (hm : MR V) (h4 : (V.1 146 4).toInt = 0) : SIx T_rM V V := ⟨sub_rg (ex := [(146, 10), (146, 11), (146, 12), (146, 13), (146, 14), (146, 15), (146, 16), (146, 17), (146, 18), (146, 19)]) (by decide +kernel : subT A_rL F_rL A_rM F_rM [(146, 10), (146, 11), (146, 12), (146, 13), (146, 14), (146, 15), (146, 16), (146, 17), (146, 18), (146, 19)] = true) S.1 (fun q hq l hx e => by
  simp only [List.mem_cons, List.not_mem_nil, or_false] at hq
  rcases hq with rfl | rfl | rfl | rfl | rfl | rfl | rfl | rfl | rfl | rfl
  · exact rg_of (T := R_of A_rM F_rM) (by decide +kernel) e hh.1
  · exact rg_of (T := R_of A_rM F_rM) (by decide +kernel) e hh.2
  · exact rg_of (T := R_of A_rM F_rM) (by decide +kernel) e hm.1
  · exact rg_of (T := R_of A_rM F_rM) (by decide +kernel) e hm.2.1
  · exact rg_of (T := R_of A_rM F_rM) (by decide +kernel) e hm.2.2.1
  · exact rg_of (T := R_of A_rM F_rM) (by decide +kernel) e hm.2.2.2.1
  · exact rg_of (T := R_of A_rM F_rM) (by decide +kernel) e hm.2.2.2.2.1
  · exact rg_of (T := R_of A_rM F_rM) (by decide +kernel) e hm.2.2.2.2.2.1
  · exact rg_of (T := R_of A_rM F_rM) (by decide +kernel) e hm.2.2.2.2.2.2.1
  · exact rg_of (T := R_of A_rM F_rM) (by decide +kernel) e hm.2.2.2.2.2.2.2), fun _ _ _ => ⟨rfl, rfl, rfl⟩, S.2.2.1, S.2.2.2.1, ⟨S.2.2.2.2.1, Or.inl h4⟩, sup_rM⟩
theorem M_U {G V W : sv_V} (S : SIx T_rL G V) (SW : SIx T_rM V W) (h4 : W.1 146 4 = 0) (h107 : W.1 146 107 = 0) (h108 : W.1 146 108 = 0) : SIx T_rU G W := ⟨sub_rg (ex := [(146, 4), (146, 107), (146, 108)]) (by decide +kernel : subT A_rM F_rM A_rU F_rU [(146, 4), (146, 107), (146, 108)] = true) SW.1 (fun q hq l hx e => by
  simp only [List.mem_cons, List.not_mem_nil, or_false] at hq
  rcases hq with rfl | rfl | rfl
  · exact rg_of (T := R_of A_rU F_rU) (l := 0) (h := 0) (by decide +kernel) e (by rw [h4]; exact ⟨by decide, by decide⟩)
  · exact rg_of (T := R_of A_rU F_rU) (l := 0) (h := 0) (by decide +kernel) e (by rw [h107]; exact ⟨by decide, by decide⟩)
  · exact rg_of (T := R_of A_rU F_rU) (l := 0) (h := 0) (by decide +kernel) e (by rw [h108]; exact ⟨by decide, by decide⟩)), fun a k e => by
  obtain ⟨a1, a2, a3⟩ := SW.2.1 a k (by show gh_rf a k = true; unfold gh_rf; rw [show gh_r a k = true from e]; rfl)
  obtain ⟨b1, b2, b3⟩ := S.2.1 a k e
  exact ⟨a1.trans b1, a2.trans b2, a3.trans b3⟩, SW.2.2.1, SW.2.2.2.1, X_M SW, sup_rU⟩
theorem DW_c {N : Nat} {G H : sv_V} (h : Fnt G H) (D : DWx N G) : DWx N H := by
  have sy : Fnt H G := fun a k q => ⟨(h a k q).1.symm, (h a k q).2.symm⟩
  have tr : ∀ W, Fnt H W → Fnt G W := fun W f a k q => ⟨(f a k q).1.trans (h a k q).1, (f a k q).2.trans (h a k q).2⟩
  have pt : ∀ g x, PTx N H g x → PTx N G g x := fun g x ⟨r, W, V1, F, z⟩ => ⟨r, W, V1, tr W F, z⟩
  have dp : ∀ d g, DPx N G d g → DPx N H d g := by
    intro d
    induction d with
    | zero => exact fun g z x hx => z x (pt g x hx)
    | succ d ih => exact fun g z x hx => ih x (z x (pt g x hx))
  intro g g0 g1
  rw [(h 146 12 rfl).1] at g1
  obtain ⟨d, d1, d2⟩ := D g g0 g1
  exact ⟨d, d1, dp d g d2⟩
