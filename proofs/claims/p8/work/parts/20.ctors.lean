/-! CONSTRUCTORS: what the two constructors leave in the memory -/
theorem sx_ren {g : sx_G} {q : sx_Y} {d pc : Nat} {lo : List (Nat × Value)} {st : List Value} {M : sx_M} {bc bs : Nat} {P : Option Value → sx_M → Prop} (k : ∀ M', M' = M → sx_J g q d pc lo st M' bc bs P) : sx_J g q d pc lo st M bc bs P := k _ rfl
section SC
variable {g : sx_G} {q : sx_Y} {d pc n : Nat} {lo : List (Nat × Value)} {st : List Value} {M : sx_M} {bc bs bc' bs' : Nat} {P : Option Value → sx_M → Prop}
theorem sc_new {idx ci : Nat} {r : vw_C} (hn : M.1 = n) (hd : decode q.2.1 pc = .ok (.new idx, 3)) (hK : sx_Kc ci r) (hw : Cond.classLink q.1.cls idx r.1 ∈ lw_good ∧ Cond.instantiable r.1 r.2.2 ∈ lw_good ∧ Cond.initialized r.1 ∈ lw_good) (hk : g.2.2.2.2.2 n = .inl ci) (hm : n < 1000) (kk : ∀ M', M' = sx_nw M → M'.1 = n + 1 → sx_J g q d (pc + 3) lo (.ref n :: st) M' bc bs P) (hc : bc' = bc + 1) (hs : bs' = bs + r.2.2) : sx_J g q d pc lo st M bc' bs' P := by
  subst hn; subst hc; subst hs
  exact sx_new hd hK hw hk hm (kk _ rfl rfl)
theorem sc_newa {t N : Nat} {x : Int32} {aty : ArrayType} (hn : M.1 = n) (hd : decode q.2.1 pc = .ok (.newarray aty, 2)) (hty : newarray.typeOf aty = sx_tt t) (ht : t < 4) (hw : Cond.arrayClass (sx_tt t) ∈ lw_good) (hk : g.2.2.2.2.2 n = .inr (t, N)) (hn0 : ¬ x < 0) (hx : x.toNatClampNeg = N) (hb : N ≤ 60000000) (hm : n < 1000) (kk : ∀ M', M' = sx_nw M → M'.1 = n + 1 → sx_J g q d (pc + 2) lo (.ref n :: st) M' bc bs P) (hc : bc' = bc + 1) (hs : bs' = bs + N) : sx_J g q d pc lo (.int x :: st) M bc' bs' P := by
  subst hn; subst hc; subst hs
  exact sx_newa hd hty ht hw hk hn0 hx hb hm (kk _ rfl rfl)
theorem sc_newq {idx N : Nat} {x : Int32} (hn : M.1 = n) (hd : decode q.2.1 pc = .ok (.anewarray idx, 3)) (hw : Cond.classLink q.1.cls idx "HintHouse$Points" ∈ lw_good) (hk : g.2.2.2.2.2 n = .inr (5, N)) (hn0 : ¬ x < 0) (hx : x.toNatClampNeg = N) (hb : N ≤ 60000000) (hm : n < 1000) (kk : ∀ M', M' = sx_nw M → M'.1 = n + 1 → sx_J g q d (pc + 3) lo (.ref n :: st) M' bc bs P) (hc : bc' = bc + 1) (hs : bs' = bs + N) : sx_J g q d pc lo (.int x :: st) M bc' bs' P := by
  subst hn; subst hc; subst hs
  exact sx_newq hd hw hk hn0 hx hb hm (kk _ rfl rfl)
theorem sc_mna {idx N K : Nat} {x k : Int32} (hn : M.1 = n) (hd : decode q.2.1 pc = .ok (.multianewarray idx 2, 4)) (hw : Cond.classLink q.1.cls idx "[[I" ∈ lw_good ∧ Cond.arrayClass .int ∈ lw_good) (hk : g.2.2.2.2.2 n = .inr (4, N)) (hki : ∀ j, j < N → g.2.2.2.2.2 (n + 1 + j) = .inr (0, K)) (hn0 : ¬ x < 0) (hk0 : ¬ k < 0) (hx : x.toNatClampNeg = N) (hkk : k.toNatClampNeg = K) (hb : N ≤ 60000000 ∧ K ≤ 60000000) (hm : n + (1 + N) ≤ 1000) (kk : ∀ M', M' = sx_nm M N → M'.1 = n + (1 + N) → sx_J g q d (pc + 4) lo (.ref n :: st) M' bc bs P) (hc : bc' = bc + (1 + N)) (hs : bs' = bs + (N + N * K)) : sx_J g q d pc lo (.int k :: .int x :: st) M bc' bs' P := by
  subst hn; subst hc; subst hs
  exact sx_mna hd hw hk hki hn0 hk0 hx hkk hb hm (kk _ rfl rfl)
theorem sc_getA {idx ci k a c : Nat} {b : Bool} {t : FieldType} (hd : decode q.2.1 pc = .ok (.getfield idx, 3)) (hF : sx_F q.1.cls idx ci k b) (hk : g.2.2.2.2.2 a = .inl ci) (ha : a < M.1) (ht : sx_ty ci k = .array t) (hc : M.2.2.2 a k = some c) (kk : sx_J g q d (pc + 3) lo (.ref c :: st) M bc bs P) : sx_J g q d pc lo (.ref a :: st) M bc bs P :=
  sx_get hd hF hk ha (by rw [ht]; show sx_J g q d (pc + 3) lo (va_rf (M.2.2.2 a k) :: st) M bc bs P; rw [hc]; exact kk)
theorem sc_getO {idx ci k a c : Nat} {b : Bool} {t : String} (hd : decode q.2.1 pc = .ok (.getfield idx, 3)) (hF : sx_F q.1.cls idx ci k b) (hk : g.2.2.2.2.2 a = .inl ci) (ha : a < M.1) (ht : sx_ty ci k = .object t) (hc : M.2.2.2 a k = some c) (kk : sx_J g q d (pc + 3) lo (.ref c :: st) M bc bs P) : sx_J g q d pc lo (.ref a :: st) M bc bs P :=
  sx_get hd hF hk ha (by rw [ht]; show sx_J g q d (pc + 3) lo (va_rf (M.2.2.2 a k) :: st) M bc bs P; rw [hc]; exact kk)
theorem sc_callI {idx m d' a mc' ms' : Nat} {y : sx_Y} {as stk : List Value} {la : List (Nat × Value)} {e : sx_M} (hd : decode q.2.1 pc = .ok (.invokespecial idx, 3)) (hl0 : Cond.methodLink q.1.cls idx y.1 ∈ lw_good) (hy : sx_Y0 y m) (hr : y.2.2.2 = none) (hi : y.1.name = "<init>") (hv : Cond.instanceMethod y.1 ∈ lw_good) (hn : as.length = m) (hfit : (lg_sl (.ref a :: as)).length ≤ y.2.2.1) (hdd : d' < d) (hst : (st.map fun v => v.category).sum ≤ 8) (hstk : stk = as.reverse ++ .ref a :: st) (hla : lv_args 0 (.ref a :: as) = la)
    (hM : sx_J g y d' 0 la [] M mc' ms' (fun r M1 => r = none ∧ M1 = e)) (kk : ∀ M1, M1 = e → sx_J g q d (pc + 3) lo st M1 bc bs P) (hc : bc' = bc + mc') (hs : bs' = bs + ms') : sx_J g q d pc lo stk M bc' bs' P := by
  subst hla; subst hc; subst hs
  exact sx_callI hd hl0 hy hr hi hv hn hfit hdd hst hstk hM (fun r M1 h => by obtain ⟨rfl, h2⟩ := h; exact kk _ h2)
theorem sc_callIN {idx m d' a mc' ms' : Nat} {y : sx_Y} {host : String} {as stk : List Value} {la : List (Nat × Value)} {e : sx_M} (hd : decode q.2.1 pc = .ok (.invokespecial idx, 3)) (hl0 : Cond.methodLinkNest q.1.cls idx y.1 host ∈ lw_nest) (hy : sx_Y0 y m) (hr : y.2.2.2 = none) (hi : y.1.name = "<init>") (hv : Cond.instanceMethod y.1 ∈ lw_good) (hn : as.length = m) (hfit : (lg_sl (.ref a :: as)).length ≤ y.2.2.1) (hdd : d' < d) (hst : (st.map fun v => v.category).sum ≤ 8) (hstk : stk = as.reverse ++ .ref a :: st) (hla : lv_args 0 (.ref a :: as) = la)
    (hM : sx_J g y d' 0 la [] M mc' ms' (fun r M1 => r = none ∧ M1 = e)) (kk : ∀ M1, M1 = e → sx_J g q d (pc + 3) lo st M1 bc bs P) (hc : bc' = bc + mc') (hs : bs' = bs + ms') : sx_J g q d pc lo stk M bc' bs' P := by
  subst hla; subst hc; subst hs
  exact sx_callIN hd hl0 hy hr hi hv hn hfit hdd hst hstk hM (fun r M1 h => by obtain ⟨rfl, h2⟩ := h; exact kk _ h2)
end SC
/-- the same number of cells, the same references -/
def rq (M M2 : sx_M) : Prop := M.1 = M2.1 ∧ M.2.2.2 = M2.2.2.2
theorem rq_nw {M M2 : sx_M} (h : rq M M2) : rq (sx_nw M) (sx_nw M2) := ⟨by show M.1 + 1 = M2.1 + 1; rw [h.1], by unfold sx_nw; rw [h.1, h.2]⟩
theorem rq_nm {M M2 : sx_M} {N : Nat} (h : rq M M2) : rq (sx_nm M N) (sx_nm M2 N) := ⟨by show M.1 + (1 + N) = M2.1 + (1 + N); rw [h.1], by unfold sx_nm; rw [h.1, h.2]⟩
theorem rq_sR {M M2 : sx_M} {a k : Nat} {x : Option Nat} (h : rq M M2) : rq (sx_sR M a k x) (sx_sR M2 a k x) := ⟨h.1, by unfold sx_sR; rw [h.2]⟩
theorem rq_sI {M M2 : sx_M} {a k : Nat} {x : Int32} (h : rq M M2) : rq (sx_sI M a k x) (sx_sI M2 a k x) := ⟨h.1, h.2⟩
theorem sx_topI {g : sx_G} {q : sx_Y} {d pc : Nat} {lo : List (Nat × Value)} {st : List Value} {M : sx_M} {bc bs : Nat} {P : Option Value → sx_M → Prop} {x y : Int32} (e : y = x) (k : sx_J g q d pc lo (.int x :: st) M bc bs P) : sx_J g q d pc lo (.int y :: st) M bc bs P := by subst e; exact k
theorem hki_7 {g : sx_G} (hG : sx_Go g) : ∀ j, j < 8 → g.2.2.2.2.2 (7 + 1 + j) = .inr (0, 200) := by
  intro j hj
  rw [hG _ (by omega)]
  have h : ∀ j, j < 8 → lay (7 + 1 + j) = .inr (0, 200) := by decide +kernel
  exact h j hj
def ncX2_init : Nat := 128744156096441584274450205478360095516876780442145364449444962446118093060022941154845002101602272439329989412965564406430239207255488298
theorem kcX2_init : CK cX2_init ncX2_init 57 := ⟨by decide +kernel, by decide +kernel⟩
theorem dX2_init_0 : decode cX2_init 0 = .ok (.aload_n 0, 1) := dl_o42 kcX2_init (by decide +kernel)
theorem dX2_init_1 : decode cX2_init 1 = .ok (.invokespecial 3, 3) := dl_o183 kcX2_init (by decide +kernel)
theorem dX2_init_4 : decode cX2_init 4 = .ok (.aload_n 0, 1) := dl_o42 kcX2_init (by decide +kernel)
theorem dX2_init_5 : decode cX2_init 5 = .ok (.sipush 12000, 3) := dl_o17 kcX2_init 12000 (by decide +kernel) (by decide +kernel)
theorem dX2_init_8 : decode cX2_init 8 = .ok (.newarray .byte, 2) := by decide +kernel
theorem dX2_init_10 : decode cX2_init 10 = .ok (.putfield 9, 3) := dl_o181 kcX2_init (by decide +kernel)
theorem dX2_init_13 : decode cX2_init 13 = .ok (.aload_n 0, 1) := dl_o42 kcX2_init (by decide +kernel)
theorem dX2_init_14 : decode cX2_init 14 = .ok (.getstatic 15, 3) := dl_o178 kcX2_init (by decide +kernel)
theorem dX2_init_17 : decode cX2_init 17 = .ok (.arraylength, 1) := dl_o190 kcX2_init (by decide +kernel)
theorem dX2_init_18 : decode cX2_init 18 = .ok (.newarray .int, 2) := by decide +kernel
theorem dX2_init_20 : decode cX2_init 20 = .ok (.putfield 19, 3) := dl_o181 kcX2_init (by decide +kernel)
theorem dX2_init_23 : decode cX2_init 23 = .ok (.aload_n 0, 1) := dl_o42 kcX2_init (by decide +kernel)
theorem dX2_init_24 : decode cX2_init 24 = .ok (.getstatic 15, 3) := dl_o178 kcX2_init (by decide +kernel)
theorem dX2_init_27 : decode cX2_init 27 = .ok (.arraylength, 1) := dl_o190 kcX2_init (by decide +kernel)
theorem dX2_init_28 : decode cX2_init 28 = .ok (.newarray .int, 2) := by decide +kernel
theorem dX2_init_30 : decode cX2_init 30 = .ok (.putfield 22, 3) := dl_o181 kcX2_init (by decide +kernel)
theorem dX2_init_33 : decode cX2_init 33 = .ok (.aload_n 0, 1) := dl_o42 kcX2_init (by decide +kernel)
theorem dX2_init_34 : decode cX2_init 34 = .ok (.getstatic 25, 3) := dl_o178 kcX2_init (by decide +kernel)
theorem dX2_init_37 : decode cX2_init 37 = .ok (.arraylength, 1) := dl_o190 kcX2_init (by decide +kernel)
theorem dX2_init_38 : decode cX2_init 38 = .ok (.newarray .int, 2) := by decide +kernel
theorem dX2_init_40 : decode cX2_init 40 = .ok (.putfield 28, 3) := dl_o181 kcX2_init (by decide +kernel)
theorem dX2_init_43 : decode cX2_init 43 = .ok (.aload_n 0, 1) := dl_o42 kcX2_init (by decide +kernel)
theorem dX2_init_44 : decode cX2_init 44 = .ok (.bipush 8, 2) := dl_o16 kcX2_init 8 (by decide +kernel) (by decide +kernel)
theorem dX2_init_46 : decode cX2_init 46 = .ok (.sipush 200, 3) := dl_o17 kcX2_init 200 (by decide +kernel) (by decide +kernel)
theorem dX2_init_49 : decode cX2_init 49 = .ok (.multianewarray 31 2, 4) := by decide +kernel
theorem dX2_init_53 : decode cX2_init 53 = .ok (.putfield 33, 3) := dl_o181 kcX2_init (by decide +kernel)
theorem dX2_init_56 : decode cX2_init 56 = .ok (.return_, 1) := dl_o177 kcX2_init (by decide +kernel)
def e_0 (M : sx_M) : sx_M := sx_sR (sx_nm (sx_sR (sx_nw (sx_sR (sx_nw (sx_sR (sx_nw (sx_sR (sx_nw (M)) 2 0 (some 3))) 2 3 (some 4))) 2 4 (some 5))) 2 10 (some 6)) 8) 2 16 (some 7)
theorem e_0_R {M M2 : sx_M} (h : rq M M2) : rq (e_0 M) (e_0 M2) := rq_sR (rq_nm (rq_sR (rq_nw (rq_sR (rq_nw (rq_sR (rq_nw (rq_sR (rq_nw (h))))))))))
set_option maxRecDepth 20000 in
theorem e_0_n {M : sx_M} (h : M.1 = 3) : (e_0 M).1 = 16 := by
  show M.1 + 13 = 16
  rw [h]
set_option maxRecDepth 20000 in
set_option maxHeartbeats 4000000 in
theorem ct_0 {g : sx_G} (hG : sx_Go g) {P : Option Value → sx_M → Prop} {M : sx_M} (nM : M.1 = 3) (hP : P none (e_0 M)) : sx_J g qX2_init 1 0 [(0, .ref 2)] [] M 13 13637 P := by
  refine sx_aload_n (pc := 0) dX2_init_0 sx_m0 ?_
  refine sx_objInit (pc := 1) dX2_init_1 l_X2_3 oi_i oi_c (by decide) (Nat.le_of_ble_eq_true rfl) ?_
  refine sx_aload_n (pc := 4) dX2_init_4 sx_m0 ?_
  refine sx_sipush (pc := 5) (v := 12000) dX2_init_5 (by decide +kernel) ?_
  refine sc_newa (pc := 8) (bc := 12) (bs := 1637) (t := 1) (N := 12000) nM dX2_init_8 rfl (by decide) ac_byte ((hG 3 (by decide)).trans lay_3) (by decide +kernel) (by decide +kernel) (by decide +kernel) (by decide +kernel) (fun M1 hM1 nM1 => ?_) (by decide +kernel) (by decide +kernel)
  refine sx_putFA (pc := 10) dX2_init_10 f_2_9 rfl kr_2 ((hG 2 (by decide)).trans lay_2) (by rw [nM1]; decide) rfl ?_
  refine sx_ren (fun M2 hM2 => ?_)
  have nM2 : M2.1 = 4 := by rw [hM2]; exact nM1
  refine sx_aload_n (pc := 13) dX2_init_13 sx_m0 ?_
  refine sx_getSN (pc := 14) (j := 0) dX2_init_14 rfl n_X2_15 ?_
  refine sx_xlen (pc := 17) dX2_init_17 ((hG 1001 (by decide)).trans lay_1001) ?_
  refine sx_topI (x := 11) (by decide) ?_
  refine sc_newa (pc := 18) (bc := 11) (bs := 1626) (t := 0) (N := 11) nM2 dX2_init_18 rfl (by decide) ac_int ((hG 4 (by decide)).trans lay_4) (by decide +kernel) (by decide +kernel) (by decide +kernel) (by decide +kernel) (fun M3 hM3 nM3 => ?_) (by decide +kernel) (by decide +kernel)
  refine sx_putFA (pc := 20) dX2_init_20 f_2_19 rfl kr_2 ((hG 2 (by decide)).trans lay_2) (by rw [nM3]; decide) rfl ?_
  refine sx_ren (fun M4 hM4 => ?_)
  have nM4 : M4.1 = 5 := by rw [hM4]; exact nM3
  refine sx_aload_n (pc := 23) dX2_init_23 sx_m0 ?_
  refine sx_getSN (pc := 24) (j := 0) dX2_init_24 rfl n_X2_15 ?_
  refine sx_xlen (pc := 27) dX2_init_27 ((hG 1001 (by decide)).trans lay_1001) ?_
  refine sx_topI (x := 11) (by decide) ?_
  refine sc_newa (pc := 28) (bc := 10) (bs := 1615) (t := 0) (N := 11) nM4 dX2_init_28 rfl (by decide) ac_int ((hG 5 (by decide)).trans lay_5) (by decide +kernel) (by decide +kernel) (by decide +kernel) (by decide +kernel) (fun M5 hM5 nM5 => ?_) (by decide +kernel) (by decide +kernel)
  refine sx_putFA (pc := 30) dX2_init_30 f_2_22 rfl kr_2 ((hG 2 (by decide)).trans lay_2) (by rw [nM5]; decide) rfl ?_
  refine sx_ren (fun M6 hM6 => ?_)
  have nM6 : M6.1 = 6 := by rw [hM6]; exact nM5
  refine sx_aload_n (pc := 33) dX2_init_33 sx_m0 ?_
  refine sx_getSN (pc := 34) (j := 1) dX2_init_34 rfl n_X2_25 ?_
  refine sx_xlen (pc := 37) dX2_init_37 ((hG 1002 (by decide)).trans lay_1002) ?_
  refine sx_topI (x := 7) (by decide) ?_
  refine sc_newa (pc := 38) (bc := 9) (bs := 1608) (t := 0) (N := 7) nM6 dX2_init_38 rfl (by decide) ac_int ((hG 6 (by decide)).trans lay_6) (by decide +kernel) (by decide +kernel) (by decide +kernel) (by decide +kernel) (fun M7 hM7 nM7 => ?_) (by decide +kernel) (by decide +kernel)
  refine sx_putFA (pc := 40) dX2_init_40 f_2_28 rfl kr_2 ((hG 2 (by decide)).trans lay_2) (by rw [nM7]; decide) rfl ?_
  refine sx_ren (fun M8 hM8 => ?_)
  have nM8 : M8.1 = 7 := by rw [hM8]; exact nM7
  refine sx_aload_n (pc := 43) dX2_init_43 sx_m0 ?_
  refine sx_bipush (pc := 44) (v := 8) dX2_init_44 (by decide +kernel) ?_
  refine sx_sipush (pc := 46) (v := 200) dX2_init_46 (by decide +kernel) ?_
  refine sc_mna (pc := 49) (bc := 0) (bs := 0) (N := 8) (K := 200) nM8 dX2_init_49 ⟨c_X2_31, ac_int⟩ ((hG 7 (by decide)).trans lay_7) (hki_7 hG) (by decide +kernel) (by decide +kernel) (by decide +kernel) (by decide +kernel) (by decide +kernel) (by decide +kernel) (fun M9 hM9 nM9 => ?_) (by decide +kernel) (by decide +kernel)
  refine sx_putFA (pc := 53) dX2_init_53 f_2_33 rfl kr_2 ((hG 2 (by decide)).trans lay_2) (by rw [nM9]; decide) rfl ?_
  refine sx_ren (fun M10 hM10 => ?_)
  have nM10 : M10.1 = 16 := by rw [hM10]; exact nM9
  exact sx_vret (pc := 56) dX2_init_56 rfl (by subst hM1; subst hM2; subst hM3; subst hM4; subst hM5; subst hM6; subst hM7; subst hM8; subst hM9; subst hM10; exact hP)
def ncX8_init : Nat := 888677082239123991211950398005490991882732021033301575479850878584844410008939585219616070507175460273025644372021261614833800723758271171815115128076323376476700168287659251473816694705032031513269359392554
theorem kcX8_init : CK cX8_init ncX8_init 86 := ⟨by decide +kernel, by decide +kernel⟩
theorem dX8_init_0 : decode cX8_init 0 = .ok (.aload_n 0, 1) := dl_o42 kcX8_init (by decide +kernel)
theorem dX8_init_1 : decode cX8_init 1 = .ok (.invokespecial 3, 3) := dl_o183 kcX8_init (by decide +kernel)
theorem dX8_init_4 : decode cX8_init 4 = .ok (.aload_n 0, 1) := dl_o42 kcX8_init (by decide +kernel)
theorem dX8_init_5 : decode cX8_init 5 = .ok (.bipush 20, 2) := dl_o16 kcX8_init 20 (by decide +kernel) (by decide +kernel)
theorem dX8_init_7 : decode cX8_init 7 = .ok (.newarray .int, 2) := by decide +kernel
theorem dX8_init_9 : decode cX8_init 9 = .ok (.putfield 9, 3) := dl_o181 kcX8_init (by decide +kernel)
theorem dX8_init_12 : decode cX8_init 12 = .ok (.aload_n 0, 1) := dl_o42 kcX8_init (by decide +kernel)
theorem dX8_init_13 : decode cX8_init 13 = .ok (.iconst 2, 1) := dl_o5 kcX8_init (by decide +kernel)
theorem dX8_init_14 : decode cX8_init 14 = .ok (.newarray .int, 2) := by decide +kernel
theorem dX8_init_16 : decode cX8_init 16 = .ok (.putfield 15, 3) := dl_o181 kcX8_init (by decide +kernel)
theorem dX8_init_19 : decode cX8_init 19 = .ok (.aload_n 0, 1) := dl_o42 kcX8_init (by decide +kernel)
theorem dX8_init_20 : decode cX8_init 20 = .ok (.iconst 2, 1) := dl_o5 kcX8_init (by decide +kernel)
theorem dX8_init_21 : decode cX8_init 21 = .ok (.newarray .int, 2) := by decide +kernel
theorem dX8_init_23 : decode cX8_init 23 = .ok (.putfield 18, 3) := dl_o181 kcX8_init (by decide +kernel)
theorem dX8_init_26 : decode cX8_init 26 = .ok (.aload_n 0, 1) := dl_o42 kcX8_init (by decide +kernel)
theorem dX8_init_27 : decode cX8_init 27 = .ok (.iload_n 1, 1) := dl_o27 kcX8_init (by decide +kernel)
theorem dX8_init_28 : decode cX8_init 28 = .ok (.iload_n 2, 1) := dl_o28 kcX8_init (by decide +kernel)
theorem dX8_init_29 : decode cX8_init 29 = .ok (.iadd, 1) := dl_o96 kcX8_init (by decide +kernel)
theorem dX8_init_30 : decode cX8_init 30 = .ok (.newarray .int, 2) := by decide +kernel
theorem dX8_init_32 : decode cX8_init 32 = .ok (.putfield 21, 3) := dl_o181 kcX8_init (by decide +kernel)
theorem dX8_init_35 : decode cX8_init 35 = .ok (.aload_n 0, 1) := dl_o42 kcX8_init (by decide +kernel)
theorem dX8_init_36 : decode cX8_init 36 = .ok (.iload_n 1, 1) := dl_o27 kcX8_init (by decide +kernel)
theorem dX8_init_37 : decode cX8_init 37 = .ok (.iload_n 2, 1) := dl_o28 kcX8_init (by decide +kernel)
theorem dX8_init_38 : decode cX8_init 38 = .ok (.iadd, 1) := dl_o96 kcX8_init (by decide +kernel)
theorem dX8_init_39 : decode cX8_init 39 = .ok (.newarray .int, 2) := by decide +kernel
theorem dX8_init_41 : decode cX8_init 41 = .ok (.putfield 24, 3) := dl_o181 kcX8_init (by decide +kernel)
theorem dX8_init_44 : decode cX8_init 44 = .ok (.aload_n 0, 1) := dl_o42 kcX8_init (by decide +kernel)
theorem dX8_init_45 : decode cX8_init 45 = .ok (.iload_n 1, 1) := dl_o27 kcX8_init (by decide +kernel)
theorem dX8_init_46 : decode cX8_init 46 = .ok (.iload_n 2, 1) := dl_o28 kcX8_init (by decide +kernel)
theorem dX8_init_47 : decode cX8_init 47 = .ok (.iadd, 1) := dl_o96 kcX8_init (by decide +kernel)
theorem dX8_init_48 : decode cX8_init 48 = .ok (.newarray .int, 2) := by decide +kernel
theorem dX8_init_50 : decode cX8_init 50 = .ok (.putfield 27, 3) := dl_o181 kcX8_init (by decide +kernel)
theorem dX8_init_53 : decode cX8_init 53 = .ok (.aload_n 0, 1) := dl_o42 kcX8_init (by decide +kernel)
theorem dX8_init_54 : decode cX8_init 54 = .ok (.iload_n 1, 1) := dl_o27 kcX8_init (by decide +kernel)
theorem dX8_init_55 : decode cX8_init 55 = .ok (.iload_n 2, 1) := dl_o28 kcX8_init (by decide +kernel)
theorem dX8_init_56 : decode cX8_init 56 = .ok (.iadd, 1) := dl_o96 kcX8_init (by decide +kernel)
theorem dX8_init_57 : decode cX8_init 57 = .ok (.newarray .int, 2) := by decide +kernel
theorem dX8_init_59 : decode cX8_init 59 = .ok (.putfield 30, 3) := dl_o181 kcX8_init (by decide +kernel)
theorem dX8_init_62 : decode cX8_init 62 = .ok (.aload_n 0, 1) := dl_o42 kcX8_init (by decide +kernel)
theorem dX8_init_63 : decode cX8_init 63 = .ok (.iload_n 1, 1) := dl_o27 kcX8_init (by decide +kernel)
theorem dX8_init_64 : decode cX8_init 64 = .ok (.iload_n 2, 1) := dl_o28 kcX8_init (by decide +kernel)
theorem dX8_init_65 : decode cX8_init 65 = .ok (.iadd, 1) := dl_o96 kcX8_init (by decide +kernel)
theorem dX8_init_66 : decode cX8_init 66 = .ok (.newarray .int, 2) := by decide +kernel
theorem dX8_init_68 : decode cX8_init 68 = .ok (.putfield 33, 3) := dl_o181 kcX8_init (by decide +kernel)
theorem dX8_init_71 : decode cX8_init 71 = .ok (.aload_n 0, 1) := dl_o42 kcX8_init (by decide +kernel)
theorem dX8_init_72 : decode cX8_init 72 = .ok (.iload_n 1, 1) := dl_o27 kcX8_init (by decide +kernel)
theorem dX8_init_73 : decode cX8_init 73 = .ok (.iload_n 2, 1) := dl_o28 kcX8_init (by decide +kernel)
theorem dX8_init_74 : decode cX8_init 74 = .ok (.iadd, 1) := dl_o96 kcX8_init (by decide +kernel)
theorem dX8_init_75 : decode cX8_init 75 = .ok (.newarray .int, 2) := by decide +kernel
theorem dX8_init_77 : decode cX8_init 77 = .ok (.putfield 36, 3) := dl_o181 kcX8_init (by decide +kernel)
theorem dX8_init_80 : decode cX8_init 80 = .ok (.aload_n 0, 1) := dl_o42 kcX8_init (by decide +kernel)
theorem dX8_init_81 : decode cX8_init 81 = .ok (.iload_n 2, 1) := dl_o28 kcX8_init (by decide +kernel)
theorem dX8_init_82 : decode cX8_init 82 = .ok (.putfield 39, 3) := dl_o181 kcX8_init (by decide +kernel)
theorem dX8_init_85 : decode cX8_init 85 = .ok (.return_, 1) := dl_o177 kcX8_init (by decide +kernel)
def e_1 (M : sx_M) : sx_M := sx_sI (sx_sR (sx_nw (sx_sR (sx_nw (sx_sR (sx_nw (sx_sR (sx_nw (sx_sR (sx_nw (sx_sR (sx_nw (sx_sR (sx_nw (sx_sR (sx_nw (sx_sR (sx_nw (M)) 17 6 (some 18))) 17 7 (some 19))) 17 8 (some 20))) 17 0 (some 21))) 17 1 (some 22))) 17 2 (some 23))) 17 3 (some 24))) 17 4 (some 25))) 17 5 (some 26)) 17 11 0
theorem e_1_R {M M2 : sx_M} (h : rq M M2) : rq (e_1 M) (e_1 M2) := rq_sI (rq_sR (rq_nw (rq_sR (rq_nw (rq_sR (rq_nw (rq_sR (rq_nw (rq_sR (rq_nw (rq_sR (rq_nw (rq_sR (rq_nw (rq_sR (rq_nw (rq_sR (rq_nw (h)))))))))))))))))))
set_option maxRecDepth 20000 in
theorem e_1_n {M : sx_M} (h : M.1 = 18) : (e_1 M).1 = 27 := by
  show M.1 + 9 = 27
  rw [h]
set_option maxRecDepth 20000 in
set_option maxHeartbeats 4000000 in
theorem ct_1 {g : sx_G} (hG : sx_Go g) {P : Option Value → sx_M → Prop} {M : sx_M} (nM : M.1 = 18) (hP : P none (e_1 M)) : sx_J g qX8_init 1 0 [(0, .ref 17), (1, .int 100), (2, .int 0)] [] M 9 624 P := by
  refine sx_aload_n (pc := 0) dX8_init_0 sx_m0 ?_
  refine sx_objInit (pc := 1) dX8_init_1 l_X8_3 oi_i oi_c (by decide) (Nat.le_of_ble_eq_true rfl) ?_
  refine sx_aload_n (pc := 4) dX8_init_4 sx_m0 ?_
  refine sx_bipush (pc := 5) (v := 20) dX8_init_5 (by decide +kernel) ?_
  refine sc_newa (pc := 7) (bc := 8) (bs := 604) (t := 0) (N := 20) nM dX8_init_7 rfl (by decide) ac_int ((hG 18 (by decide)).trans lay_18) (by decide +kernel) (by decide +kernel) (by decide +kernel) (by decide +kernel) (fun M1 hM1 nM1 => ?_) (by decide +kernel) (by decide +kernel)
  refine sx_putFA (pc := 9) dX8_init_9 f_8_9 rfl kr_8 ((hG 17 (by decide)).trans lay_17) (by rw [nM1]; decide) rfl ?_
  refine sx_ren (fun M2 hM2 => ?_)
  have nM2 : M2.1 = 19 := by rw [hM2]; exact nM1
  refine sx_aload_n (pc := 12) dX8_init_12 sx_m0 ?_
  refine sx_iconst (pc := 13) (v := 2) dX8_init_13 (by decide +kernel) ?_
  refine sc_newa (pc := 14) (bc := 7) (bs := 602) (t := 0) (N := 2) nM2 dX8_init_14 rfl (by decide) ac_int ((hG 19 (by decide)).trans lay_19) (by decide +kernel) (by decide +kernel) (by decide +kernel) (by decide +kernel) (fun M3 hM3 nM3 => ?_) (by decide +kernel) (by decide +kernel)
  refine sx_putFA (pc := 16) dX8_init_16 f_8_15 rfl kr_8 ((hG 17 (by decide)).trans lay_17) (by rw [nM3]; decide) rfl ?_
  refine sx_ren (fun M4 hM4 => ?_)
  have nM4 : M4.1 = 20 := by rw [hM4]; exact nM3
  refine sx_aload_n (pc := 19) dX8_init_19 sx_m0 ?_
  refine sx_iconst (pc := 20) (v := 2) dX8_init_20 (by decide +kernel) ?_
  refine sc_newa (pc := 21) (bc := 6) (bs := 600) (t := 0) (N := 2) nM4 dX8_init_21 rfl (by decide) ac_int ((hG 20 (by decide)).trans lay_20) (by decide +kernel) (by decide +kernel) (by decide +kernel) (by decide +kernel) (fun M5 hM5 nM5 => ?_) (by decide +kernel) (by decide +kernel)
  refine sx_putFA (pc := 23) dX8_init_23 f_8_18 rfl kr_8 ((hG 17 (by decide)).trans lay_17) (by rw [nM5]; decide) rfl ?_
  refine sx_ren (fun M6 hM6 => ?_)
  have nM6 : M6.1 = 21 := by rw [hM6]; exact nM5
  refine sx_aload_n (pc := 26) dX8_init_26 sx_m0 ?_
  refine sx_iload_n (pc := 27) dX8_init_27 sx_m1 ?_
  refine sx_iload_n (pc := 28) dX8_init_28 sx_m2 ?_
  refine sx_iadd (pc := 29) dX8_init_29 ?_
  refine sx_topI (x := 100) (by decide) ?_
  refine sc_newa (pc := 30) (bc := 5) (bs := 500) (t := 0) (N := 100) nM6 dX8_init_30 rfl (by decide) ac_int ((hG 21 (by decide)).trans lay_21) (by decide +kernel) (by decide +kernel) (by decide +kernel) (by decide +kernel) (fun M7 hM7 nM7 => ?_) (by decide +kernel) (by decide +kernel)
  refine sx_putFA (pc := 32) dX8_init_32 f_8_21 rfl kr_8 ((hG 17 (by decide)).trans lay_17) (by rw [nM7]; decide) rfl ?_
  refine sx_ren (fun M8 hM8 => ?_)
  have nM8 : M8.1 = 22 := by rw [hM8]; exact nM7
  refine sx_aload_n (pc := 35) dX8_init_35 sx_m0 ?_
  refine sx_iload_n (pc := 36) dX8_init_36 sx_m1 ?_
  refine sx_iload_n (pc := 37) dX8_init_37 sx_m2 ?_
  refine sx_iadd (pc := 38) dX8_init_38 ?_
  refine sx_topI (x := 100) (by decide) ?_
  refine sc_newa (pc := 39) (bc := 4) (bs := 400) (t := 0) (N := 100) nM8 dX8_init_39 rfl (by decide) ac_int ((hG 22 (by decide)).trans lay_22) (by decide +kernel) (by decide +kernel) (by decide +kernel) (by decide +kernel) (fun M9 hM9 nM9 => ?_) (by decide +kernel) (by decide +kernel)
  refine sx_putFA (pc := 41) dX8_init_41 f_8_24 rfl kr_8 ((hG 17 (by decide)).trans lay_17) (by rw [nM9]; decide) rfl ?_
  refine sx_ren (fun M10 hM10 => ?_)
  have nM10 : M10.1 = 23 := by rw [hM10]; exact nM9
  refine sx_aload_n (pc := 44) dX8_init_44 sx_m0 ?_
  refine sx_iload_n (pc := 45) dX8_init_45 sx_m1 ?_
  refine sx_iload_n (pc := 46) dX8_init_46 sx_m2 ?_
  refine sx_iadd (pc := 47) dX8_init_47 ?_
  refine sx_topI (x := 100) (by decide) ?_
  refine sc_newa (pc := 48) (bc := 3) (bs := 300) (t := 0) (N := 100) nM10 dX8_init_48 rfl (by decide) ac_int ((hG 23 (by decide)).trans lay_23) (by decide +kernel) (by decide +kernel) (by decide +kernel) (by decide +kernel) (fun M11 hM11 nM11 => ?_) (by decide +kernel) (by decide +kernel)
  refine sx_putFA (pc := 50) dX8_init_50 f_8_27 rfl kr_8 ((hG 17 (by decide)).trans lay_17) (by rw [nM11]; decide) rfl ?_
  refine sx_ren (fun M12 hM12 => ?_)
  have nM12 : M12.1 = 24 := by rw [hM12]; exact nM11
  refine sx_aload_n (pc := 53) dX8_init_53 sx_m0 ?_
  refine sx_iload_n (pc := 54) dX8_init_54 sx_m1 ?_
  refine sx_iload_n (pc := 55) dX8_init_55 sx_m2 ?_
  refine sx_iadd (pc := 56) dX8_init_56 ?_
  refine sx_topI (x := 100) (by decide) ?_
  refine sc_newa (pc := 57) (bc := 2) (bs := 200) (t := 0) (N := 100) nM12 dX8_init_57 rfl (by decide) ac_int ((hG 24 (by decide)).trans lay_24) (by decide +kernel) (by decide +kernel) (by decide +kernel) (by decide +kernel) (fun M13 hM13 nM13 => ?_) (by decide +kernel) (by decide +kernel)
  refine sx_putFA (pc := 59) dX8_init_59 f_8_30 rfl kr_8 ((hG 17 (by decide)).trans lay_17) (by rw [nM13]; decide) rfl ?_
  refine sx_ren (fun M14 hM14 => ?_)
  have nM14 : M14.1 = 25 := by rw [hM14]; exact nM13
  refine sx_aload_n (pc := 62) dX8_init_62 sx_m0 ?_
  refine sx_iload_n (pc := 63) dX8_init_63 sx_m1 ?_
  refine sx_iload_n (pc := 64) dX8_init_64 sx_m2 ?_
  refine sx_iadd (pc := 65) dX8_init_65 ?_
  refine sx_topI (x := 100) (by decide) ?_
  refine sc_newa (pc := 66) (bc := 1) (bs := 100) (t := 0) (N := 100) nM14 dX8_init_66 rfl (by decide) ac_int ((hG 25 (by decide)).trans lay_25) (by decide +kernel) (by decide +kernel) (by decide +kernel) (by decide +kernel) (fun M15 hM15 nM15 => ?_) (by decide +kernel) (by decide +kernel)
  refine sx_putFA (pc := 68) dX8_init_68 f_8_33 rfl kr_8 ((hG 17 (by decide)).trans lay_17) (by rw [nM15]; decide) rfl ?_
  refine sx_ren (fun M16 hM16 => ?_)
  have nM16 : M16.1 = 26 := by rw [hM16]; exact nM15
  refine sx_aload_n (pc := 71) dX8_init_71 sx_m0 ?_
  refine sx_iload_n (pc := 72) dX8_init_72 sx_m1 ?_
  refine sx_iload_n (pc := 73) dX8_init_73 sx_m2 ?_
  refine sx_iadd (pc := 74) dX8_init_74 ?_
  refine sx_topI (x := 100) (by decide) ?_
  refine sc_newa (pc := 75) (bc := 0) (bs := 0) (t := 0) (N := 100) nM16 dX8_init_75 rfl (by decide) ac_int ((hG 26 (by decide)).trans lay_26) (by decide +kernel) (by decide +kernel) (by decide +kernel) (by decide +kernel) (fun M17 hM17 nM17 => ?_) (by decide +kernel) (by decide +kernel)
  refine sx_putFA (pc := 77) dX8_init_77 f_8_36 rfl kr_8 ((hG 17 (by decide)).trans lay_17) (by rw [nM17]; decide) rfl ?_
  refine sx_ren (fun M18 hM18 => ?_)
  have nM18 : M18.1 = 27 := by rw [hM18]; exact nM17
  refine sx_aload_n (pc := 80) dX8_init_80 sx_m0 ?_
  refine sx_iload_n (pc := 81) dX8_init_81 sx_m2 ?_
  refine sx_putI (pc := 82) dX8_init_82 f_8_39 ((hG 17 (by decide)).trans lay_17) (by rw [nM18]; decide) rfl ?_
  refine sx_ren (fun M19 hM19 => ?_)
  have nM19 : M19.1 = 27 := by rw [hM19]; exact nM18
  exact sx_vret (pc := 85) dX8_init_85 rfl (by subst hM1; subst hM2; subst hM3; subst hM4; subst hM5; subst hM6; subst hM7; subst hM8; subst hM9; subst hM10; subst hM11; subst hM12; subst hM13; subst hM14; subst hM15; subst hM16; subst hM17; subst hM18; subst hM19; exact hP)
def ncX3_init : Nat := 378295008306132023758311470073174916484126018008206432109155159891408732139507938997524524016121642
theorem kcX3_init : CK cX3_init ncX3_init 41 := ⟨by decide +kernel, by decide +kernel⟩
theorem dX3_init_0 : decode cX3_init 0 = .ok (.aload_n 0, 1) := dl_o42 kcX3_init (by decide +kernel)
theorem dX3_init_1 : decode cX3_init 1 = .ok (.invokespecial 3, 3) := dl_o183 kcX3_init (by decide +kernel)
theorem dX3_init_4 : decode cX3_init 4 = .ok (.aload_n 0, 1) := dl_o42 kcX3_init (by decide +kernel)
theorem dX3_init_5 : decode cX3_init 5 = .ok (.new 9, 3) := by decide +kernel
theorem dX3_init_8 : decode cX3_init 8 = .ok (.dup, 1) := dl_o89 kcX3_init (by decide +kernel)
theorem dX3_init_9 : decode cX3_init 9 = .ok (.bipush 100, 2) := dl_o16 kcX3_init 100 (by decide +kernel) (by decide +kernel)
theorem dX3_init_11 : decode cX3_init 11 = .ok (.iconst 0, 1) := dl_o3 kcX3_init (by decide +kernel)
theorem dX3_init_12 : decode cX3_init 12 = .ok (.invokespecial 11, 3) := dl_o183 kcX3_init (by decide +kernel)
theorem dX3_init_15 : decode cX3_init 15 = .ok (.putfield 14, 3) := dl_o181 kcX3_init (by decide +kernel)
theorem dX3_init_18 : decode cX3_init 18 = .ok (.aload_n 0, 1) := dl_o42 kcX3_init (by decide +kernel)
theorem dX3_init_19 : decode cX3_init 19 = .ok (.bipush 100, 2) := dl_o16 kcX3_init 100 (by decide +kernel) (by decide +kernel)
theorem dX3_init_21 : decode cX3_init 21 = .ok (.newarray .int, 2) := by decide +kernel
theorem dX3_init_23 : decode cX3_init 23 = .ok (.putfield 20, 3) := dl_o181 kcX3_init (by decide +kernel)
theorem dX3_init_26 : decode cX3_init 26 = .ok (.aload_n 0, 1) := dl_o42 kcX3_init (by decide +kernel)
theorem dX3_init_27 : decode cX3_init 27 = .ok (.sipush 200, 3) := dl_o17 kcX3_init 200 (by decide +kernel) (by decide +kernel)
theorem dX3_init_30 : decode cX3_init 30 = .ok (.newarray .int, 2) := by decide +kernel
theorem dX3_init_32 : decode cX3_init 32 = .ok (.putfield 24, 3) := dl_o181 kcX3_init (by decide +kernel)
theorem dX3_init_35 : decode cX3_init 35 = .ok (.aload_n 0, 1) := dl_o42 kcX3_init (by decide +kernel)
theorem dX3_init_36 : decode cX3_init 36 = .ok (.aload_n 1, 1) := dl_o43 kcX3_init (by decide +kernel)
theorem dX3_init_37 : decode cX3_init 37 = .ok (.putfield 27, 3) := dl_o181 kcX3_init (by decide +kernel)
theorem dX3_init_40 : decode cX3_init 40 = .ok (.return_, 1) := dl_o177 kcX3_init (by decide +kernel)
def e_2 (M : sx_M) : sx_M := sx_sR (sx_sR (sx_nw (sx_sR (sx_nw (sx_sR (e_1 (sx_nw (M))) 16 1 (some 17))) 16 2 (some 27))) 16 3 (some 28)) 16 0 (some 2)
theorem e_2_R {M M2 : sx_M} (h : rq M M2) : rq (e_2 M) (e_2 M2) := rq_sR (rq_sR (rq_nw (rq_sR (rq_nw (rq_sR (e_1_R (rq_nw (h))))))))
set_option maxRecDepth 20000 in
theorem e_2_n {M : sx_M} (h : M.1 = 17) : (e_2 M).1 = 29 := by
  show M.1 + 12 = 29
  rw [h]
set_option maxRecDepth 20000 in
set_option maxHeartbeats 4000000 in
theorem ct_2 {g : sx_G} (hG : sx_Go g) {P : Option Value → sx_M → Prop} {M : sx_M} (nM : M.1 = 17) (hP : P none (e_2 M)) : sx_J g qX3_init 2 0 [(0, .ref 16), (1, .ref 2)] [] M 12 936 P := by
  refine sx_aload_n (pc := 0) dX3_init_0 sx_m0 ?_
  refine sx_objInit (pc := 1) dX3_init_1 l_X3_3 oi_i oi_c (by decide) (Nat.le_of_ble_eq_true rfl) ?_
  refine sx_aload_n (pc := 4) dX3_init_4 sx_m0 ?_
  refine sc_new (pc := 5) (bc := 11) (bs := 924) nM dX3_init_5 kc_8 c_X3_9 ((hG 17 (by decide)).trans lay_17) (by decide) (fun M1 hM1 nM1 => ?_) (by decide +kernel) (by decide +kernel)
  refine sx_dup (pc := 8) dX3_init_8 rfl ?_
  refine sx_bipush (pc := 9) (v := 100) dX3_init_9 (by decide +kernel) ?_
  refine sx_iconst (pc := 11) (v := 0) dX3_init_11 (by decide +kernel) ?_
  refine sc_callI (pc := 12) (bc := 2) (bs := 300) (y := qX8_init) (as := [.int 100, .int 0]) (e := e_1 M1) dX3_init_12 l_X3_11 y0X8_init rfl rfl yiX8_init rfl (Nat.le_of_ble_eq_true rfl) (by decide) (Nat.le_of_ble_eq_true rfl) rfl rfl (ct_1 hG nM1 ⟨rfl, rfl⟩) (fun M2 hM2 => ?_) (by decide +kernel) (by decide +kernel)
  have nM2 : M2.1 = 27 := by rw [hM2]; exact e_1_n nM1
  refine sx_putFO (pc := 15) dX3_init_15 f_3_14 rfl kr_3 ((hG 16 (by decide)).trans lay_16) (by rw [nM2]; decide) rfl ?_
  refine sx_ren (fun M3 hM3 => ?_)
  have nM3 : M3.1 = 27 := by rw [hM3]; exact nM2
  refine sx_aload_n (pc := 18) dX3_init_18 sx_m0 ?_
  refine sx_bipush (pc := 19) (v := 100) dX3_init_19 (by decide +kernel) ?_
  refine sc_newa (pc := 21) (bc := 1) (bs := 200) (t := 0) (N := 100) nM3 dX3_init_21 rfl (by decide) ac_int ((hG 27 (by decide)).trans lay_27) (by decide +kernel) (by decide +kernel) (by decide +kernel) (by decide +kernel) (fun M4 hM4 nM4 => ?_) (by decide +kernel) (by decide +kernel)
  refine sx_putFA (pc := 23) dX3_init_23 f_3_20 rfl kr_3 ((hG 16 (by decide)).trans lay_16) (by rw [nM4]; decide) rfl ?_
  refine sx_ren (fun M5 hM5 => ?_)
  have nM5 : M5.1 = 28 := by rw [hM5]; exact nM4
  refine sx_aload_n (pc := 26) dX3_init_26 sx_m0 ?_
  refine sx_sipush (pc := 27) (v := 200) dX3_init_27 (by decide +kernel) ?_
  refine sc_newa (pc := 30) (bc := 0) (bs := 0) (t := 0) (N := 200) nM5 dX3_init_30 rfl (by decide) ac_int ((hG 28 (by decide)).trans lay_28) (by decide +kernel) (by decide +kernel) (by decide +kernel) (by decide +kernel) (fun M6 hM6 nM6 => ?_) (by decide +kernel) (by decide +kernel)
  refine sx_putFA (pc := 32) dX3_init_32 f_3_24 rfl kr_3 ((hG 16 (by decide)).trans lay_16) (by rw [nM6]; decide) rfl ?_
  refine sx_ren (fun M7 hM7 => ?_)
  have nM7 : M7.1 = 29 := by rw [hM7]; exact nM6
  refine sx_aload_n (pc := 35) dX3_init_35 sx_m0 ?_
  refine sx_aload_n (pc := 36) dX3_init_36 sx_m1 ?_
  refine sx_putFO (pc := 37) dX3_init_37 f_3_27 rfl kr_3 ((hG 16 (by decide)).trans lay_16) (by rw [nM7]; decide) rfl ?_
  refine sx_ren (fun M8 hM8 => ?_)
  have nM8 : M8.1 = 29 := by rw [hM8]; exact nM7
  exact sx_vret (pc := 40) dX3_init_40 rfl (by subst hM1; subst hM2; subst hM3; subst hM4; subst hM5; subst hM6; subst hM7; subst hM8; exact hP)
def ncX4_init : Nat := 919340836174897284496729800622257962
theorem kcX4_init : CK cX4_init ncX4_init 15 := ⟨by decide +kernel, by decide +kernel⟩
theorem dX4_init_0 : decode cX4_init 0 = .ok (.aload_n 0, 1) := dl_o42 kcX4_init (by decide +kernel)
theorem dX4_init_1 : decode cX4_init 1 = .ok (.invokespecial 3, 3) := dl_o183 kcX4_init (by decide +kernel)
theorem dX4_init_4 : decode cX4_init 4 = .ok (.aload_n 0, 1) := dl_o42 kcX4_init (by decide +kernel)
theorem dX4_init_5 : decode cX4_init 5 = .ok (.aload_n 1, 1) := dl_o43 kcX4_init (by decide +kernel)
theorem dX4_init_6 : decode cX4_init 6 = .ok (.putfield 9, 3) := dl_o181 kcX4_init (by decide +kernel)
theorem dX4_init_9 : decode cX4_init 9 = .ok (.aload_n 0, 1) := dl_o42 kcX4_init (by decide +kernel)
theorem dX4_init_10 : decode cX4_init 10 = .ok (.aload_n 2, 1) := dl_o44 kcX4_init (by decide +kernel)
theorem dX4_init_11 : decode cX4_init 11 = .ok (.putfield 15, 3) := dl_o181 kcX4_init (by decide +kernel)
theorem dX4_init_14 : decode cX4_init 14 = .ok (.return_, 1) := dl_o177 kcX4_init (by decide +kernel)
def e_3 (M : sx_M) : sx_M := sx_sR (sx_sR (M) 29 0 (some 2)) 29 1 (some 16)
theorem e_3_R {M M2 : sx_M} (h : rq M M2) : rq (e_3 M) (e_3 M2) := rq_sR (rq_sR (h))
theorem e_3_n {M : sx_M} (h : M.1 = 30) : (e_3 M).1 = 30 := h
set_option maxRecDepth 20000 in
set_option maxHeartbeats 4000000 in
theorem ct_3 {g : sx_G} (hG : sx_Go g) {P : Option Value → sx_M → Prop} {M : sx_M} (nM : M.1 = 30) (hP : P none (e_3 M)) : sx_J g qX4_init 1 0 [(0, .ref 29), (1, .ref 2), (2, .ref 16)] [] M 0 0 P := by
  refine sx_aload_n (pc := 0) dX4_init_0 sx_m0 ?_
  refine sx_objInit (pc := 1) dX4_init_1 l_X4_3 oi_i oi_c (by decide) (Nat.le_of_ble_eq_true rfl) ?_
  refine sx_aload_n (pc := 4) dX4_init_4 sx_m0 ?_
  refine sx_aload_n (pc := 5) dX4_init_5 sx_m1 ?_
  refine sx_putFO (pc := 6) dX4_init_6 f_4_9 rfl kr_4 ((hG 29 (by decide)).trans lay_29) (by rw [nM]; decide) rfl ?_
  refine sx_ren (fun M1 hM1 => ?_)
  have nM1 : M1.1 = 30 := by rw [hM1]; exact nM
  refine sx_aload_n (pc := 9) dX4_init_9 sx_m0 ?_
  refine sx_aload_n (pc := 10) dX4_init_10 sx_m2 ?_
  refine sx_putFO (pc := 11) dX4_init_11 f_4_15 rfl kr_4 ((hG 29 (by decide)).trans lay_29) (by rw [nM1]; decide) rfl ?_
  refine sx_ren (fun M2 hM2 => ?_)
  have nM2 : M2.1 = 30 := by rw [hM2]; exact nM1
  exact sx_vret (pc := 14) dX4_init_14 rfl (by subst hM1; subst hM2; exact hP)
def e_4 (M : sx_M) : sx_M := sx_sI (sx_sR (sx_nw (sx_sR (sx_nw (sx_sR (sx_nw (sx_sR (sx_nw (sx_sR (sx_nw (sx_sR (sx_nw (sx_sR (sx_nw (sx_sR (sx_nw (sx_sR (sx_nw (M)) 34 6 (some 35))) 34 7 (some 36))) 34 8 (some 37))) 34 0 (some 38))) 34 1 (some 39))) 34 2 (some 40))) 34 3 (some 41))) 34 4 (some 42))) 34 5 (some 43)) 34 11 0
theorem e_4_R {M M2 : sx_M} (h : rq M M2) : rq (e_4 M) (e_4 M2) := rq_sI (rq_sR (rq_nw (rq_sR (rq_nw (rq_sR (rq_nw (rq_sR (rq_nw (rq_sR (rq_nw (rq_sR (rq_nw (rq_sR (rq_nw (rq_sR (rq_nw (rq_sR (rq_nw (h)))))))))))))))))))
set_option maxRecDepth 20000 in
theorem e_4_n {M : sx_M} (h : M.1 = 35) : (e_4 M).1 = 44 := by
  show M.1 + 9 = 44
  rw [h]
set_option maxRecDepth 20000 in
set_option maxHeartbeats 4000000 in
theorem ct_4 {g : sx_G} (hG : sx_Go g) {P : Option Value → sx_M → Prop} {M : sx_M} (nM : M.1 = 35) (hP : P none (e_4 M)) : sx_J g qX8_init 1 0 [(0, .ref 34), (1, .int 64), (2, .int 0)] [] M 9 408 P := by
  refine sx_aload_n (pc := 0) dX8_init_0 sx_m0 ?_
  refine sx_objInit (pc := 1) dX8_init_1 l_X8_3 oi_i oi_c (by decide) (Nat.le_of_ble_eq_true rfl) ?_
  refine sx_aload_n (pc := 4) dX8_init_4 sx_m0 ?_
  refine sx_bipush (pc := 5) (v := 20) dX8_init_5 (by decide +kernel) ?_
  refine sc_newa (pc := 7) (bc := 8) (bs := 388) (t := 0) (N := 20) nM dX8_init_7 rfl (by decide) ac_int ((hG 35 (by decide)).trans lay_35) (by decide +kernel) (by decide +kernel) (by decide +kernel) (by decide +kernel) (fun M1 hM1 nM1 => ?_) (by decide +kernel) (by decide +kernel)
  refine sx_putFA (pc := 9) dX8_init_9 f_8_9 rfl kr_8 ((hG 34 (by decide)).trans lay_34) (by rw [nM1]; decide) rfl ?_
  refine sx_ren (fun M2 hM2 => ?_)
  have nM2 : M2.1 = 36 := by rw [hM2]; exact nM1
  refine sx_aload_n (pc := 12) dX8_init_12 sx_m0 ?_
  refine sx_iconst (pc := 13) (v := 2) dX8_init_13 (by decide +kernel) ?_
  refine sc_newa (pc := 14) (bc := 7) (bs := 386) (t := 0) (N := 2) nM2 dX8_init_14 rfl (by decide) ac_int ((hG 36 (by decide)).trans lay_36) (by decide +kernel) (by decide +kernel) (by decide +kernel) (by decide +kernel) (fun M3 hM3 nM3 => ?_) (by decide +kernel) (by decide +kernel)
  refine sx_putFA (pc := 16) dX8_init_16 f_8_15 rfl kr_8 ((hG 34 (by decide)).trans lay_34) (by rw [nM3]; decide) rfl ?_
  refine sx_ren (fun M4 hM4 => ?_)
  have nM4 : M4.1 = 37 := by rw [hM4]; exact nM3
  refine sx_aload_n (pc := 19) dX8_init_19 sx_m0 ?_
  refine sx_iconst (pc := 20) (v := 2) dX8_init_20 (by decide +kernel) ?_
  refine sc_newa (pc := 21) (bc := 6) (bs := 384) (t := 0) (N := 2) nM4 dX8_init_21 rfl (by decide) ac_int ((hG 37 (by decide)).trans lay_37) (by decide +kernel) (by decide +kernel) (by decide +kernel) (by decide +kernel) (fun M5 hM5 nM5 => ?_) (by decide +kernel) (by decide +kernel)
  refine sx_putFA (pc := 23) dX8_init_23 f_8_18 rfl kr_8 ((hG 34 (by decide)).trans lay_34) (by rw [nM5]; decide) rfl ?_
  refine sx_ren (fun M6 hM6 => ?_)
  have nM6 : M6.1 = 38 := by rw [hM6]; exact nM5
  refine sx_aload_n (pc := 26) dX8_init_26 sx_m0 ?_
  refine sx_iload_n (pc := 27) dX8_init_27 sx_m1 ?_
  refine sx_iload_n (pc := 28) dX8_init_28 sx_m2 ?_
  refine sx_iadd (pc := 29) dX8_init_29 ?_
  refine sx_topI (x := 64) (by decide) ?_
  refine sc_newa (pc := 30) (bc := 5) (bs := 320) (t := 0) (N := 64) nM6 dX8_init_30 rfl (by decide) ac_int ((hG 38 (by decide)).trans lay_38) (by decide +kernel) (by decide +kernel) (by decide +kernel) (by decide +kernel) (fun M7 hM7 nM7 => ?_) (by decide +kernel) (by decide +kernel)
  refine sx_putFA (pc := 32) dX8_init_32 f_8_21 rfl kr_8 ((hG 34 (by decide)).trans lay_34) (by rw [nM7]; decide) rfl ?_
  refine sx_ren (fun M8 hM8 => ?_)
  have nM8 : M8.1 = 39 := by rw [hM8]; exact nM7
  refine sx_aload_n (pc := 35) dX8_init_35 sx_m0 ?_
  refine sx_iload_n (pc := 36) dX8_init_36 sx_m1 ?_
  refine sx_iload_n (pc := 37) dX8_init_37 sx_m2 ?_
  refine sx_iadd (pc := 38) dX8_init_38 ?_
  refine sx_topI (x := 64) (by decide) ?_
  refine sc_newa (pc := 39) (bc := 4) (bs := 256) (t := 0) (N := 64) nM8 dX8_init_39 rfl (by decide) ac_int ((hG 39 (by decide)).trans lay_39) (by decide +kernel) (by decide +kernel) (by decide +kernel) (by decide +kernel) (fun M9 hM9 nM9 => ?_) (by decide +kernel) (by decide +kernel)
  refine sx_putFA (pc := 41) dX8_init_41 f_8_24 rfl kr_8 ((hG 34 (by decide)).trans lay_34) (by rw [nM9]; decide) rfl ?_
  refine sx_ren (fun M10 hM10 => ?_)
  have nM10 : M10.1 = 40 := by rw [hM10]; exact nM9
  refine sx_aload_n (pc := 44) dX8_init_44 sx_m0 ?_
  refine sx_iload_n (pc := 45) dX8_init_45 sx_m1 ?_
  refine sx_iload_n (pc := 46) dX8_init_46 sx_m2 ?_
  refine sx_iadd (pc := 47) dX8_init_47 ?_
  refine sx_topI (x := 64) (by decide) ?_
  refine sc_newa (pc := 48) (bc := 3) (bs := 192) (t := 0) (N := 64) nM10 dX8_init_48 rfl (by decide) ac_int ((hG 40 (by decide)).trans lay_40) (by decide +kernel) (by decide +kernel) (by decide +kernel) (by decide +kernel) (fun M11 hM11 nM11 => ?_) (by decide +kernel) (by decide +kernel)
  refine sx_putFA (pc := 50) dX8_init_50 f_8_27 rfl kr_8 ((hG 34 (by decide)).trans lay_34) (by rw [nM11]; decide) rfl ?_
  refine sx_ren (fun M12 hM12 => ?_)
  have nM12 : M12.1 = 41 := by rw [hM12]; exact nM11
  refine sx_aload_n (pc := 53) dX8_init_53 sx_m0 ?_
  refine sx_iload_n (pc := 54) dX8_init_54 sx_m1 ?_
  refine sx_iload_n (pc := 55) dX8_init_55 sx_m2 ?_
  refine sx_iadd (pc := 56) dX8_init_56 ?_
  refine sx_topI (x := 64) (by decide) ?_
  refine sc_newa (pc := 57) (bc := 2) (bs := 128) (t := 0) (N := 64) nM12 dX8_init_57 rfl (by decide) ac_int ((hG 41 (by decide)).trans lay_41) (by decide +kernel) (by decide +kernel) (by decide +kernel) (by decide +kernel) (fun M13 hM13 nM13 => ?_) (by decide +kernel) (by decide +kernel)
  refine sx_putFA (pc := 59) dX8_init_59 f_8_30 rfl kr_8 ((hG 34 (by decide)).trans lay_34) (by rw [nM13]; decide) rfl ?_
  refine sx_ren (fun M14 hM14 => ?_)
  have nM14 : M14.1 = 42 := by rw [hM14]; exact nM13
  refine sx_aload_n (pc := 62) dX8_init_62 sx_m0 ?_
  refine sx_iload_n (pc := 63) dX8_init_63 sx_m1 ?_
  refine sx_iload_n (pc := 64) dX8_init_64 sx_m2 ?_
  refine sx_iadd (pc := 65) dX8_init_65 ?_
  refine sx_topI (x := 64) (by decide) ?_
  refine sc_newa (pc := 66) (bc := 1) (bs := 64) (t := 0) (N := 64) nM14 dX8_init_66 rfl (by decide) ac_int ((hG 42 (by decide)).trans lay_42) (by decide +kernel) (by decide +kernel) (by decide +kernel) (by decide +kernel) (fun M15 hM15 nM15 => ?_) (by decide +kernel) (by decide +kernel)
  refine sx_putFA (pc := 68) dX8_init_68 f_8_33 rfl kr_8 ((hG 34 (by decide)).trans lay_34) (by rw [nM15]; decide) rfl ?_
  refine sx_ren (fun M16 hM16 => ?_)
  have nM16 : M16.1 = 43 := by rw [hM16]; exact nM15
  refine sx_aload_n (pc := 71) dX8_init_71 sx_m0 ?_
  refine sx_iload_n (pc := 72) dX8_init_72 sx_m1 ?_
  refine sx_iload_n (pc := 73) dX8_init_73 sx_m2 ?_
  refine sx_iadd (pc := 74) dX8_init_74 ?_
  refine sx_topI (x := 64) (by decide) ?_
  refine sc_newa (pc := 75) (bc := 0) (bs := 0) (t := 0) (N := 64) nM16 dX8_init_75 rfl (by decide) ac_int ((hG 43 (by decide)).trans lay_43) (by decide +kernel) (by decide +kernel) (by decide +kernel) (by decide +kernel) (fun M17 hM17 nM17 => ?_) (by decide +kernel) (by decide +kernel)
  refine sx_putFA (pc := 77) dX8_init_77 f_8_36 rfl kr_8 ((hG 34 (by decide)).trans lay_34) (by rw [nM17]; decide) rfl ?_
  refine sx_ren (fun M18 hM18 => ?_)
  have nM18 : M18.1 = 44 := by rw [hM18]; exact nM17
  refine sx_aload_n (pc := 80) dX8_init_80 sx_m0 ?_
  refine sx_iload_n (pc := 81) dX8_init_81 sx_m2 ?_
  refine sx_putI (pc := 82) dX8_init_82 f_8_39 ((hG 34 (by decide)).trans lay_34) (by rw [nM18]; decide) rfl ?_
  refine sx_ren (fun M19 hM19 => ?_)
  have nM19 : M19.1 = 44 := by rw [hM19]; exact nM18
  exact sx_vret (pc := 85) dX8_init_85 rfl (by subst hM1; subst hM2; subst hM3; subst hM4; subst hM5; subst hM6; subst hM7; subst hM8; subst hM9; subst hM10; subst hM11; subst hM12; subst hM13; subst hM14; subst hM15; subst hM16; subst hM17; subst hM18; subst hM19; exact hP)
def ncX7_init : Nat := 415967282327870964361918526606318030885114325502531702950384035771457085758032251127143365030155534978710026026
theorem kcX7_init : CK cX7_init ncX7_init 46 := ⟨by decide +kernel, by decide +kernel⟩
theorem dX7_init_0 : decode cX7_init 0 = .ok (.aload_n 0, 1) := dl_o42 kcX7_init (by decide +kernel)
theorem dX7_init_1 : decode cX7_init 1 = .ok (.invokespecial 3, 3) := dl_o183 kcX7_init (by decide +kernel)
theorem dX7_init_4 : decode cX7_init 4 = .ok (.aload_n 0, 1) := dl_o42 kcX7_init (by decide +kernel)
theorem dX7_init_5 : decode cX7_init 5 = .ok (.sipush 256, 3) := dl_o17 kcX7_init 256 (by decide +kernel) (by decide +kernel)
theorem dX7_init_8 : decode cX7_init 8 = .ok (.newarray .int, 2) := by decide +kernel
theorem dX7_init_10 : decode cX7_init 10 = .ok (.putfield 9, 3) := dl_o181 kcX7_init (by decide +kernel)
theorem dX7_init_13 : decode cX7_init 13 = .ok (.aload_n 0, 1) := dl_o42 kcX7_init (by decide +kernel)
theorem dX7_init_14 : decode cX7_init 14 = .ok (.bipush 64, 2) := dl_o16 kcX7_init 64 (by decide +kernel) (by decide +kernel)
theorem dX7_init_16 : decode cX7_init 16 = .ok (.newarray .int, 2) := by decide +kernel
theorem dX7_init_18 : decode cX7_init 18 = .ok (.putfield 15, 3) := dl_o181 kcX7_init (by decide +kernel)
theorem dX7_init_21 : decode cX7_init 21 = .ok (.aload_n 0, 1) := dl_o42 kcX7_init (by decide +kernel)
theorem dX7_init_22 : decode cX7_init 22 = .ok (.new 18, 3) := by decide +kernel
theorem dX7_init_25 : decode cX7_init 25 = .ok (.dup, 1) := dl_o89 kcX7_init (by decide +kernel)
theorem dX7_init_26 : decode cX7_init 26 = .ok (.bipush 64, 2) := dl_o16 kcX7_init 64 (by decide +kernel) (by decide +kernel)
theorem dX7_init_28 : decode cX7_init 28 = .ok (.iconst 0, 1) := dl_o3 kcX7_init (by decide +kernel)
theorem dX7_init_29 : decode cX7_init 29 = .ok (.invokespecial 20, 3) := dl_o183 kcX7_init (by decide +kernel)
theorem dX7_init_32 : decode cX7_init 32 = .ok (.putfield 23, 3) := dl_o181 kcX7_init (by decide +kernel)
theorem dX7_init_35 : decode cX7_init 35 = .ok (.aload_n 0, 1) := dl_o42 kcX7_init (by decide +kernel)
theorem dX7_init_36 : decode cX7_init 36 = .ok (.getstatic 27, 3) := dl_o178 kcX7_init (by decide +kernel)
theorem dX7_init_39 : decode cX7_init 39 = .ok (.arraylength, 1) := dl_o190 kcX7_init (by decide +kernel)
theorem dX7_init_40 : decode cX7_init 40 = .ok (.newarray .int, 2) := by decide +kernel
theorem dX7_init_42 : decode cX7_init 42 = .ok (.putfield 30, 3) := dl_o181 kcX7_init (by decide +kernel)
theorem dX7_init_45 : decode cX7_init 45 = .ok (.return_, 1) := dl_o177 kcX7_init (by decide +kernel)
def e_5 (M : sx_M) : sx_M := sx_sR (sx_nw (sx_sR (e_4 (sx_nw (sx_sR (sx_nw (sx_sR (sx_nw (M)) 31 0 (some 32))) 31 2 (some 33)))) 31 4 (some 34))) 31 5 (some 44)
theorem e_5_R {M M2 : sx_M} (h : rq M M2) : rq (e_5 M) (e_5 M2) := rq_sR (rq_nw (rq_sR (e_4_R (rq_nw (rq_sR (rq_nw (rq_sR (rq_nw (h)))))))))
set_option maxRecDepth 20000 in
theorem e_5_n {M : sx_M} (h : M.1 = 32) : (e_5 M).1 = 45 := by
  show M.1 + 13 = 45
  rw [h]
set_option maxRecDepth 20000 in
set_option maxHeartbeats 4000000 in
theorem ct_5 {g : sx_G} (hG : sx_Go g) {P : Option Value → sx_M → Prop} {M : sx_M} (nM : M.1 = 32) (hP : P none (e_5 M)) : sx_J g qX7_init 2 0 [(0, .ref 31)] [] M 13 749 P := by
  refine sx_aload_n (pc := 0) dX7_init_0 sx_m0 ?_
  refine sx_objInit (pc := 1) dX7_init_1 l_X7_3 oi_i oi_c (by decide) (Nat.le_of_ble_eq_true rfl) ?_
  refine sx_aload_n (pc := 4) dX7_init_4 sx_m0 ?_
  refine sx_sipush (pc := 5) (v := 256) dX7_init_5 (by decide +kernel) ?_
  refine sc_newa (pc := 8) (bc := 12) (bs := 493) (t := 0) (N := 256) nM dX7_init_8 rfl (by decide) ac_int ((hG 32 (by decide)).trans lay_32) (by decide +kernel) (by decide +kernel) (by decide +kernel) (by decide +kernel) (fun M1 hM1 nM1 => ?_) (by decide +kernel) (by decide +kernel)
  refine sx_putFA (pc := 10) dX7_init_10 f_7_9 rfl kr_7 ((hG 31 (by decide)).trans lay_31) (by rw [nM1]; decide) rfl ?_
  refine sx_ren (fun M2 hM2 => ?_)
  have nM2 : M2.1 = 33 := by rw [hM2]; exact nM1
  refine sx_aload_n (pc := 13) dX7_init_13 sx_m0 ?_
  refine sx_bipush (pc := 14) (v := 64) dX7_init_14 (by decide +kernel) ?_
  refine sc_newa (pc := 16) (bc := 11) (bs := 429) (t := 0) (N := 64) nM2 dX7_init_16 rfl (by decide) ac_int ((hG 33 (by decide)).trans lay_33) (by decide +kernel) (by decide +kernel) (by decide +kernel) (by decide +kernel) (fun M3 hM3 nM3 => ?_) (by decide +kernel) (by decide +kernel)
  refine sx_putFA (pc := 18) dX7_init_18 f_7_15 rfl kr_7 ((hG 31 (by decide)).trans lay_31) (by rw [nM3]; decide) rfl ?_
  refine sx_ren (fun M4 hM4 => ?_)
  have nM4 : M4.1 = 34 := by rw [hM4]; exact nM3
  refine sx_aload_n (pc := 21) dX7_init_21 sx_m0 ?_
  refine sc_new (pc := 22) (bc := 10) (bs := 417) nM4 dX7_init_22 kc_8 c_X7_18 ((hG 34 (by decide)).trans lay_34) (by decide) (fun M5 hM5 nM5 => ?_) (by decide +kernel) (by decide +kernel)
  refine sx_dup (pc := 25) dX7_init_25 rfl ?_
  refine sx_bipush (pc := 26) (v := 64) dX7_init_26 (by decide +kernel) ?_
  refine sx_iconst (pc := 28) (v := 0) dX7_init_28 (by decide +kernel) ?_
  refine sc_callI (pc := 29) (bc := 1) (bs := 9) (y := qX8_init) (as := [.int 64, .int 0]) (e := e_4 M5) dX7_init_29 l_X7_20 y0X8_init rfl rfl yiX8_init rfl (Nat.le_of_ble_eq_true rfl) (by decide) (Nat.le_of_ble_eq_true rfl) rfl rfl (ct_4 hG nM5 ⟨rfl, rfl⟩) (fun M6 hM6 => ?_) (by decide +kernel) (by decide +kernel)
  have nM6 : M6.1 = 44 := by rw [hM6]; exact e_4_n nM5
  refine sx_putFO (pc := 32) dX7_init_32 f_7_23 rfl kr_7 ((hG 31 (by decide)).trans lay_31) (by rw [nM6]; decide) rfl ?_
  refine sx_ren (fun M7 hM7 => ?_)
  have nM7 : M7.1 = 44 := by rw [hM7]; exact nM6
  refine sx_aload_n (pc := 35) dX7_init_35 sx_m0 ?_
  refine sx_getSN (pc := 36) (j := 2) dX7_init_36 rfl n_X7_27 ?_
  refine sx_xlen (pc := 39) dX7_init_39 ((hG 1003 (by decide)).trans lay_1003) ?_
  refine sx_topI (x := 9) (by decide) ?_
  refine sc_newa (pc := 40) (bc := 0) (bs := 0) (t := 0) (N := 9) nM7 dX7_init_40 rfl (by decide) ac_int ((hG 44 (by decide)).trans lay_44) (by decide +kernel) (by decide +kernel) (by decide +kernel) (by decide +kernel) (fun M8 hM8 nM8 => ?_) (by decide +kernel) (by decide +kernel)
  refine sx_putFA (pc := 42) dX7_init_42 f_7_30 rfl kr_7 ((hG 31 (by decide)).trans lay_31) (by rw [nM8]; decide) rfl ?_
  refine sx_ren (fun M9 hM9 => ?_)
  have nM9 : M9.1 = 45 := by rw [hM9]; exact nM8
  exact sx_vret (pc := 45) dX7_init_45 rfl (by subst hM1; subst hM2; subst hM3; subst hM4; subst hM5; subst hM6; subst hM7; subst hM8; subst hM9; exact hP)
def e_6 (M : sx_M) : sx_M := sx_sI (sx_sR (sx_nw (sx_sR (sx_nw (sx_sR (sx_nw (sx_sR (sx_nw (sx_sR (sx_nw (sx_sR (sx_nw (sx_sR (sx_nw (sx_sR (sx_nw (sx_sR (sx_nw (M)) 48 6 (some 49))) 48 7 (some 50))) 48 8 (some 51))) 48 0 (some 52))) 48 1 (some 53))) 48 2 (some 54))) 48 3 (some 55))) 48 4 (some 56))) 48 5 (some 57)) 48 11 0
theorem e_6_R {M M2 : sx_M} (h : rq M M2) : rq (e_6 M) (e_6 M2) := rq_sI (rq_sR (rq_nw (rq_sR (rq_nw (rq_sR (rq_nw (rq_sR (rq_nw (rq_sR (rq_nw (rq_sR (rq_nw (rq_sR (rq_nw (rq_sR (rq_nw (rq_sR (rq_nw (h)))))))))))))))))))
set_option maxRecDepth 20000 in
theorem e_6_n {M : sx_M} (h : M.1 = 49) : (e_6 M).1 = 58 := by
  show M.1 + 9 = 58
  rw [h]
set_option maxRecDepth 20000 in
set_option maxHeartbeats 4000000 in
theorem ct_6 {g : sx_G} (hG : sx_Go g) {P : Option Value → sx_M → Prop} {M : sx_M} (nM : M.1 = 49) (hP : P none (e_6 M)) : sx_J g qX8_init 1 0 [(0, .ref 48), (1, .int 64), (2, .int 0)] [] M 9 408 P := by
  refine sx_aload_n (pc := 0) dX8_init_0 sx_m0 ?_
  refine sx_objInit (pc := 1) dX8_init_1 l_X8_3 oi_i oi_c (by decide) (Nat.le_of_ble_eq_true rfl) ?_
  refine sx_aload_n (pc := 4) dX8_init_4 sx_m0 ?_
  refine sx_bipush (pc := 5) (v := 20) dX8_init_5 (by decide +kernel) ?_
  refine sc_newa (pc := 7) (bc := 8) (bs := 388) (t := 0) (N := 20) nM dX8_init_7 rfl (by decide) ac_int ((hG 49 (by decide)).trans lay_49) (by decide +kernel) (by decide +kernel) (by decide +kernel) (by decide +kernel) (fun M1 hM1 nM1 => ?_) (by decide +kernel) (by decide +kernel)
  refine sx_putFA (pc := 9) dX8_init_9 f_8_9 rfl kr_8 ((hG 48 (by decide)).trans lay_48) (by rw [nM1]; decide) rfl ?_
  refine sx_ren (fun M2 hM2 => ?_)
  have nM2 : M2.1 = 50 := by rw [hM2]; exact nM1
  refine sx_aload_n (pc := 12) dX8_init_12 sx_m0 ?_
  refine sx_iconst (pc := 13) (v := 2) dX8_init_13 (by decide +kernel) ?_
  refine sc_newa (pc := 14) (bc := 7) (bs := 386) (t := 0) (N := 2) nM2 dX8_init_14 rfl (by decide) ac_int ((hG 50 (by decide)).trans lay_50) (by decide +kernel) (by decide +kernel) (by decide +kernel) (by decide +kernel) (fun M3 hM3 nM3 => ?_) (by decide +kernel) (by decide +kernel)
  refine sx_putFA (pc := 16) dX8_init_16 f_8_15 rfl kr_8 ((hG 48 (by decide)).trans lay_48) (by rw [nM3]; decide) rfl ?_
  refine sx_ren (fun M4 hM4 => ?_)
  have nM4 : M4.1 = 51 := by rw [hM4]; exact nM3
  refine sx_aload_n (pc := 19) dX8_init_19 sx_m0 ?_
  refine sx_iconst (pc := 20) (v := 2) dX8_init_20 (by decide +kernel) ?_
  refine sc_newa (pc := 21) (bc := 6) (bs := 384) (t := 0) (N := 2) nM4 dX8_init_21 rfl (by decide) ac_int ((hG 51 (by decide)).trans lay_51) (by decide +kernel) (by decide +kernel) (by decide +kernel) (by decide +kernel) (fun M5 hM5 nM5 => ?_) (by decide +kernel) (by decide +kernel)
  refine sx_putFA (pc := 23) dX8_init_23 f_8_18 rfl kr_8 ((hG 48 (by decide)).trans lay_48) (by rw [nM5]; decide) rfl ?_
  refine sx_ren (fun M6 hM6 => ?_)
  have nM6 : M6.1 = 52 := by rw [hM6]; exact nM5
  refine sx_aload_n (pc := 26) dX8_init_26 sx_m0 ?_
  refine sx_iload_n (pc := 27) dX8_init_27 sx_m1 ?_
  refine sx_iload_n (pc := 28) dX8_init_28 sx_m2 ?_
  refine sx_iadd (pc := 29) dX8_init_29 ?_
  refine sx_topI (x := 64) (by decide) ?_
  refine sc_newa (pc := 30) (bc := 5) (bs := 320) (t := 0) (N := 64) nM6 dX8_init_30 rfl (by decide) ac_int ((hG 52 (by decide)).trans lay_52) (by decide +kernel) (by decide +kernel) (by decide +kernel) (by decide +kernel) (fun M7 hM7 nM7 => ?_) (by decide +kernel) (by decide +kernel)
  refine sx_putFA (pc := 32) dX8_init_32 f_8_21 rfl kr_8 ((hG 48 (by decide)).trans lay_48) (by rw [nM7]; decide) rfl ?_
  refine sx_ren (fun M8 hM8 => ?_)
  have nM8 : M8.1 = 53 := by rw [hM8]; exact nM7
  refine sx_aload_n (pc := 35) dX8_init_35 sx_m0 ?_
  refine sx_iload_n (pc := 36) dX8_init_36 sx_m1 ?_
  refine sx_iload_n (pc := 37) dX8_init_37 sx_m2 ?_
  refine sx_iadd (pc := 38) dX8_init_38 ?_
  refine sx_topI (x := 64) (by decide) ?_
  refine sc_newa (pc := 39) (bc := 4) (bs := 256) (t := 0) (N := 64) nM8 dX8_init_39 rfl (by decide) ac_int ((hG 53 (by decide)).trans lay_53) (by decide +kernel) (by decide +kernel) (by decide +kernel) (by decide +kernel) (fun M9 hM9 nM9 => ?_) (by decide +kernel) (by decide +kernel)
  refine sx_putFA (pc := 41) dX8_init_41 f_8_24 rfl kr_8 ((hG 48 (by decide)).trans lay_48) (by rw [nM9]; decide) rfl ?_
  refine sx_ren (fun M10 hM10 => ?_)
  have nM10 : M10.1 = 54 := by rw [hM10]; exact nM9
  refine sx_aload_n (pc := 44) dX8_init_44 sx_m0 ?_
  refine sx_iload_n (pc := 45) dX8_init_45 sx_m1 ?_
  refine sx_iload_n (pc := 46) dX8_init_46 sx_m2 ?_
  refine sx_iadd (pc := 47) dX8_init_47 ?_
  refine sx_topI (x := 64) (by decide) ?_
  refine sc_newa (pc := 48) (bc := 3) (bs := 192) (t := 0) (N := 64) nM10 dX8_init_48 rfl (by decide) ac_int ((hG 54 (by decide)).trans lay_54) (by decide +kernel) (by decide +kernel) (by decide +kernel) (by decide +kernel) (fun M11 hM11 nM11 => ?_) (by decide +kernel) (by decide +kernel)
  refine sx_putFA (pc := 50) dX8_init_50 f_8_27 rfl kr_8 ((hG 48 (by decide)).trans lay_48) (by rw [nM11]; decide) rfl ?_
  refine sx_ren (fun M12 hM12 => ?_)
  have nM12 : M12.1 = 55 := by rw [hM12]; exact nM11
  refine sx_aload_n (pc := 53) dX8_init_53 sx_m0 ?_
  refine sx_iload_n (pc := 54) dX8_init_54 sx_m1 ?_
  refine sx_iload_n (pc := 55) dX8_init_55 sx_m2 ?_
  refine sx_iadd (pc := 56) dX8_init_56 ?_
  refine sx_topI (x := 64) (by decide) ?_
  refine sc_newa (pc := 57) (bc := 2) (bs := 128) (t := 0) (N := 64) nM12 dX8_init_57 rfl (by decide) ac_int ((hG 55 (by decide)).trans lay_55) (by decide +kernel) (by decide +kernel) (by decide +kernel) (by decide +kernel) (fun M13 hM13 nM13 => ?_) (by decide +kernel) (by decide +kernel)
  refine sx_putFA (pc := 59) dX8_init_59 f_8_30 rfl kr_8 ((hG 48 (by decide)).trans lay_48) (by rw [nM13]; decide) rfl ?_
  refine sx_ren (fun M14 hM14 => ?_)
  have nM14 : M14.1 = 56 := by rw [hM14]; exact nM13
  refine sx_aload_n (pc := 62) dX8_init_62 sx_m0 ?_
  refine sx_iload_n (pc := 63) dX8_init_63 sx_m1 ?_
  refine sx_iload_n (pc := 64) dX8_init_64 sx_m2 ?_
  refine sx_iadd (pc := 65) dX8_init_65 ?_
  refine sx_topI (x := 64) (by decide) ?_
  refine sc_newa (pc := 66) (bc := 1) (bs := 64) (t := 0) (N := 64) nM14 dX8_init_66 rfl (by decide) ac_int ((hG 56 (by decide)).trans lay_56) (by decide +kernel) (by decide +kernel) (by decide +kernel) (by decide +kernel) (fun M15 hM15 nM15 => ?_) (by decide +kernel) (by decide +kernel)
  refine sx_putFA (pc := 68) dX8_init_68 f_8_33 rfl kr_8 ((hG 48 (by decide)).trans lay_48) (by rw [nM15]; decide) rfl ?_
  refine sx_ren (fun M16 hM16 => ?_)
  have nM16 : M16.1 = 57 := by rw [hM16]; exact nM15
  refine sx_aload_n (pc := 71) dX8_init_71 sx_m0 ?_
  refine sx_iload_n (pc := 72) dX8_init_72 sx_m1 ?_
  refine sx_iload_n (pc := 73) dX8_init_73 sx_m2 ?_
  refine sx_iadd (pc := 74) dX8_init_74 ?_
  refine sx_topI (x := 64) (by decide) ?_
  refine sc_newa (pc := 75) (bc := 0) (bs := 0) (t := 0) (N := 64) nM16 dX8_init_75 rfl (by decide) ac_int ((hG 57 (by decide)).trans lay_57) (by decide +kernel) (by decide +kernel) (by decide +kernel) (by decide +kernel) (fun M17 hM17 nM17 => ?_) (by decide +kernel) (by decide +kernel)
  refine sx_putFA (pc := 77) dX8_init_77 f_8_36 rfl kr_8 ((hG 48 (by decide)).trans lay_48) (by rw [nM17]; decide) rfl ?_
  refine sx_ren (fun M18 hM18 => ?_)
  have nM18 : M18.1 = 58 := by rw [hM18]; exact nM17
  refine sx_aload_n (pc := 80) dX8_init_80 sx_m0 ?_
  refine sx_iload_n (pc := 81) dX8_init_81 sx_m2 ?_
  refine sx_putI (pc := 82) dX8_init_82 f_8_39 ((hG 48 (by decide)).trans lay_48) (by rw [nM18]; decide) rfl ?_
  refine sx_ren (fun M19 hM19 => ?_)
  have nM19 : M19.1 = 58 := by rw [hM19]; exact nM18
  exact sx_vret (pc := 85) dX8_init_85 rfl (by subst hM1; subst hM2; subst hM3; subst hM4; subst hM5; subst hM6; subst hM7; subst hM8; subst hM9; subst hM10; subst hM11; subst hM12; subst hM13; subst hM14; subst hM15; subst hM16; subst hM17; subst hM18; subst hM19; exact hP)
def e_7 (M : sx_M) : sx_M := sx_sR (sx_nw (sx_sR (e_6 (sx_nw (sx_sR (sx_nw (sx_sR (sx_nw (M)) 45 0 (some 46))) 45 2 (some 47)))) 45 4 (some 48))) 45 5 (some 58)
theorem e_7_R {M M2 : sx_M} (h : rq M M2) : rq (e_7 M) (e_7 M2) := rq_sR (rq_nw (rq_sR (e_6_R (rq_nw (rq_sR (rq_nw (rq_sR (rq_nw (h)))))))))
set_option maxRecDepth 20000 in
theorem e_7_n {M : sx_M} (h : M.1 = 46) : (e_7 M).1 = 59 := by
  show M.1 + 13 = 59
  rw [h]
set_option maxRecDepth 20000 in
set_option maxHeartbeats 4000000 in
theorem ct_7 {g : sx_G} (hG : sx_Go g) {P : Option Value → sx_M → Prop} {M : sx_M} (nM : M.1 = 46) (hP : P none (e_7 M)) : sx_J g qX7_init 2 0 [(0, .ref 45)] [] M 13 749 P := by
  refine sx_aload_n (pc := 0) dX7_init_0 sx_m0 ?_
  refine sx_objInit (pc := 1) dX7_init_1 l_X7_3 oi_i oi_c (by decide) (Nat.le_of_ble_eq_true rfl) ?_
  refine sx_aload_n (pc := 4) dX7_init_4 sx_m0 ?_
  refine sx_sipush (pc := 5) (v := 256) dX7_init_5 (by decide +kernel) ?_
  refine sc_newa (pc := 8) (bc := 12) (bs := 493) (t := 0) (N := 256) nM dX7_init_8 rfl (by decide) ac_int ((hG 46 (by decide)).trans lay_46) (by decide +kernel) (by decide +kernel) (by decide +kernel) (by decide +kernel) (fun M1 hM1 nM1 => ?_) (by decide +kernel) (by decide +kernel)
  refine sx_putFA (pc := 10) dX7_init_10 f_7_9 rfl kr_7 ((hG 45 (by decide)).trans lay_45) (by rw [nM1]; decide) rfl ?_
  refine sx_ren (fun M2 hM2 => ?_)
  have nM2 : M2.1 = 47 := by rw [hM2]; exact nM1
  refine sx_aload_n (pc := 13) dX7_init_13 sx_m0 ?_
  refine sx_bipush (pc := 14) (v := 64) dX7_init_14 (by decide +kernel) ?_
  refine sc_newa (pc := 16) (bc := 11) (bs := 429) (t := 0) (N := 64) nM2 dX7_init_16 rfl (by decide) ac_int ((hG 47 (by decide)).trans lay_47) (by decide +kernel) (by decide +kernel) (by decide +kernel) (by decide +kernel) (fun M3 hM3 nM3 => ?_) (by decide +kernel) (by decide +kernel)
  refine sx_putFA (pc := 18) dX7_init_18 f_7_15 rfl kr_7 ((hG 45 (by decide)).trans lay_45) (by rw [nM3]; decide) rfl ?_
  refine sx_ren (fun M4 hM4 => ?_)
  have nM4 : M4.1 = 48 := by rw [hM4]; exact nM3
  refine sx_aload_n (pc := 21) dX7_init_21 sx_m0 ?_
  refine sc_new (pc := 22) (bc := 10) (bs := 417) nM4 dX7_init_22 kc_8 c_X7_18 ((hG 48 (by decide)).trans lay_48) (by decide) (fun M5 hM5 nM5 => ?_) (by decide +kernel) (by decide +kernel)
  refine sx_dup (pc := 25) dX7_init_25 rfl ?_
  refine sx_bipush (pc := 26) (v := 64) dX7_init_26 (by decide +kernel) ?_
  refine sx_iconst (pc := 28) (v := 0) dX7_init_28 (by decide +kernel) ?_
  refine sc_callI (pc := 29) (bc := 1) (bs := 9) (y := qX8_init) (as := [.int 64, .int 0]) (e := e_6 M5) dX7_init_29 l_X7_20 y0X8_init rfl rfl yiX8_init rfl (Nat.le_of_ble_eq_true rfl) (by decide) (Nat.le_of_ble_eq_true rfl) rfl rfl (ct_6 hG nM5 ⟨rfl, rfl⟩) (fun M6 hM6 => ?_) (by decide +kernel) (by decide +kernel)
  have nM6 : M6.1 = 58 := by rw [hM6]; exact e_6_n nM5
  refine sx_putFO (pc := 32) dX7_init_32 f_7_23 rfl kr_7 ((hG 45 (by decide)).trans lay_45) (by rw [nM6]; decide) rfl ?_
  refine sx_ren (fun M7 hM7 => ?_)
  have nM7 : M7.1 = 58 := by rw [hM7]; exact nM6
  refine sx_aload_n (pc := 35) dX7_init_35 sx_m0 ?_
  refine sx_getSN (pc := 36) (j := 2) dX7_init_36 rfl n_X7_27 ?_
  refine sx_xlen (pc := 39) dX7_init_39 ((hG 1003 (by decide)).trans lay_1003) ?_
  refine sx_topI (x := 9) (by decide) ?_
  refine sc_newa (pc := 40) (bc := 0) (bs := 0) (t := 0) (N := 9) nM7 dX7_init_40 rfl (by decide) ac_int ((hG 58 (by decide)).trans lay_58) (by decide +kernel) (by decide +kernel) (by decide +kernel) (by decide +kernel) (fun M8 hM8 nM8 => ?_) (by decide +kernel) (by decide +kernel)
  refine sx_putFA (pc := 42) dX7_init_42 f_7_30 rfl kr_7 ((hG 45 (by decide)).trans lay_45) (by rw [nM8]; decide) rfl ?_
  refine sx_ren (fun M9 hM9 => ?_)
  have nM9 : M9.1 = 59 := by rw [hM9]; exact nM8
  exact sx_vret (pc := 45) dX7_init_45 rfl (by subst hM1; subst hM2; subst hM3; subst hM4; subst hM5; subst hM6; subst hM7; subst hM8; subst hM9; exact hP)
def ncX10_init : Nat := 10200387867775922310423951445763933867118484349374485904852825682676317581902997657024201202789202886550749371969016968744602494635935456077020067386559179882640750378
theorem kcX10_init : CK cX10_init ncX10_init 69 := ⟨by decide +kernel, by decide +kernel⟩
theorem dX10_init_0 : decode cX10_init 0 = .ok (.aload_n 0, 1) := dl_o42 kcX10_init (by decide +kernel)
theorem dX10_init_1 : decode cX10_init 1 = .ok (.invokespecial 3, 3) := dl_o183 kcX10_init (by decide +kernel)
theorem dX10_init_4 : decode cX10_init 4 = .ok (.aload_n 0, 1) := dl_o42 kcX10_init (by decide +kernel)
theorem dX10_init_5 : decode cX10_init 5 = .ok (.bipush 100, 2) := dl_o16 kcX10_init 100 (by decide +kernel) (by decide +kernel)
theorem dX10_init_7 : decode cX10_init 7 = .ok (.newarray .int, 2) := by decide +kernel
theorem dX10_init_9 : decode cX10_init 9 = .ok (.putfield 9, 3) := dl_o181 kcX10_init (by decide +kernel)
theorem dX10_init_12 : decode cX10_init 12 = .ok (.aload_n 0, 1) := dl_o42 kcX10_init (by decide +kernel)
theorem dX10_init_13 : decode cX10_init 13 = .ok (.bipush 100, 2) := dl_o16 kcX10_init 100 (by decide +kernel) (by decide +kernel)
theorem dX10_init_15 : decode cX10_init 15 = .ok (.newarray .int, 2) := by decide +kernel
theorem dX10_init_17 : decode cX10_init 17 = .ok (.putfield 15, 3) := dl_o181 kcX10_init (by decide +kernel)
theorem dX10_init_20 : decode cX10_init 20 = .ok (.aload_n 0, 1) := dl_o42 kcX10_init (by decide +kernel)
theorem dX10_init_21 : decode cX10_init 21 = .ok (.bipush 100, 2) := dl_o16 kcX10_init 100 (by decide +kernel) (by decide +kernel)
theorem dX10_init_23 : decode cX10_init 23 = .ok (.newarray .int, 2) := by decide +kernel
theorem dX10_init_25 : decode cX10_init 25 = .ok (.putfield 18, 3) := dl_o181 kcX10_init (by decide +kernel)
theorem dX10_init_28 : decode cX10_init 28 = .ok (.aload_n 0, 1) := dl_o42 kcX10_init (by decide +kernel)
theorem dX10_init_29 : decode cX10_init 29 = .ok (.bipush 100, 2) := dl_o16 kcX10_init 100 (by decide +kernel) (by decide +kernel)
theorem dX10_init_31 : decode cX10_init 31 = .ok (.newarray .int, 2) := by decide +kernel
theorem dX10_init_33 : decode cX10_init 33 = .ok (.putfield 21, 3) := dl_o181 kcX10_init (by decide +kernel)
theorem dX10_init_36 : decode cX10_init 36 = .ok (.aload_n 0, 1) := dl_o42 kcX10_init (by decide +kernel)
theorem dX10_init_37 : decode cX10_init 37 = .ok (.bipush 100, 2) := dl_o16 kcX10_init 100 (by decide +kernel) (by decide +kernel)
theorem dX10_init_39 : decode cX10_init 39 = .ok (.newarray .int, 2) := by decide +kernel
theorem dX10_init_41 : decode cX10_init 41 = .ok (.putfield 24, 3) := dl_o181 kcX10_init (by decide +kernel)
theorem dX10_init_44 : decode cX10_init 44 = .ok (.aload_n 0, 1) := dl_o42 kcX10_init (by decide +kernel)
theorem dX10_init_45 : decode cX10_init 45 = .ok (.bipush 100, 2) := dl_o16 kcX10_init 100 (by decide +kernel) (by decide +kernel)
theorem dX10_init_47 : decode cX10_init 47 = .ok (.newarray .int, 2) := by decide +kernel
theorem dX10_init_49 : decode cX10_init 49 = .ok (.putfield 27, 3) := dl_o181 kcX10_init (by decide +kernel)
theorem dX10_init_52 : decode cX10_init 52 = .ok (.aload_n 0, 1) := dl_o42 kcX10_init (by decide +kernel)
theorem dX10_init_53 : decode cX10_init 53 = .ok (.bipush 100, 2) := dl_o16 kcX10_init 100 (by decide +kernel) (by decide +kernel)
theorem dX10_init_55 : decode cX10_init 55 = .ok (.newarray .boolean, 2) := by decide +kernel
theorem dX10_init_57 : decode cX10_init 57 = .ok (.putfield 30, 3) := dl_o181 kcX10_init (by decide +kernel)
theorem dX10_init_60 : decode cX10_init 60 = .ok (.aload_n 0, 1) := dl_o42 kcX10_init (by decide +kernel)
theorem dX10_init_61 : decode cX10_init 61 = .ok (.bipush 100, 2) := dl_o16 kcX10_init 100 (by decide +kernel) (by decide +kernel)
theorem dX10_init_63 : decode cX10_init 63 = .ok (.newarray .int, 2) := by decide +kernel
theorem dX10_init_65 : decode cX10_init 65 = .ok (.putfield 34, 3) := dl_o181 kcX10_init (by decide +kernel)
theorem dX10_init_68 : decode cX10_init 68 = .ok (.return_, 1) := dl_o177 kcX10_init (by decide +kernel)
def e_8 (M : sx_M) : sx_M := sx_sR (sx_nw (sx_sR (sx_nw (sx_sR (sx_nw (sx_sR (sx_nw (sx_sR (sx_nw (sx_sR (sx_nw (sx_sR (sx_nw (sx_sR (sx_nw (M)) 60 0 (some 61))) 60 1 (some 62))) 60 2 (some 63))) 60 3 (some 64))) 60 4 (some 65))) 60 5 (some 66))) 60 6 (some 67))) 60 8 (some 68)
theorem e_8_R {M M2 : sx_M} (h : rq M M2) : rq (e_8 M) (e_8 M2) := rq_sR (rq_nw (rq_sR (rq_nw (rq_sR (rq_nw (rq_sR (rq_nw (rq_sR (rq_nw (rq_sR (rq_nw (rq_sR (rq_nw (rq_sR (rq_nw (h))))))))))))))))
set_option maxRecDepth 20000 in
theorem e_8_n {M : sx_M} (h : M.1 = 61) : (e_8 M).1 = 69 := by
  show M.1 + 8 = 69
  rw [h]
set_option maxRecDepth 20000 in
set_option maxHeartbeats 4000000 in
theorem ct_8 {g : sx_G} (hG : sx_Go g) {P : Option Value → sx_M → Prop} {M : sx_M} (nM : M.1 = 61) (hP : P none (e_8 M)) : sx_J g qX10_init 1 0 [(0, .ref 60)] [] M 8 800 P := by
  refine sx_aload_n (pc := 0) dX10_init_0 sx_m0 ?_
  refine sx_objInit (pc := 1) dX10_init_1 l_X10_3 oi_i oi_c (by decide) (Nat.le_of_ble_eq_true rfl) ?_
  refine sx_aload_n (pc := 4) dX10_init_4 sx_m0 ?_
  refine sx_bipush (pc := 5) (v := 100) dX10_init_5 (by decide +kernel) ?_
  refine sc_newa (pc := 7) (bc := 7) (bs := 700) (t := 0) (N := 100) nM dX10_init_7 rfl (by decide) ac_int ((hG 61 (by decide)).trans lay_61) (by decide +kernel) (by decide +kernel) (by decide +kernel) (by decide +kernel) (fun M1 hM1 nM1 => ?_) (by decide +kernel) (by decide +kernel)
  refine sx_putFA (pc := 9) dX10_init_9 f_10_9 rfl kr_10 ((hG 60 (by decide)).trans lay_60) (by rw [nM1]; decide) rfl ?_
  refine sx_ren (fun M2 hM2 => ?_)
  have nM2 : M2.1 = 62 := by rw [hM2]; exact nM1
  refine sx_aload_n (pc := 12) dX10_init_12 sx_m0 ?_
  refine sx_bipush (pc := 13) (v := 100) dX10_init_13 (by decide +kernel) ?_
  refine sc_newa (pc := 15) (bc := 6) (bs := 600) (t := 0) (N := 100) nM2 dX10_init_15 rfl (by decide) ac_int ((hG 62 (by decide)).trans lay_62) (by decide +kernel) (by decide +kernel) (by decide +kernel) (by decide +kernel) (fun M3 hM3 nM3 => ?_) (by decide +kernel) (by decide +kernel)
  refine sx_putFA (pc := 17) dX10_init_17 f_10_15 rfl kr_10 ((hG 60 (by decide)).trans lay_60) (by rw [nM3]; decide) rfl ?_
  refine sx_ren (fun M4 hM4 => ?_)
  have nM4 : M4.1 = 63 := by rw [hM4]; exact nM3
  refine sx_aload_n (pc := 20) dX10_init_20 sx_m0 ?_
  refine sx_bipush (pc := 21) (v := 100) dX10_init_21 (by decide +kernel) ?_
  refine sc_newa (pc := 23) (bc := 5) (bs := 500) (t := 0) (N := 100) nM4 dX10_init_23 rfl (by decide) ac_int ((hG 63 (by decide)).trans lay_63) (by decide +kernel) (by decide +kernel) (by decide +kernel) (by decide +kernel) (fun M5 hM5 nM5 => ?_) (by decide +kernel) (by decide +kernel)
  refine sx_putFA (pc := 25) dX10_init_25 f_10_18 rfl kr_10 ((hG 60 (by decide)).trans lay_60) (by rw [nM5]; decide) rfl ?_
  refine sx_ren (fun M6 hM6 => ?_)
  have nM6 : M6.1 = 64 := by rw [hM6]; exact nM5
  refine sx_aload_n (pc := 28) dX10_init_28 sx_m0 ?_
  refine sx_bipush (pc := 29) (v := 100) dX10_init_29 (by decide +kernel) ?_
  refine sc_newa (pc := 31) (bc := 4) (bs := 400) (t := 0) (N := 100) nM6 dX10_init_31 rfl (by decide) ac_int ((hG 64 (by decide)).trans lay_64) (by decide +kernel) (by decide +kernel) (by decide +kernel) (by decide +kernel) (fun M7 hM7 nM7 => ?_) (by decide +kernel) (by decide +kernel)
  refine sx_putFA (pc := 33) dX10_init_33 f_10_21 rfl kr_10 ((hG 60 (by decide)).trans lay_60) (by rw [nM7]; decide) rfl ?_
  refine sx_ren (fun M8 hM8 => ?_)
  have nM8 : M8.1 = 65 := by rw [hM8]; exact nM7
  refine sx_aload_n (pc := 36) dX10_init_36 sx_m0 ?_
  refine sx_bipush (pc := 37) (v := 100) dX10_init_37 (by decide +kernel) ?_
  refine sc_newa (pc := 39) (bc := 3) (bs := 300) (t := 0) (N := 100) nM8 dX10_init_39 rfl (by decide) ac_int ((hG 65 (by decide)).trans lay_65) (by decide +kernel) (by decide +kernel) (by decide +kernel) (by decide +kernel) (fun M9 hM9 nM9 => ?_) (by decide +kernel) (by decide +kernel)
  refine sx_putFA (pc := 41) dX10_init_41 f_10_24 rfl kr_10 ((hG 60 (by decide)).trans lay_60) (by rw [nM9]; decide) rfl ?_
  refine sx_ren (fun M10 hM10 => ?_)
  have nM10 : M10.1 = 66 := by rw [hM10]; exact nM9
  refine sx_aload_n (pc := 44) dX10_init_44 sx_m0 ?_
  refine sx_bipush (pc := 45) (v := 100) dX10_init_45 (by decide +kernel) ?_
  refine sc_newa (pc := 47) (bc := 2) (bs := 200) (t := 0) (N := 100) nM10 dX10_init_47 rfl (by decide) ac_int ((hG 66 (by decide)).trans lay_66) (by decide +kernel) (by decide +kernel) (by decide +kernel) (by decide +kernel) (fun M11 hM11 nM11 => ?_) (by decide +kernel) (by decide +kernel)
  refine sx_putFA (pc := 49) dX10_init_49 f_10_27 rfl kr_10 ((hG 60 (by decide)).trans lay_60) (by rw [nM11]; decide) rfl ?_
  refine sx_ren (fun M12 hM12 => ?_)
  have nM12 : M12.1 = 67 := by rw [hM12]; exact nM11
  refine sx_aload_n (pc := 52) dX10_init_52 sx_m0 ?_
  refine sx_bipush (pc := 53) (v := 100) dX10_init_53 (by decide +kernel) ?_
  refine sc_newa (pc := 55) (bc := 1) (bs := 100) (t := 2) (N := 100) nM12 dX10_init_55 rfl (by decide) ac_boolean ((hG 67 (by decide)).trans lay_67) (by decide +kernel) (by decide +kernel) (by decide +kernel) (by decide +kernel) (fun M13 hM13 nM13 => ?_) (by decide +kernel) (by decide +kernel)
  refine sx_putFA (pc := 57) dX10_init_57 f_10_30 rfl kr_10 ((hG 60 (by decide)).trans lay_60) (by rw [nM13]; decide) rfl ?_
  refine sx_ren (fun M14 hM14 => ?_)
  have nM14 : M14.1 = 68 := by rw [hM14]; exact nM13
  refine sx_aload_n (pc := 60) dX10_init_60 sx_m0 ?_
  refine sx_bipush (pc := 61) (v := 100) dX10_init_61 (by decide +kernel) ?_
  refine sc_newa (pc := 63) (bc := 0) (bs := 0) (t := 0) (N := 100) nM14 dX10_init_63 rfl (by decide) ac_int ((hG 68 (by decide)).trans lay_68) (by decide +kernel) (by decide +kernel) (by decide +kernel) (by decide +kernel) (fun M15 hM15 nM15 => ?_) (by decide +kernel) (by decide +kernel)
  refine sx_putFA (pc := 65) dX10_init_65 f_10_34 rfl kr_10 ((hG 60 (by decide)).trans lay_60) (by rw [nM15]; decide) rfl ?_
  refine sx_ren (fun M16 hM16 => ?_)
  have nM16 : M16.1 = 69 := by rw [hM16]; exact nM15
  exact sx_vret (pc := 68) dX10_init_68 rfl (by subst hM1; subst hM2; subst hM3; subst hM4; subst hM5; subst hM6; subst hM7; subst hM8; subst hM9; subst hM10; subst hM11; subst hM12; subst hM13; subst hM14; subst hM15; subst hM16; exact hP)
def ncX9_init : Nat := 3948538825074900486790358448758610398982223658
theorem kcX9_init : CK cX9_init ncX9_init 19 := ⟨by decide +kernel, by decide +kernel⟩
theorem dX9_init_0 : decode cX9_init 0 = .ok (.aload_n 0, 1) := dl_o42 kcX9_init (by decide +kernel)
theorem dX9_init_1 : decode cX9_init 1 = .ok (.invokespecial 3, 3) := dl_o183 kcX9_init (by decide +kernel)
theorem dX9_init_4 : decode cX9_init 4 = .ok (.aload_n 0, 1) := dl_o42 kcX9_init (by decide +kernel)
theorem dX9_init_5 : decode cX9_init 5 = .ok (.iconst 3, 1) := dl_o6 kcX9_init (by decide +kernel)
theorem dX9_init_6 : decode cX9_init 6 = .ok (.newarray .int, 2) := by decide +kernel
theorem dX9_init_8 : decode cX9_init 8 = .ok (.putfield 9, 3) := dl_o181 kcX9_init (by decide +kernel)
theorem dX9_init_11 : decode cX9_init 11 = .ok (.aload_n 0, 1) := dl_o42 kcX9_init (by decide +kernel)
theorem dX9_init_12 : decode cX9_init 12 = .ok (.iconst 3, 1) := dl_o6 kcX9_init (by decide +kernel)
theorem dX9_init_13 : decode cX9_init 13 = .ok (.newarray .int, 2) := by decide +kernel
theorem dX9_init_15 : decode cX9_init 15 = .ok (.putfield 15, 3) := dl_o181 kcX9_init (by decide +kernel)
theorem dX9_init_18 : decode cX9_init 18 = .ok (.return_, 1) := dl_o177 kcX9_init (by decide +kernel)
def e_9 (M : sx_M) : sx_M := sx_sR (sx_nw (sx_sR (sx_nw (M)) 70 6 (some 71))) 70 7 (some 72)
theorem e_9_R {M M2 : sx_M} (h : rq M M2) : rq (e_9 M) (e_9 M2) := rq_sR (rq_nw (rq_sR (rq_nw (h))))
set_option maxRecDepth 20000 in
theorem e_9_n {M : sx_M} (h : M.1 = 71) : (e_9 M).1 = 73 := by
  show M.1 + 2 = 73
  rw [h]
set_option maxRecDepth 20000 in
set_option maxHeartbeats 4000000 in
theorem ct_9 {g : sx_G} (hG : sx_Go g) {P : Option Value → sx_M → Prop} {M : sx_M} (nM : M.1 = 71) (hP : P none (e_9 M)) : sx_J g qX9_init 1 0 [(0, .ref 70)] [] M 2 6 P := by
  refine sx_aload_n (pc := 0) dX9_init_0 sx_m0 ?_
  refine sx_objInit (pc := 1) dX9_init_1 l_X9_3 oi_i oi_c (by decide) (Nat.le_of_ble_eq_true rfl) ?_
  refine sx_aload_n (pc := 4) dX9_init_4 sx_m0 ?_
  refine sx_iconst (pc := 5) (v := 3) dX9_init_5 (by decide +kernel) ?_
  refine sc_newa (pc := 6) (bc := 1) (bs := 3) (t := 0) (N := 3) nM dX9_init_6 rfl (by decide) ac_int ((hG 71 (by decide)).trans lay_71) (by decide +kernel) (by decide +kernel) (by decide +kernel) (by decide +kernel) (fun M1 hM1 nM1 => ?_) (by decide +kernel) (by decide +kernel)
  refine sx_putFA (pc := 8) dX9_init_8 f_9_9 rfl kr_9 ((hG 70 (by decide)).trans lay_70) (by rw [nM1]; decide) rfl ?_
  refine sx_ren (fun M2 hM2 => ?_)
  have nM2 : M2.1 = 72 := by rw [hM2]; exact nM1
  refine sx_aload_n (pc := 11) dX9_init_11 sx_m0 ?_
  refine sx_iconst (pc := 12) (v := 3) dX9_init_12 (by decide +kernel) ?_
  refine sc_newa (pc := 13) (bc := 0) (bs := 0) (t := 0) (N := 3) nM2 dX9_init_13 rfl (by decide) ac_int ((hG 72 (by decide)).trans lay_72) (by decide +kernel) (by decide +kernel) (by decide +kernel) (by decide +kernel) (fun M3 hM3 nM3 => ?_) (by decide +kernel) (by decide +kernel)
  refine sx_putFA (pc := 15) dX9_init_15 f_9_15 rfl kr_9 ((hG 70 (by decide)).trans lay_70) (by rw [nM3]; decide) rfl ?_
  refine sx_ren (fun M4 hM4 => ?_)
  have nM4 : M4.1 = 73 := by rw [hM4]; exact nM3
  exact sx_vret (pc := 18) dX9_init_18 rfl (by subst hM1; subst hM2; subst hM3; subst hM4; exact hP)
def ncX0_init : Nat := 171130336579031033256728998983855659173683542363483666129977029363996827696507389313972855435506794012544694859609923262479186491710010990689137541428779692115047705789642538
theorem kcX0_init : CK cX0_init ncX0_init 72 := ⟨by decide +kernel, by decide +kernel⟩
theorem dX0_init_0 : decode cX0_init 0 = .ok (.aload_n 0, 1) := dl_o42 kcX0_init (by decide +kernel)
theorem dX0_init_1 : decode cX0_init 1 = .ok (.invokespecial 3, 3) := dl_o183 kcX0_init (by decide +kernel)
theorem dX0_init_4 : decode cX0_init 4 = .ok (.aload_n 0, 1) := dl_o42 kcX0_init (by decide +kernel)
theorem dX0_init_5 : decode cX0_init 5 = .ok (.sipush 320, 3) := dl_o17 kcX0_init 320 (by decide +kernel) (by decide +kernel)
theorem dX0_init_8 : decode cX0_init 8 = .ok (.newarray .int, 2) := by decide +kernel
theorem dX0_init_10 : decode cX0_init 10 = .ok (.putfield 11, 3) := dl_o181 kcX0_init (by decide +kernel)
theorem dX0_init_13 : decode cX0_init 13 = .ok (.aload_n 0, 1) := dl_o42 kcX0_init (by decide +kernel)
theorem dX0_init_14 : decode cX0_init 14 = .ok (.sipush 320, 3) := dl_o17 kcX0_init 320 (by decide +kernel) (by decide +kernel)
theorem dX0_init_17 : decode cX0_init 17 = .ok (.newarray .int, 2) := by decide +kernel
theorem dX0_init_19 : decode cX0_init 19 = .ok (.putfield 15, 3) := dl_o181 kcX0_init (by decide +kernel)
theorem dX0_init_22 : decode cX0_init 22 = .ok (.aload_n 0, 1) := dl_o42 kcX0_init (by decide +kernel)
theorem dX0_init_23 : decode cX0_init 23 = .ok (.sipush 320, 3) := dl_o17 kcX0_init 320 (by decide +kernel) (by decide +kernel)
theorem dX0_init_26 : decode cX0_init 26 = .ok (.newarray .int, 2) := by decide +kernel
theorem dX0_init_28 : decode cX0_init 28 = .ok (.putfield 18, 3) := dl_o181 kcX0_init (by decide +kernel)
theorem dX0_init_31 : decode cX0_init 31 = .ok (.aload_n 0, 1) := dl_o42 kcX0_init (by decide +kernel)
theorem dX0_init_32 : decode cX0_init 32 = .ok (.bipush 32, 2) := dl_o16 kcX0_init 32 (by decide +kernel) (by decide +kernel)
theorem dX0_init_34 : decode cX0_init 34 = .ok (.newarray .int, 2) := by decide +kernel
theorem dX0_init_36 : decode cX0_init 36 = .ok (.putfield 21, 3) := dl_o181 kcX0_init (by decide +kernel)
theorem dX0_init_39 : decode cX0_init 39 = .ok (.aload_n 0, 1) := dl_o42 kcX0_init (by decide +kernel)
theorem dX0_init_40 : decode cX0_init 40 = .ok (.bipush 32, 2) := dl_o16 kcX0_init 32 (by decide +kernel) (by decide +kernel)
theorem dX0_init_42 : decode cX0_init 42 = .ok (.newarray .int, 2) := by decide +kernel
theorem dX0_init_44 : decode cX0_init 44 = .ok (.putfield 24, 3) := dl_o181 kcX0_init (by decide +kernel)
theorem dX0_init_47 : decode cX0_init 47 = .ok (.aload_n 0, 1) := dl_o42 kcX0_init (by decide +kernel)
theorem dX0_init_48 : decode cX0_init 48 = .ok (.bipush 32, 2) := dl_o16 kcX0_init 32 (by decide +kernel) (by decide +kernel)
theorem dX0_init_50 : decode cX0_init 50 = .ok (.newarray .int, 2) := by decide +kernel
theorem dX0_init_52 : decode cX0_init 52 = .ok (.putfield 27, 3) := dl_o181 kcX0_init (by decide +kernel)
theorem dX0_init_55 : decode cX0_init 55 = .ok (.aload_n 0, 1) := dl_o42 kcX0_init (by decide +kernel)
theorem dX0_init_56 : decode cX0_init 56 = .ok (.bipush 32, 2) := dl_o16 kcX0_init 32 (by decide +kernel) (by decide +kernel)
theorem dX0_init_58 : decode cX0_init 58 = .ok (.newarray .int, 2) := by decide +kernel
theorem dX0_init_60 : decode cX0_init 60 = .ok (.putfield 30, 3) := dl_o181 kcX0_init (by decide +kernel)
theorem dX0_init_63 : decode cX0_init 63 = .ok (.aload_n 0, 1) := dl_o42 kcX0_init (by decide +kernel)
theorem dX0_init_64 : decode cX0_init 64 = .ok (.bipush 32, 2) := dl_o16 kcX0_init 32 (by decide +kernel) (by decide +kernel)
theorem dX0_init_66 : decode cX0_init 66 = .ok (.newarray .int, 2) := by decide +kernel
theorem dX0_init_68 : decode cX0_init 68 = .ok (.putfield 33, 3) := dl_o181 kcX0_init (by decide +kernel)
theorem dX0_init_71 : decode cX0_init 71 = .ok (.return_, 1) := dl_o177 kcX0_init (by decide +kernel)
def e_10 (M : sx_M) : sx_M := sx_sR (sx_nw (sx_sR (sx_nw (sx_sR (sx_nw (sx_sR (sx_nw (sx_sR (sx_nw (sx_sR (sx_nw (sx_sR (sx_nw (sx_sR (sx_nw (M)) 73 0 (some 74))) 73 1 (some 75))) 73 2 (some 76))) 73 4 (some 77))) 73 5 (some 78))) 73 6 (some 79))) 73 7 (some 80))) 73 8 (some 81)
theorem e_10_R {M M2 : sx_M} (h : rq M M2) : rq (e_10 M) (e_10 M2) := rq_sR (rq_nw (rq_sR (rq_nw (rq_sR (rq_nw (rq_sR (rq_nw (rq_sR (rq_nw (rq_sR (rq_nw (rq_sR (rq_nw (rq_sR (rq_nw (h))))))))))))))))
set_option maxRecDepth 20000 in
theorem e_10_n {M : sx_M} (h : M.1 = 74) : (e_10 M).1 = 82 := by
  show M.1 + 8 = 82
  rw [h]
set_option maxRecDepth 20000 in
set_option maxHeartbeats 4000000 in
theorem ct_10 {g : sx_G} (hG : sx_Go g) {P : Option Value → sx_M → Prop} {M : sx_M} (nM : M.1 = 74) (hP : P none (e_10 M)) : sx_J g qX0_init 1 0 [(0, .ref 73)] [] M 8 1120 P := by
  refine sx_aload_n (pc := 0) dX0_init_0 sx_m0 ?_
  refine sx_objInit (pc := 1) dX0_init_1 l_X0_3 oi_i oi_c (by decide) (Nat.le_of_ble_eq_true rfl) ?_
  refine sx_aload_n (pc := 4) dX0_init_4 sx_m0 ?_
  refine sx_sipush (pc := 5) (v := 320) dX0_init_5 (by decide +kernel) ?_
  refine sc_newa (pc := 8) (bc := 7) (bs := 800) (t := 0) (N := 320) nM dX0_init_8 rfl (by decide) ac_int ((hG 74 (by decide)).trans lay_74) (by decide +kernel) (by decide +kernel) (by decide +kernel) (by decide +kernel) (fun M1 hM1 nM1 => ?_) (by decide +kernel) (by decide +kernel)
  refine sx_putFA (pc := 10) dX0_init_10 f_0_11 rfl kr_0 ((hG 73 (by decide)).trans lay_73) (by rw [nM1]; decide) rfl ?_
  refine sx_ren (fun M2 hM2 => ?_)
  have nM2 : M2.1 = 75 := by rw [hM2]; exact nM1
  refine sx_aload_n (pc := 13) dX0_init_13 sx_m0 ?_
  refine sx_sipush (pc := 14) (v := 320) dX0_init_14 (by decide +kernel) ?_
  refine sc_newa (pc := 17) (bc := 6) (bs := 480) (t := 0) (N := 320) nM2 dX0_init_17 rfl (by decide) ac_int ((hG 75 (by decide)).trans lay_75) (by decide +kernel) (by decide +kernel) (by decide +kernel) (by decide +kernel) (fun M3 hM3 nM3 => ?_) (by decide +kernel) (by decide +kernel)
  refine sx_putFA (pc := 19) dX0_init_19 f_0_15 rfl kr_0 ((hG 73 (by decide)).trans lay_73) (by rw [nM3]; decide) rfl ?_
  refine sx_ren (fun M4 hM4 => ?_)
  have nM4 : M4.1 = 76 := by rw [hM4]; exact nM3
  refine sx_aload_n (pc := 22) dX0_init_22 sx_m0 ?_
  refine sx_sipush (pc := 23) (v := 320) dX0_init_23 (by decide +kernel) ?_
  refine sc_newa (pc := 26) (bc := 5) (bs := 160) (t := 0) (N := 320) nM4 dX0_init_26 rfl (by decide) ac_int ((hG 76 (by decide)).trans lay_76) (by decide +kernel) (by decide +kernel) (by decide +kernel) (by decide +kernel) (fun M5 hM5 nM5 => ?_) (by decide +kernel) (by decide +kernel)
  refine sx_putFA (pc := 28) dX0_init_28 f_0_18 rfl kr_0 ((hG 73 (by decide)).trans lay_73) (by rw [nM5]; decide) rfl ?_
  refine sx_ren (fun M6 hM6 => ?_)
  have nM6 : M6.1 = 77 := by rw [hM6]; exact nM5
  refine sx_aload_n (pc := 31) dX0_init_31 sx_m0 ?_
  refine sx_bipush (pc := 32) (v := 32) dX0_init_32 (by decide +kernel) ?_
  refine sc_newa (pc := 34) (bc := 4) (bs := 128) (t := 0) (N := 32) nM6 dX0_init_34 rfl (by decide) ac_int ((hG 77 (by decide)).trans lay_77) (by decide +kernel) (by decide +kernel) (by decide +kernel) (by decide +kernel) (fun M7 hM7 nM7 => ?_) (by decide +kernel) (by decide +kernel)
  refine sx_putFA (pc := 36) dX0_init_36 f_0_21 rfl kr_0 ((hG 73 (by decide)).trans lay_73) (by rw [nM7]; decide) rfl ?_
  refine sx_ren (fun M8 hM8 => ?_)
  have nM8 : M8.1 = 78 := by rw [hM8]; exact nM7
  refine sx_aload_n (pc := 39) dX0_init_39 sx_m0 ?_
  refine sx_bipush (pc := 40) (v := 32) dX0_init_40 (by decide +kernel) ?_
  refine sc_newa (pc := 42) (bc := 3) (bs := 96) (t := 0) (N := 32) nM8 dX0_init_42 rfl (by decide) ac_int ((hG 78 (by decide)).trans lay_78) (by decide +kernel) (by decide +kernel) (by decide +kernel) (by decide +kernel) (fun M9 hM9 nM9 => ?_) (by decide +kernel) (by decide +kernel)
  refine sx_putFA (pc := 44) dX0_init_44 f_0_24 rfl kr_0 ((hG 73 (by decide)).trans lay_73) (by rw [nM9]; decide) rfl ?_
  refine sx_ren (fun M10 hM10 => ?_)
  have nM10 : M10.1 = 79 := by rw [hM10]; exact nM9
  refine sx_aload_n (pc := 47) dX0_init_47 sx_m0 ?_
  refine sx_bipush (pc := 48) (v := 32) dX0_init_48 (by decide +kernel) ?_
  refine sc_newa (pc := 50) (bc := 2) (bs := 64) (t := 0) (N := 32) nM10 dX0_init_50 rfl (by decide) ac_int ((hG 79 (by decide)).trans lay_79) (by decide +kernel) (by decide +kernel) (by decide +kernel) (by decide +kernel) (fun M11 hM11 nM11 => ?_) (by decide +kernel) (by decide +kernel)
  refine sx_putFA (pc := 52) dX0_init_52 f_0_27 rfl kr_0 ((hG 73 (by decide)).trans lay_73) (by rw [nM11]; decide) rfl ?_
  refine sx_ren (fun M12 hM12 => ?_)
  have nM12 : M12.1 = 80 := by rw [hM12]; exact nM11
  refine sx_aload_n (pc := 55) dX0_init_55 sx_m0 ?_
  refine sx_bipush (pc := 56) (v := 32) dX0_init_56 (by decide +kernel) ?_
  refine sc_newa (pc := 58) (bc := 1) (bs := 32) (t := 0) (N := 32) nM12 dX0_init_58 rfl (by decide) ac_int ((hG 80 (by decide)).trans lay_80) (by decide +kernel) (by decide +kernel) (by decide +kernel) (by decide +kernel) (fun M13 hM13 nM13 => ?_) (by decide +kernel) (by decide +kernel)
  refine sx_putFA (pc := 60) dX0_init_60 f_0_30 rfl kr_0 ((hG 73 (by decide)).trans lay_73) (by rw [nM13]; decide) rfl ?_
  refine sx_ren (fun M14 hM14 => ?_)
  have nM14 : M14.1 = 81 := by rw [hM14]; exact nM13
  refine sx_aload_n (pc := 63) dX0_init_63 sx_m0 ?_
  refine sx_bipush (pc := 64) (v := 32) dX0_init_64 (by decide +kernel) ?_
  refine sc_newa (pc := 66) (bc := 0) (bs := 0) (t := 0) (N := 32) nM14 dX0_init_66 rfl (by decide) ac_int ((hG 81 (by decide)).trans lay_81) (by decide +kernel) (by decide +kernel) (by decide +kernel) (by decide +kernel) (fun M15 hM15 nM15 => ?_) (by decide +kernel) (by decide +kernel)
  refine sx_putFA (pc := 68) dX0_init_68 f_0_33 rfl kr_0 ((hG 73 (by decide)).trans lay_73) (by rw [nM15]; decide) rfl ?_
  refine sx_ren (fun M16 hM16 => ?_)
  have nM16 : M16.1 = 82 := by rw [hM16]; exact nM15
  exact sx_vret (pc := 71) dX0_init_71 rfl (by subst hM1; subst hM2; subst hM3; subst hM4; subst hM5; subst hM6; subst hM7; subst hM8; subst hM9; subst hM10; subst hM11; subst hM12; subst hM13; subst hM14; subst hM15; subst hM16; exact hP)
def e_11 (M : sx_M) : sx_M := sx_sI (sx_sR (sx_nw (sx_sR (sx_nw (sx_sR (sx_nw (sx_sR (sx_nw (sx_sR (sx_nw (sx_sR (sx_nw (sx_sR (sx_nw (sx_sR (sx_nw (sx_sR (sx_nw (M)) 82 6 (some 83))) 82 7 (some 84))) 82 8 (some 85))) 82 0 (some 86))) 82 1 (some 87))) 82 2 (some 88))) 82 3 (some 89))) 82 4 (some 90))) 82 5 (some 91)) 82 11 0
theorem e_11_R {M M2 : sx_M} (h : rq M M2) : rq (e_11 M) (e_11 M2) := rq_sI (rq_sR (rq_nw (rq_sR (rq_nw (rq_sR (rq_nw (rq_sR (rq_nw (rq_sR (rq_nw (rq_sR (rq_nw (rq_sR (rq_nw (rq_sR (rq_nw (rq_sR (rq_nw (h)))))))))))))))))))
set_option maxRecDepth 20000 in
theorem e_11_n {M : sx_M} (h : M.1 = 83) : (e_11 M).1 = 92 := by
  show M.1 + 9 = 92
  rw [h]
set_option maxRecDepth 20000 in
set_option maxHeartbeats 4000000 in
theorem ct_11 {g : sx_G} (hG : sx_Go g) {P : Option Value → sx_M → Prop} {M : sx_M} (nM : M.1 = 83) (hP : P none (e_11 M)) : sx_J g qX8_init 1 0 [(0, .ref 82), (1, .int 0), (2, .int 0)] [] M 9 24 P := by
  refine sx_aload_n (pc := 0) dX8_init_0 sx_m0 ?_
  refine sx_objInit (pc := 1) dX8_init_1 l_X8_3 oi_i oi_c (by decide) (Nat.le_of_ble_eq_true rfl) ?_
  refine sx_aload_n (pc := 4) dX8_init_4 sx_m0 ?_
  refine sx_bipush (pc := 5) (v := 20) dX8_init_5 (by decide +kernel) ?_
  refine sc_newa (pc := 7) (bc := 8) (bs := 4) (t := 0) (N := 20) nM dX8_init_7 rfl (by decide) ac_int ((hG 83 (by decide)).trans lay_83) (by decide +kernel) (by decide +kernel) (by decide +kernel) (by decide +kernel) (fun M1 hM1 nM1 => ?_) (by decide +kernel) (by decide +kernel)
  refine sx_putFA (pc := 9) dX8_init_9 f_8_9 rfl kr_8 ((hG 82 (by decide)).trans lay_82) (by rw [nM1]; decide) rfl ?_
  refine sx_ren (fun M2 hM2 => ?_)
  have nM2 : M2.1 = 84 := by rw [hM2]; exact nM1
  refine sx_aload_n (pc := 12) dX8_init_12 sx_m0 ?_
  refine sx_iconst (pc := 13) (v := 2) dX8_init_13 (by decide +kernel) ?_
  refine sc_newa (pc := 14) (bc := 7) (bs := 2) (t := 0) (N := 2) nM2 dX8_init_14 rfl (by decide) ac_int ((hG 84 (by decide)).trans lay_84) (by decide +kernel) (by decide +kernel) (by decide +kernel) (by decide +kernel) (fun M3 hM3 nM3 => ?_) (by decide +kernel) (by decide +kernel)
  refine sx_putFA (pc := 16) dX8_init_16 f_8_15 rfl kr_8 ((hG 82 (by decide)).trans lay_82) (by rw [nM3]; decide) rfl ?_
  refine sx_ren (fun M4 hM4 => ?_)
  have nM4 : M4.1 = 85 := by rw [hM4]; exact nM3
  refine sx_aload_n (pc := 19) dX8_init_19 sx_m0 ?_
  refine sx_iconst (pc := 20) (v := 2) dX8_init_20 (by decide +kernel) ?_
  refine sc_newa (pc := 21) (bc := 6) (bs := 0) (t := 0) (N := 2) nM4 dX8_init_21 rfl (by decide) ac_int ((hG 85 (by decide)).trans lay_85) (by decide +kernel) (by decide +kernel) (by decide +kernel) (by decide +kernel) (fun M5 hM5 nM5 => ?_) (by decide +kernel) (by decide +kernel)
  refine sx_putFA (pc := 23) dX8_init_23 f_8_18 rfl kr_8 ((hG 82 (by decide)).trans lay_82) (by rw [nM5]; decide) rfl ?_
  refine sx_ren (fun M6 hM6 => ?_)
  have nM6 : M6.1 = 86 := by rw [hM6]; exact nM5
  refine sx_aload_n (pc := 26) dX8_init_26 sx_m0 ?_
  refine sx_iload_n (pc := 27) dX8_init_27 sx_m1 ?_
  refine sx_iload_n (pc := 28) dX8_init_28 sx_m2 ?_
  refine sx_iadd (pc := 29) dX8_init_29 ?_
  refine sx_topI (x := 0) (by decide) ?_
  refine sc_newa (pc := 30) (bc := 5) (bs := 0) (t := 0) (N := 0) nM6 dX8_init_30 rfl (by decide) ac_int ((hG 86 (by decide)).trans lay_86) (by decide +kernel) (by decide +kernel) (by decide +kernel) (by decide +kernel) (fun M7 hM7 nM7 => ?_) (by decide +kernel) (by decide +kernel)
  refine sx_putFA (pc := 32) dX8_init_32 f_8_21 rfl kr_8 ((hG 82 (by decide)).trans lay_82) (by rw [nM7]; decide) rfl ?_
  refine sx_ren (fun M8 hM8 => ?_)
  have nM8 : M8.1 = 87 := by rw [hM8]; exact nM7
  refine sx_aload_n (pc := 35) dX8_init_35 sx_m0 ?_
  refine sx_iload_n (pc := 36) dX8_init_36 sx_m1 ?_
  refine sx_iload_n (pc := 37) dX8_init_37 sx_m2 ?_
  refine sx_iadd (pc := 38) dX8_init_38 ?_
  refine sx_topI (x := 0) (by decide) ?_
  refine sc_newa (pc := 39) (bc := 4) (bs := 0) (t := 0) (N := 0) nM8 dX8_init_39 rfl (by decide) ac_int ((hG 87 (by decide)).trans lay_87) (by decide +kernel) (by decide +kernel) (by decide +kernel) (by decide +kernel) (fun M9 hM9 nM9 => ?_) (by decide +kernel) (by decide +kernel)
  refine sx_putFA (pc := 41) dX8_init_41 f_8_24 rfl kr_8 ((hG 82 (by decide)).trans lay_82) (by rw [nM9]; decide) rfl ?_
  refine sx_ren (fun M10 hM10 => ?_)
  have nM10 : M10.1 = 88 := by rw [hM10]; exact nM9
  refine sx_aload_n (pc := 44) dX8_init_44 sx_m0 ?_
  refine sx_iload_n (pc := 45) dX8_init_45 sx_m1 ?_
  refine sx_iload_n (pc := 46) dX8_init_46 sx_m2 ?_
  refine sx_iadd (pc := 47) dX8_init_47 ?_
  refine sx_topI (x := 0) (by decide) ?_
  refine sc_newa (pc := 48) (bc := 3) (bs := 0) (t := 0) (N := 0) nM10 dX8_init_48 rfl (by decide) ac_int ((hG 88 (by decide)).trans lay_88) (by decide +kernel) (by decide +kernel) (by decide +kernel) (by decide +kernel) (fun M11 hM11 nM11 => ?_) (by decide +kernel) (by decide +kernel)
  refine sx_putFA (pc := 50) dX8_init_50 f_8_27 rfl kr_8 ((hG 82 (by decide)).trans lay_82) (by rw [nM11]; decide) rfl ?_
  refine sx_ren (fun M12 hM12 => ?_)
  have nM12 : M12.1 = 89 := by rw [hM12]; exact nM11
  refine sx_aload_n (pc := 53) dX8_init_53 sx_m0 ?_
  refine sx_iload_n (pc := 54) dX8_init_54 sx_m1 ?_
  refine sx_iload_n (pc := 55) dX8_init_55 sx_m2 ?_
  refine sx_iadd (pc := 56) dX8_init_56 ?_
  refine sx_topI (x := 0) (by decide) ?_
  refine sc_newa (pc := 57) (bc := 2) (bs := 0) (t := 0) (N := 0) nM12 dX8_init_57 rfl (by decide) ac_int ((hG 89 (by decide)).trans lay_89) (by decide +kernel) (by decide +kernel) (by decide +kernel) (by decide +kernel) (fun M13 hM13 nM13 => ?_) (by decide +kernel) (by decide +kernel)
  refine sx_putFA (pc := 59) dX8_init_59 f_8_30 rfl kr_8 ((hG 82 (by decide)).trans lay_82) (by rw [nM13]; decide) rfl ?_
  refine sx_ren (fun M14 hM14 => ?_)
  have nM14 : M14.1 = 90 := by rw [hM14]; exact nM13
  refine sx_aload_n (pc := 62) dX8_init_62 sx_m0 ?_
  refine sx_iload_n (pc := 63) dX8_init_63 sx_m1 ?_
  refine sx_iload_n (pc := 64) dX8_init_64 sx_m2 ?_
  refine sx_iadd (pc := 65) dX8_init_65 ?_
  refine sx_topI (x := 0) (by decide) ?_
  refine sc_newa (pc := 66) (bc := 1) (bs := 0) (t := 0) (N := 0) nM14 dX8_init_66 rfl (by decide) ac_int ((hG 90 (by decide)).trans lay_90) (by decide +kernel) (by decide +kernel) (by decide +kernel) (by decide +kernel) (fun M15 hM15 nM15 => ?_) (by decide +kernel) (by decide +kernel)
  refine sx_putFA (pc := 68) dX8_init_68 f_8_33 rfl kr_8 ((hG 82 (by decide)).trans lay_82) (by rw [nM15]; decide) rfl ?_
  refine sx_ren (fun M16 hM16 => ?_)
  have nM16 : M16.1 = 91 := by rw [hM16]; exact nM15
  refine sx_aload_n (pc := 71) dX8_init_71 sx_m0 ?_
  refine sx_iload_n (pc := 72) dX8_init_72 sx_m1 ?_
  refine sx_iload_n (pc := 73) dX8_init_73 sx_m2 ?_
  refine sx_iadd (pc := 74) dX8_init_74 ?_
  refine sx_topI (x := 0) (by decide) ?_
  refine sc_newa (pc := 75) (bc := 0) (bs := 0) (t := 0) (N := 0) nM16 dX8_init_75 rfl (by decide) ac_int ((hG 91 (by decide)).trans lay_91) (by decide +kernel) (by decide +kernel) (by decide +kernel) (by decide +kernel) (fun M17 hM17 nM17 => ?_) (by decide +kernel) (by decide +kernel)
  refine sx_putFA (pc := 77) dX8_init_77 f_8_36 rfl kr_8 ((hG 82 (by decide)).trans lay_82) (by rw [nM17]; decide) rfl ?_
  refine sx_ren (fun M18 hM18 => ?_)
  have nM18 : M18.1 = 92 := by rw [hM18]; exact nM17
  refine sx_aload_n (pc := 80) dX8_init_80 sx_m0 ?_
  refine sx_iload_n (pc := 81) dX8_init_81 sx_m2 ?_
  refine sx_putI (pc := 82) dX8_init_82 f_8_39 ((hG 82 (by decide)).trans lay_82) (by rw [nM18]; decide) rfl ?_
  refine sx_ren (fun M19 hM19 => ?_)
  have nM19 : M19.1 = 92 := by rw [hM19]; exact nM18
  exact sx_vret (pc := 85) dX8_init_85 rfl (by subst hM1; subst hM2; subst hM3; subst hM4; subst hM5; subst hM6; subst hM7; subst hM8; subst hM9; subst hM10; subst hM11; subst hM12; subst hM13; subst hM14; subst hM15; subst hM16; subst hM17; subst hM18; subst hM19; exact hP)
def ncX5_init : Nat := 171190719985348086444358354313160667748829811517426159731337336591202333825952117757782544456078256462436748636475614928775277801577344094349919724948995059320972784774985514
theorem kcX5_init : CK cX5_init ncX5_init 72 := ⟨by decide +kernel, by decide +kernel⟩
theorem dX5_init_0 : decode cX5_init 0 = .ok (.aload_n 0, 1) := dl_o42 kcX5_init (by decide +kernel)
theorem dX5_init_1 : decode cX5_init 1 = .ok (.invokespecial 3, 3) := dl_o183 kcX5_init (by decide +kernel)
theorem dX5_init_4 : decode cX5_init 4 = .ok (.aload_n 0, 1) := dl_o42 kcX5_init (by decide +kernel)
theorem dX5_init_5 : decode cX5_init 5 = .ok (.new 9, 3) := by decide +kernel
theorem dX5_init_8 : decode cX5_init 8 = .ok (.dup, 1) := dl_o89 kcX5_init (by decide +kernel)
theorem dX5_init_9 : decode cX5_init 9 = .ok (.invokespecial 11, 3) := dl_o183 kcX5_init (by decide +kernel)
theorem dX5_init_12 : decode cX5_init 12 = .ok (.putfield 12, 3) := dl_o181 kcX5_init (by decide +kernel)
theorem dX5_init_15 : decode cX5_init 15 = .ok (.aload_n 0, 1) := dl_o42 kcX5_init (by decide +kernel)
theorem dX5_init_16 : decode cX5_init 16 = .ok (.new 18, 3) := by decide +kernel
theorem dX5_init_19 : decode cX5_init 19 = .ok (.dup, 1) := dl_o89 kcX5_init (by decide +kernel)
theorem dX5_init_20 : decode cX5_init 20 = .ok (.invokespecial 20, 3) := dl_o183 kcX5_init (by decide +kernel)
theorem dX5_init_23 : decode cX5_init 23 = .ok (.putfield 21, 3) := dl_o181 kcX5_init (by decide +kernel)
theorem dX5_init_26 : decode cX5_init 26 = .ok (.aload_n 0, 1) := dl_o42 kcX5_init (by decide +kernel)
theorem dX5_init_27 : decode cX5_init 27 = .ok (.new 25, 3) := by decide +kernel
theorem dX5_init_30 : decode cX5_init 30 = .ok (.dup, 1) := dl_o89 kcX5_init (by decide +kernel)
theorem dX5_init_31 : decode cX5_init 31 = .ok (.iconst 0, 1) := dl_o3 kcX5_init (by decide +kernel)
theorem dX5_init_32 : decode cX5_init 32 = .ok (.iconst 0, 1) := dl_o3 kcX5_init (by decide +kernel)
theorem dX5_init_33 : decode cX5_init 33 = .ok (.invokespecial 27, 3) := dl_o183 kcX5_init (by decide +kernel)
theorem dX5_init_36 : decode cX5_init 36 = .ok (.putfield 30, 3) := dl_o181 kcX5_init (by decide +kernel)
theorem dX5_init_39 : decode cX5_init 39 = .ok (.aload_n 0, 1) := dl_o42 kcX5_init (by decide +kernel)
theorem dX5_init_40 : decode cX5_init 40 = .ok (.sipush 256, 3) := dl_o17 kcX5_init 256 (by decide +kernel) (by decide +kernel)
theorem dX5_init_43 : decode cX5_init 43 = .ok (.newarray .int, 2) := by decide +kernel
theorem dX5_init_45 : decode cX5_init 45 = .ok (.putfield 34, 3) := dl_o181 kcX5_init (by decide +kernel)
theorem dX5_init_48 : decode cX5_init 48 = .ok (.aload_n 0, 1) := dl_o42 kcX5_init (by decide +kernel)
theorem dX5_init_49 : decode cX5_init 49 = .ok (.aload_n 0, 1) := dl_o42 kcX5_init (by decide +kernel)
theorem dX5_init_50 : decode cX5_init 50 = .ok (.getfield 30, 3) := dl_o180 kcX5_init (by decide +kernel)
theorem dX5_init_53 : decode cX5_init 53 = .ok (.putfield 38, 3) := dl_o181 kcX5_init (by decide +kernel)
theorem dX5_init_56 : decode cX5_init 56 = .ok (.aload_n 0, 1) := dl_o42 kcX5_init (by decide +kernel)
theorem dX5_init_57 : decode cX5_init 57 = .ok (.iconst (-1), 1) := dl_o2 kcX5_init (by decide +kernel)
theorem dX5_init_58 : decode cX5_init 58 = .ok (.putfield 41, 3) := dl_o181 kcX5_init (by decide +kernel)
theorem dX5_init_61 : decode cX5_init 61 = .ok (.aload_n 0, 1) := dl_o42 kcX5_init (by decide +kernel)
theorem dX5_init_62 : decode cX5_init 62 = .ok (.aload_n 1, 1) := dl_o43 kcX5_init (by decide +kernel)
theorem dX5_init_63 : decode cX5_init 63 = .ok (.putfield 45, 3) := dl_o181 kcX5_init (by decide +kernel)
theorem dX5_init_66 : decode cX5_init 66 = .ok (.aload_n 0, 1) := dl_o42 kcX5_init (by decide +kernel)
theorem dX5_init_67 : decode cX5_init 67 = .ok (.aload_n 2, 1) := dl_o44 kcX5_init (by decide +kernel)
theorem dX5_init_68 : decode cX5_init 68 = .ok (.putfield 49, 3) := dl_o181 kcX5_init (by decide +kernel)
theorem dX5_init_71 : decode cX5_init 71 = .ok (.return_, 1) := dl_o177 kcX5_init (by decide +kernel)
def e_12 (M : sx_M) : sx_M := sx_sR (sx_sR (sx_sI (sx_sR (sx_sR (sx_nw (sx_sR (e_11 (sx_nw (sx_sR (e_10 (sx_nw (sx_sR (e_9 (sx_nw (M))) 69 1 (some 70)))) 69 2 (some 73)))) 69 3 (some 82))) 69 4 (some 92)) 69 7 (some 82)) 69 15 (-1)) 69 0 (some 2)) 69 6 (some 31)
theorem e_12_R {M M2 : sx_M} (h : rq M M2) : rq (e_12 M) (e_12 M2) := rq_sR (rq_sR (rq_sI (rq_sR (rq_sR (rq_nw (rq_sR (e_11_R (rq_nw (rq_sR (e_10_R (rq_nw (rq_sR (e_9_R (rq_nw (h)))))))))))))))
set_option maxRecDepth 20000 in
theorem e_12_n {M : sx_M} (h : M.1 = 70) : (e_12 M).1 = 93 := by
  show M.1 + 23 = 93
  rw [h]
set_option maxRecDepth 20000 in
set_option maxHeartbeats 4000000 in
theorem ct_12 {g : sx_G} (hG : sx_Go g) {P : Option Value → sx_M → Prop} {M : sx_M} (nM : M.1 = 70) (hP : P none (e_12 M)) : sx_J g qX5_init 2 0 [(0, .ref 69), (1, .ref 2), (2, .ref 31)] [] M 23 1442 P := by
  refine sx_aload_n (pc := 0) dX5_init_0 sx_m0 ?_
  refine sx_objInit (pc := 1) dX5_init_1 l_X5_3 oi_i oi_c (by decide) (Nat.le_of_ble_eq_true rfl) ?_
  refine sx_aload_n (pc := 4) dX5_init_4 sx_m0 ?_
  refine sc_new (pc := 5) (bc := 22) (bs := 1428) nM dX5_init_5 kc_9 c_X5_9 ((hG 70 (by decide)).trans lay_70) (by decide) (fun M1 hM1 nM1 => ?_) (by decide +kernel) (by decide +kernel)
  refine sx_dup (pc := 8) dX5_init_8 rfl ?_
  refine sc_callIN (pc := 9) (bc := 20) (bs := 1422) (y := qX9_init) (as := []) (e := e_9 M1) dX5_init_9 n_X5_11 y0X9_init rfl rfl yiX9_init rfl (Nat.le_of_ble_eq_true rfl) (by decide) (Nat.le_of_ble_eq_true rfl) rfl rfl (ct_9 hG nM1 ⟨rfl, rfl⟩) (fun M2 hM2 => ?_) (by decide +kernel) (by decide +kernel)
  have nM2 : M2.1 = 73 := by rw [hM2]; exact e_9_n nM1
  refine sx_putFO (pc := 12) dX5_init_12 f_5_12 rfl kr_5 ((hG 69 (by decide)).trans lay_69) (by rw [nM2]; decide) rfl ?_
  refine sx_ren (fun M3 hM3 => ?_)
  have nM3 : M3.1 = 73 := by rw [hM3]; exact nM2
  refine sx_aload_n (pc := 15) dX5_init_15 sx_m0 ?_
  refine sc_new (pc := 16) (bc := 19) (bs := 1412) nM3 dX5_init_16 kc_0 c_X5_18 ((hG 73 (by decide)).trans lay_73) (by decide) (fun M4 hM4 nM4 => ?_) (by decide +kernel) (by decide +kernel)
  refine sx_dup (pc := 19) dX5_init_19 rfl ?_
  refine sc_callIN (pc := 20) (bc := 11) (bs := 292) (y := qX0_init) (as := []) (e := e_10 M4) dX5_init_20 n_X5_20 y0X0_init rfl rfl yiX0_init rfl (Nat.le_of_ble_eq_true rfl) (by decide) (Nat.le_of_ble_eq_true rfl) rfl rfl (ct_10 hG nM4 ⟨rfl, rfl⟩) (fun M5 hM5 => ?_) (by decide +kernel) (by decide +kernel)
  have nM5 : M5.1 = 82 := by rw [hM5]; exact e_10_n nM4
  refine sx_putFO (pc := 23) dX5_init_23 f_5_21 rfl kr_5 ((hG 69 (by decide)).trans lay_69) (by rw [nM5]; decide) rfl ?_
  refine sx_ren (fun M6 hM6 => ?_)
  have nM6 : M6.1 = 82 := by rw [hM6]; exact nM5
  refine sx_aload_n (pc := 26) dX5_init_26 sx_m0 ?_
  refine sc_new (pc := 27) (bc := 10) (bs := 280) nM6 dX5_init_27 kc_8 c_X5_25 ((hG 82 (by decide)).trans lay_82) (by decide) (fun M7 hM7 nM7 => ?_) (by decide +kernel) (by decide +kernel)
  refine sx_dup (pc := 30) dX5_init_30 rfl ?_
  refine sx_iconst (pc := 31) (v := 0) dX5_init_31 (by decide +kernel) ?_
  refine sx_iconst (pc := 32) (v := 0) dX5_init_32 (by decide +kernel) ?_
  refine sc_callI (pc := 33) (bc := 1) (bs := 256) (y := qX8_init) (as := [.int 0, .int 0]) (e := e_11 M7) dX5_init_33 l_X5_27 y0X8_init rfl rfl yiX8_init rfl (Nat.le_of_ble_eq_true rfl) (by decide) (Nat.le_of_ble_eq_true rfl) rfl rfl (ct_11 hG nM7 ⟨rfl, rfl⟩) (fun M8 hM8 => ?_) (by decide +kernel) (by decide +kernel)
  have nM8 : M8.1 = 92 := by rw [hM8]; exact e_11_n nM7
  refine sx_putFO (pc := 36) dX5_init_36 f_5_30 rfl kr_5 ((hG 69 (by decide)).trans lay_69) (by rw [nM8]; decide) rfl ?_
  refine sx_ren (fun M9 hM9 => ?_)
  have nM9 : M9.1 = 92 := by rw [hM9]; exact nM8
  refine sx_aload_n (pc := 39) dX5_init_39 sx_m0 ?_
  refine sx_sipush (pc := 40) (v := 256) dX5_init_40 (by decide +kernel) ?_
  refine sc_newa (pc := 43) (bc := 0) (bs := 0) (t := 0) (N := 256) nM9 dX5_init_43 rfl (by decide) ac_int ((hG 92 (by decide)).trans lay_92) (by decide +kernel) (by decide +kernel) (by decide +kernel) (by decide +kernel) (fun M10 hM10 nM10 => ?_) (by decide +kernel) (by decide +kernel)
  refine sx_putFA (pc := 45) dX5_init_45 f_5_34 rfl kr_5 ((hG 69 (by decide)).trans lay_69) (by rw [nM10]; decide) rfl ?_
  refine sx_ren (fun M11 hM11 => ?_)
  have nM11 : M11.1 = 93 := by rw [hM11]; exact nM10
  refine sx_aload_n (pc := 48) dX5_init_48 sx_m0 ?_
  refine sx_aload_n (pc := 49) dX5_init_49 sx_m0 ?_
  refine sc_getO (pc := 50) (c := 82) dX5_init_50 f_5_30 ((hG 69 (by decide)).trans lay_69) (by rw [nM11]; decide) rfl (by rw [hM11, hM10, hM9, hM8, hM7, hM6, hM5, hM4, hM3, hM2, hM1]; obtain ⟨n0, I0, L0, R0⟩ := M; have e0 : n0 = 70 := nM; subst e0; rfl) ?_
  refine sx_putO (pc := 53) dX5_init_53 f_5_38 ((hG 69 (by decide)).trans lay_69) (by rw [nM11]; decide) rfl ?_
  refine sx_ren (fun M12 hM12 => ?_)
  have nM12 : M12.1 = 93 := by rw [hM12]; exact nM11
  refine sx_aload_n (pc := 56) dX5_init_56 sx_m0 ?_
  refine sx_iconst (pc := 57) (v := (-1)) dX5_init_57 (by decide +kernel) ?_
  refine sx_putI (pc := 58) dX5_init_58 f_5_41 ((hG 69 (by decide)).trans lay_69) (by rw [nM12]; decide) rfl ?_
  refine sx_ren (fun M13 hM13 => ?_)
  have nM13 : M13.1 = 93 := by rw [hM13]; exact nM12
  refine sx_aload_n (pc := 61) dX5_init_61 sx_m0 ?_
  refine sx_aload_n (pc := 62) dX5_init_62 sx_m1 ?_
  refine sx_putFO (pc := 63) dX5_init_63 f_5_45 rfl kr_5 ((hG 69 (by decide)).trans lay_69) (by rw [nM13]; decide) rfl ?_
  refine sx_ren (fun M14 hM14 => ?_)
  have nM14 : M14.1 = 93 := by rw [hM14]; exact nM13
  refine sx_aload_n (pc := 66) dX5_init_66 sx_m0 ?_
  refine sx_aload_n (pc := 67) dX5_init_67 sx_m2 ?_
  refine sx_putO (pc := 68) dX5_init_68 f_5_49 ((hG 69 (by decide)).trans lay_69) (by rw [nM14]; decide) rfl ?_
  refine sx_ren (fun M15 hM15 => ?_)
  have nM15 : M15.1 = 93 := by rw [hM15]; exact nM14
  exact sx_vret (pc := 71) dX5_init_71 rfl (by subst hM1; subst hM2; subst hM3; subst hM4; subst hM5; subst hM6; subst hM7; subst hM8; subst hM9; subst hM10; subst hM11; subst hM12; subst hM13; subst hM14; subst hM15; exact hP)
def e_13 (M : sx_M) : sx_M := sx_sI (sx_sR (sx_nw (sx_sR (sx_nw (sx_sR (sx_nw (sx_sR (sx_nw (sx_sR (sx_nw (sx_sR (sx_nw (sx_sR (sx_nw (sx_sR (sx_nw (sx_sR (sx_nw (M)) 93 6 (some 94))) 93 7 (some 95))) 93 8 (some 96))) 93 0 (some 97))) 93 1 (some 98))) 93 2 (some 99))) 93 3 (some 100))) 93 4 (some 101))) 93 5 (some 102)) 93 11 2
theorem e_13_R {M M2 : sx_M} (h : rq M M2) : rq (e_13 M) (e_13 M2) := rq_sI (rq_sR (rq_nw (rq_sR (rq_nw (rq_sR (rq_nw (rq_sR (rq_nw (rq_sR (rq_nw (rq_sR (rq_nw (rq_sR (rq_nw (rq_sR (rq_nw (rq_sR (rq_nw (h)))))))))))))))))))
set_option maxRecDepth 20000 in
theorem e_13_n {M : sx_M} (h : M.1 = 94) : (e_13 M).1 = 103 := by
  show M.1 + 9 = 103
  rw [h]
set_option maxRecDepth 20000 in
set_option maxHeartbeats 4000000 in
theorem ct_13 {g : sx_G} (hG : sx_Go g) {P : Option Value → sx_M → Prop} {M : sx_M} (nM : M.1 = 94) (hP : P none (e_13 M)) : sx_J g qX8_init 1 0 [(0, .ref 93), (1, .int 100), (2, .int 2)] [] M 9 636 P := by
  refine sx_aload_n (pc := 0) dX8_init_0 sx_m0 ?_
  refine sx_objInit (pc := 1) dX8_init_1 l_X8_3 oi_i oi_c (by decide) (Nat.le_of_ble_eq_true rfl) ?_
  refine sx_aload_n (pc := 4) dX8_init_4 sx_m0 ?_
  refine sx_bipush (pc := 5) (v := 20) dX8_init_5 (by decide +kernel) ?_
  refine sc_newa (pc := 7) (bc := 8) (bs := 616) (t := 0) (N := 20) nM dX8_init_7 rfl (by decide) ac_int ((hG 94 (by decide)).trans lay_94) (by decide +kernel) (by decide +kernel) (by decide +kernel) (by decide +kernel) (fun M1 hM1 nM1 => ?_) (by decide +kernel) (by decide +kernel)
  refine sx_putFA (pc := 9) dX8_init_9 f_8_9 rfl kr_8 ((hG 93 (by decide)).trans lay_93) (by rw [nM1]; decide) rfl ?_
  refine sx_ren (fun M2 hM2 => ?_)
  have nM2 : M2.1 = 95 := by rw [hM2]; exact nM1
  refine sx_aload_n (pc := 12) dX8_init_12 sx_m0 ?_
  refine sx_iconst (pc := 13) (v := 2) dX8_init_13 (by decide +kernel) ?_
  refine sc_newa (pc := 14) (bc := 7) (bs := 614) (t := 0) (N := 2) nM2 dX8_init_14 rfl (by decide) ac_int ((hG 95 (by decide)).trans lay_95) (by decide +kernel) (by decide +kernel) (by decide +kernel) (by decide +kernel) (fun M3 hM3 nM3 => ?_) (by decide +kernel) (by decide +kernel)
  refine sx_putFA (pc := 16) dX8_init_16 f_8_15 rfl kr_8 ((hG 93 (by decide)).trans lay_93) (by rw [nM3]; decide) rfl ?_
  refine sx_ren (fun M4 hM4 => ?_)
  have nM4 : M4.1 = 96 := by rw [hM4]; exact nM3
  refine sx_aload_n (pc := 19) dX8_init_19 sx_m0 ?_
  refine sx_iconst (pc := 20) (v := 2) dX8_init_20 (by decide +kernel) ?_
  refine sc_newa (pc := 21) (bc := 6) (bs := 612) (t := 0) (N := 2) nM4 dX8_init_21 rfl (by decide) ac_int ((hG 96 (by decide)).trans lay_96) (by decide +kernel) (by decide +kernel) (by decide +kernel) (by decide +kernel) (fun M5 hM5 nM5 => ?_) (by decide +kernel) (by decide +kernel)
  refine sx_putFA (pc := 23) dX8_init_23 f_8_18 rfl kr_8 ((hG 93 (by decide)).trans lay_93) (by rw [nM5]; decide) rfl ?_
  refine sx_ren (fun M6 hM6 => ?_)
  have nM6 : M6.1 = 97 := by rw [hM6]; exact nM5
  refine sx_aload_n (pc := 26) dX8_init_26 sx_m0 ?_
  refine sx_iload_n (pc := 27) dX8_init_27 sx_m1 ?_
  refine sx_iload_n (pc := 28) dX8_init_28 sx_m2 ?_
  refine sx_iadd (pc := 29) dX8_init_29 ?_
  refine sx_topI (x := 102) (by decide) ?_
  refine sc_newa (pc := 30) (bc := 5) (bs := 510) (t := 0) (N := 102) nM6 dX8_init_30 rfl (by decide) ac_int ((hG 97 (by decide)).trans lay_97) (by decide +kernel) (by decide +kernel) (by decide +kernel) (by decide +kernel) (fun M7 hM7 nM7 => ?_) (by decide +kernel) (by decide +kernel)
  refine sx_putFA (pc := 32) dX8_init_32 f_8_21 rfl kr_8 ((hG 93 (by decide)).trans lay_93) (by rw [nM7]; decide) rfl ?_
  refine sx_ren (fun M8 hM8 => ?_)
  have nM8 : M8.1 = 98 := by rw [hM8]; exact nM7
  refine sx_aload_n (pc := 35) dX8_init_35 sx_m0 ?_
  refine sx_iload_n (pc := 36) dX8_init_36 sx_m1 ?_
  refine sx_iload_n (pc := 37) dX8_init_37 sx_m2 ?_
  refine sx_iadd (pc := 38) dX8_init_38 ?_
  refine sx_topI (x := 102) (by decide) ?_
  refine sc_newa (pc := 39) (bc := 4) (bs := 408) (t := 0) (N := 102) nM8 dX8_init_39 rfl (by decide) ac_int ((hG 98 (by decide)).trans lay_98) (by decide +kernel) (by decide +kernel) (by decide +kernel) (by decide +kernel) (fun M9 hM9 nM9 => ?_) (by decide +kernel) (by decide +kernel)
  refine sx_putFA (pc := 41) dX8_init_41 f_8_24 rfl kr_8 ((hG 93 (by decide)).trans lay_93) (by rw [nM9]; decide) rfl ?_
  refine sx_ren (fun M10 hM10 => ?_)
  have nM10 : M10.1 = 99 := by rw [hM10]; exact nM9
  refine sx_aload_n (pc := 44) dX8_init_44 sx_m0 ?_
  refine sx_iload_n (pc := 45) dX8_init_45 sx_m1 ?_
  refine sx_iload_n (pc := 46) dX8_init_46 sx_m2 ?_
  refine sx_iadd (pc := 47) dX8_init_47 ?_
  refine sx_topI (x := 102) (by decide) ?_
  refine sc_newa (pc := 48) (bc := 3) (bs := 306) (t := 0) (N := 102) nM10 dX8_init_48 rfl (by decide) ac_int ((hG 99 (by decide)).trans lay_99) (by decide +kernel) (by decide +kernel) (by decide +kernel) (by decide +kernel) (fun M11 hM11 nM11 => ?_) (by decide +kernel) (by decide +kernel)
  refine sx_putFA (pc := 50) dX8_init_50 f_8_27 rfl kr_8 ((hG 93 (by decide)).trans lay_93) (by rw [nM11]; decide) rfl ?_
  refine sx_ren (fun M12 hM12 => ?_)
  have nM12 : M12.1 = 100 := by rw [hM12]; exact nM11
  refine sx_aload_n (pc := 53) dX8_init_53 sx_m0 ?_
  refine sx_iload_n (pc := 54) dX8_init_54 sx_m1 ?_
  refine sx_iload_n (pc := 55) dX8_init_55 sx_m2 ?_
  refine sx_iadd (pc := 56) dX8_init_56 ?_
  refine sx_topI (x := 102) (by decide) ?_
  refine sc_newa (pc := 57) (bc := 2) (bs := 204) (t := 0) (N := 102) nM12 dX8_init_57 rfl (by decide) ac_int ((hG 100 (by decide)).trans lay_100) (by decide +kernel) (by decide +kernel) (by decide +kernel) (by decide +kernel) (fun M13 hM13 nM13 => ?_) (by decide +kernel) (by decide +kernel)
  refine sx_putFA (pc := 59) dX8_init_59 f_8_30 rfl kr_8 ((hG 93 (by decide)).trans lay_93) (by rw [nM13]; decide) rfl ?_
  refine sx_ren (fun M14 hM14 => ?_)
  have nM14 : M14.1 = 101 := by rw [hM14]; exact nM13
  refine sx_aload_n (pc := 62) dX8_init_62 sx_m0 ?_
  refine sx_iload_n (pc := 63) dX8_init_63 sx_m1 ?_
  refine sx_iload_n (pc := 64) dX8_init_64 sx_m2 ?_
  refine sx_iadd (pc := 65) dX8_init_65 ?_
  refine sx_topI (x := 102) (by decide) ?_
  refine sc_newa (pc := 66) (bc := 1) (bs := 102) (t := 0) (N := 102) nM14 dX8_init_66 rfl (by decide) ac_int ((hG 101 (by decide)).trans lay_101) (by decide +kernel) (by decide +kernel) (by decide +kernel) (by decide +kernel) (fun M15 hM15 nM15 => ?_) (by decide +kernel) (by decide +kernel)
  refine sx_putFA (pc := 68) dX8_init_68 f_8_33 rfl kr_8 ((hG 93 (by decide)).trans lay_93) (by rw [nM15]; decide) rfl ?_
  refine sx_ren (fun M16 hM16 => ?_)
  have nM16 : M16.1 = 102 := by rw [hM16]; exact nM15
  refine sx_aload_n (pc := 71) dX8_init_71 sx_m0 ?_
  refine sx_iload_n (pc := 72) dX8_init_72 sx_m1 ?_
  refine sx_iload_n (pc := 73) dX8_init_73 sx_m2 ?_
  refine sx_iadd (pc := 74) dX8_init_74 ?_
  refine sx_topI (x := 102) (by decide) ?_
  refine sc_newa (pc := 75) (bc := 0) (bs := 0) (t := 0) (N := 102) nM16 dX8_init_75 rfl (by decide) ac_int ((hG 102 (by decide)).trans lay_102) (by decide +kernel) (by decide +kernel) (by decide +kernel) (by decide +kernel) (fun M17 hM17 nM17 => ?_) (by decide +kernel) (by decide +kernel)
  refine sx_putFA (pc := 77) dX8_init_77 f_8_36 rfl kr_8 ((hG 93 (by decide)).trans lay_93) (by rw [nM17]; decide) rfl ?_
  refine sx_ren (fun M18 hM18 => ?_)
  have nM18 : M18.1 = 103 := by rw [hM18]; exact nM17
  refine sx_aload_n (pc := 80) dX8_init_80 sx_m0 ?_
  refine sx_iload_n (pc := 81) dX8_init_81 sx_m2 ?_
  refine sx_putI (pc := 82) dX8_init_82 f_8_39 ((hG 93 (by decide)).trans lay_93) (by rw [nM18]; decide) rfl ?_
  refine sx_ren (fun M19 hM19 => ?_)
  have nM19 : M19.1 = 103 := by rw [hM19]; exact nM18
  exact sx_vret (pc := 85) dX8_init_85 rfl (by subst hM1; subst hM2; subst hM3; subst hM4; subst hM5; subst hM6; subst hM7; subst hM8; subst hM9; subst hM10; subst hM11; subst hM12; subst hM13; subst hM14; subst hM15; subst hM16; subst hM17; subst hM18; subst hM19; exact hP)
def e_14 (M : sx_M) : sx_M := sx_sI (sx_sR (sx_nw (sx_sR (sx_nw (sx_sR (sx_nw (sx_sR (sx_nw (sx_sR (sx_nw (sx_sR (sx_nw (sx_sR (sx_nw (sx_sR (sx_nw (sx_sR (sx_nw (M)) 103 6 (some 104))) 103 7 (some 105))) 103 8 (some 106))) 103 0 (some 107))) 103 1 (some 108))) 103 2 (some 109))) 103 3 (some 110))) 103 4 (some 111))) 103 5 (some 112)) 103 11 2
theorem e_14_R {M M2 : sx_M} (h : rq M M2) : rq (e_14 M) (e_14 M2) := rq_sI (rq_sR (rq_nw (rq_sR (rq_nw (rq_sR (rq_nw (rq_sR (rq_nw (rq_sR (rq_nw (rq_sR (rq_nw (rq_sR (rq_nw (rq_sR (rq_nw (rq_sR (rq_nw (h)))))))))))))))))))
set_option maxRecDepth 20000 in
theorem e_14_n {M : sx_M} (h : M.1 = 104) : (e_14 M).1 = 113 := by
  show M.1 + 9 = 113
  rw [h]
set_option maxRecDepth 20000 in
set_option maxHeartbeats 4000000 in
theorem ct_14 {g : sx_G} (hG : sx_Go g) {P : Option Value → sx_M → Prop} {M : sx_M} (nM : M.1 = 104) (hP : P none (e_14 M)) : sx_J g qX8_init 1 0 [(0, .ref 103), (1, .int 100), (2, .int 2)] [] M 9 636 P := by
  refine sx_aload_n (pc := 0) dX8_init_0 sx_m0 ?_
  refine sx_objInit (pc := 1) dX8_init_1 l_X8_3 oi_i oi_c (by decide) (Nat.le_of_ble_eq_true rfl) ?_
  refine sx_aload_n (pc := 4) dX8_init_4 sx_m0 ?_
  refine sx_bipush (pc := 5) (v := 20) dX8_init_5 (by decide +kernel) ?_
  refine sc_newa (pc := 7) (bc := 8) (bs := 616) (t := 0) (N := 20) nM dX8_init_7 rfl (by decide) ac_int ((hG 104 (by decide)).trans lay_104) (by decide +kernel) (by decide +kernel) (by decide +kernel) (by decide +kernel) (fun M1 hM1 nM1 => ?_) (by decide +kernel) (by decide +kernel)
  refine sx_putFA (pc := 9) dX8_init_9 f_8_9 rfl kr_8 ((hG 103 (by decide)).trans lay_103) (by rw [nM1]; decide) rfl ?_
  refine sx_ren (fun M2 hM2 => ?_)
  have nM2 : M2.1 = 105 := by rw [hM2]; exact nM1
  refine sx_aload_n (pc := 12) dX8_init_12 sx_m0 ?_
  refine sx_iconst (pc := 13) (v := 2) dX8_init_13 (by decide +kernel) ?_
  refine sc_newa (pc := 14) (bc := 7) (bs := 614) (t := 0) (N := 2) nM2 dX8_init_14 rfl (by decide) ac_int ((hG 105 (by decide)).trans lay_105) (by decide +kernel) (by decide +kernel) (by decide +kernel) (by decide +kernel) (fun M3 hM3 nM3 => ?_) (by decide +kernel) (by decide +kernel)
  refine sx_putFA (pc := 16) dX8_init_16 f_8_15 rfl kr_8 ((hG 103 (by decide)).trans lay_103) (by rw [nM3]; decide) rfl ?_
  refine sx_ren (fun M4 hM4 => ?_)
  have nM4 : M4.1 = 106 := by rw [hM4]; exact nM3
  refine sx_aload_n (pc := 19) dX8_init_19 sx_m0 ?_
  refine sx_iconst (pc := 20) (v := 2) dX8_init_20 (by decide +kernel) ?_
  refine sc_newa (pc := 21) (bc := 6) (bs := 612) (t := 0) (N := 2) nM4 dX8_init_21 rfl (by decide) ac_int ((hG 106 (by decide)).trans lay_106) (by decide +kernel) (by decide +kernel) (by decide +kernel) (by decide +kernel) (fun M5 hM5 nM5 => ?_) (by decide +kernel) (by decide +kernel)
  refine sx_putFA (pc := 23) dX8_init_23 f_8_18 rfl kr_8 ((hG 103 (by decide)).trans lay_103) (by rw [nM5]; decide) rfl ?_
  refine sx_ren (fun M6 hM6 => ?_)
  have nM6 : M6.1 = 107 := by rw [hM6]; exact nM5
  refine sx_aload_n (pc := 26) dX8_init_26 sx_m0 ?_
  refine sx_iload_n (pc := 27) dX8_init_27 sx_m1 ?_
  refine sx_iload_n (pc := 28) dX8_init_28 sx_m2 ?_
  refine sx_iadd (pc := 29) dX8_init_29 ?_
  refine sx_topI (x := 102) (by decide) ?_
  refine sc_newa (pc := 30) (bc := 5) (bs := 510) (t := 0) (N := 102) nM6 dX8_init_30 rfl (by decide) ac_int ((hG 107 (by decide)).trans lay_107) (by decide +kernel) (by decide +kernel) (by decide +kernel) (by decide +kernel) (fun M7 hM7 nM7 => ?_) (by decide +kernel) (by decide +kernel)
  refine sx_putFA (pc := 32) dX8_init_32 f_8_21 rfl kr_8 ((hG 103 (by decide)).trans lay_103) (by rw [nM7]; decide) rfl ?_
  refine sx_ren (fun M8 hM8 => ?_)
  have nM8 : M8.1 = 108 := by rw [hM8]; exact nM7
  refine sx_aload_n (pc := 35) dX8_init_35 sx_m0 ?_
  refine sx_iload_n (pc := 36) dX8_init_36 sx_m1 ?_
  refine sx_iload_n (pc := 37) dX8_init_37 sx_m2 ?_
  refine sx_iadd (pc := 38) dX8_init_38 ?_
  refine sx_topI (x := 102) (by decide) ?_
  refine sc_newa (pc := 39) (bc := 4) (bs := 408) (t := 0) (N := 102) nM8 dX8_init_39 rfl (by decide) ac_int ((hG 108 (by decide)).trans lay_108) (by decide +kernel) (by decide +kernel) (by decide +kernel) (by decide +kernel) (fun M9 hM9 nM9 => ?_) (by decide +kernel) (by decide +kernel)
  refine sx_putFA (pc := 41) dX8_init_41 f_8_24 rfl kr_8 ((hG 103 (by decide)).trans lay_103) (by rw [nM9]; decide) rfl ?_
  refine sx_ren (fun M10 hM10 => ?_)
  have nM10 : M10.1 = 109 := by rw [hM10]; exact nM9
  refine sx_aload_n (pc := 44) dX8_init_44 sx_m0 ?_
  refine sx_iload_n (pc := 45) dX8_init_45 sx_m1 ?_
  refine sx_iload_n (pc := 46) dX8_init_46 sx_m2 ?_
  refine sx_iadd (pc := 47) dX8_init_47 ?_
  refine sx_topI (x := 102) (by decide) ?_
  refine sc_newa (pc := 48) (bc := 3) (bs := 306) (t := 0) (N := 102) nM10 dX8_init_48 rfl (by decide) ac_int ((hG 109 (by decide)).trans lay_109) (by decide +kernel) (by decide +kernel) (by decide +kernel) (by decide +kernel) (fun M11 hM11 nM11 => ?_) (by decide +kernel) (by decide +kernel)
  refine sx_putFA (pc := 50) dX8_init_50 f_8_27 rfl kr_8 ((hG 103 (by decide)).trans lay_103) (by rw [nM11]; decide) rfl ?_
  refine sx_ren (fun M12 hM12 => ?_)
  have nM12 : M12.1 = 110 := by rw [hM12]; exact nM11
  refine sx_aload_n (pc := 53) dX8_init_53 sx_m0 ?_
  refine sx_iload_n (pc := 54) dX8_init_54 sx_m1 ?_
  refine sx_iload_n (pc := 55) dX8_init_55 sx_m2 ?_
  refine sx_iadd (pc := 56) dX8_init_56 ?_
  refine sx_topI (x := 102) (by decide) ?_
  refine sc_newa (pc := 57) (bc := 2) (bs := 204) (t := 0) (N := 102) nM12 dX8_init_57 rfl (by decide) ac_int ((hG 110 (by decide)).trans lay_110) (by decide +kernel) (by decide +kernel) (by decide +kernel) (by decide +kernel) (fun M13 hM13 nM13 => ?_) (by decide +kernel) (by decide +kernel)
  refine sx_putFA (pc := 59) dX8_init_59 f_8_30 rfl kr_8 ((hG 103 (by decide)).trans lay_103) (by rw [nM13]; decide) rfl ?_
  refine sx_ren (fun M14 hM14 => ?_)
  have nM14 : M14.1 = 111 := by rw [hM14]; exact nM13
  refine sx_aload_n (pc := 62) dX8_init_62 sx_m0 ?_
  refine sx_iload_n (pc := 63) dX8_init_63 sx_m1 ?_
  refine sx_iload_n (pc := 64) dX8_init_64 sx_m2 ?_
  refine sx_iadd (pc := 65) dX8_init_65 ?_
  refine sx_topI (x := 102) (by decide) ?_
  refine sc_newa (pc := 66) (bc := 1) (bs := 102) (t := 0) (N := 102) nM14 dX8_init_66 rfl (by decide) ac_int ((hG 111 (by decide)).trans lay_111) (by decide +kernel) (by decide +kernel) (by decide +kernel) (by decide +kernel) (fun M15 hM15 nM15 => ?_) (by decide +kernel) (by decide +kernel)
  refine sx_putFA (pc := 68) dX8_init_68 f_8_33 rfl kr_8 ((hG 103 (by decide)).trans lay_103) (by rw [nM15]; decide) rfl ?_
  refine sx_ren (fun M16 hM16 => ?_)
  have nM16 : M16.1 = 112 := by rw [hM16]; exact nM15
  refine sx_aload_n (pc := 71) dX8_init_71 sx_m0 ?_
  refine sx_iload_n (pc := 72) dX8_init_72 sx_m1 ?_
  refine sx_iload_n (pc := 73) dX8_init_73 sx_m2 ?_
  refine sx_iadd (pc := 74) dX8_init_74 ?_
  refine sx_topI (x := 102) (by decide) ?_
  refine sc_newa (pc := 75) (bc := 0) (bs := 0) (t := 0) (N := 102) nM16 dX8_init_75 rfl (by decide) ac_int ((hG 112 (by decide)).trans lay_112) (by decide +kernel) (by decide +kernel) (by decide +kernel) (by decide +kernel) (fun M17 hM17 nM17 => ?_) (by decide +kernel) (by decide +kernel)
  refine sx_putFA (pc := 77) dX8_init_77 f_8_36 rfl kr_8 ((hG 103 (by decide)).trans lay_103) (by rw [nM17]; decide) rfl ?_
  refine sx_ren (fun M18 hM18 => ?_)
  have nM18 : M18.1 = 113 := by rw [hM18]; exact nM17
  refine sx_aload_n (pc := 80) dX8_init_80 sx_m0 ?_
  refine sx_iload_n (pc := 81) dX8_init_81 sx_m2 ?_
  refine sx_putI (pc := 82) dX8_init_82 f_8_39 ((hG 103 (by decide)).trans lay_103) (by rw [nM18]; decide) rfl ?_
  refine sx_ren (fun M19 hM19 => ?_)
  have nM19 : M19.1 = 113 := by rw [hM19]; exact nM18
  exact sx_vret (pc := 85) dX8_init_85 rfl (by subst hM1; subst hM2; subst hM3; subst hM4; subst hM5; subst hM6; subst hM7; subst hM8; subst hM9; subst hM10; subst hM11; subst hM12; subst hM13; subst hM14; subst hM15; subst hM16; subst hM17; subst hM18; subst hM19; exact hP)
def e_15 (M : sx_M) : sx_M := sx_sI (sx_sR (sx_nw (sx_sR (sx_nw (sx_sR (sx_nw (sx_sR (sx_nw (sx_sR (sx_nw (sx_sR (sx_nw (sx_sR (sx_nw (sx_sR (sx_nw (sx_sR (sx_nw (M)) 113 6 (some 114))) 113 7 (some 115))) 113 8 (some 116))) 113 0 (some 117))) 113 1 (some 118))) 113 2 (some 119))) 113 3 (some 120))) 113 4 (some 121))) 113 5 (some 122)) 113 11 2
theorem e_15_R {M M2 : sx_M} (h : rq M M2) : rq (e_15 M) (e_15 M2) := rq_sI (rq_sR (rq_nw (rq_sR (rq_nw (rq_sR (rq_nw (rq_sR (rq_nw (rq_sR (rq_nw (rq_sR (rq_nw (rq_sR (rq_nw (rq_sR (rq_nw (rq_sR (rq_nw (h)))))))))))))))))))
set_option maxRecDepth 20000 in
theorem e_15_n {M : sx_M} (h : M.1 = 114) : (e_15 M).1 = 123 := by
  show M.1 + 9 = 123
  rw [h]
set_option maxRecDepth 20000 in
set_option maxHeartbeats 4000000 in
theorem ct_15 {g : sx_G} (hG : sx_Go g) {P : Option Value → sx_M → Prop} {M : sx_M} (nM : M.1 = 114) (hP : P none (e_15 M)) : sx_J g qX8_init 1 0 [(0, .ref 113), (1, .int 100), (2, .int 2)] [] M 9 636 P := by
  refine sx_aload_n (pc := 0) dX8_init_0 sx_m0 ?_
  refine sx_objInit (pc := 1) dX8_init_1 l_X8_3 oi_i oi_c (by decide) (Nat.le_of_ble_eq_true rfl) ?_
  refine sx_aload_n (pc := 4) dX8_init_4 sx_m0 ?_
  refine sx_bipush (pc := 5) (v := 20) dX8_init_5 (by decide +kernel) ?_
  refine sc_newa (pc := 7) (bc := 8) (bs := 616) (t := 0) (N := 20) nM dX8_init_7 rfl (by decide) ac_int ((hG 114 (by decide)).trans lay_114) (by decide +kernel) (by decide +kernel) (by decide +kernel) (by decide +kernel) (fun M1 hM1 nM1 => ?_) (by decide +kernel) (by decide +kernel)
  refine sx_putFA (pc := 9) dX8_init_9 f_8_9 rfl kr_8 ((hG 113 (by decide)).trans lay_113) (by rw [nM1]; decide) rfl ?_
  refine sx_ren (fun M2 hM2 => ?_)
  have nM2 : M2.1 = 115 := by rw [hM2]; exact nM1
  refine sx_aload_n (pc := 12) dX8_init_12 sx_m0 ?_
  refine sx_iconst (pc := 13) (v := 2) dX8_init_13 (by decide +kernel) ?_
  refine sc_newa (pc := 14) (bc := 7) (bs := 614) (t := 0) (N := 2) nM2 dX8_init_14 rfl (by decide) ac_int ((hG 115 (by decide)).trans lay_115) (by decide +kernel) (by decide +kernel) (by decide +kernel) (by decide +kernel) (fun M3 hM3 nM3 => ?_) (by decide +kernel) (by decide +kernel)
  refine sx_putFA (pc := 16) dX8_init_16 f_8_15 rfl kr_8 ((hG 113 (by decide)).trans lay_113) (by rw [nM3]; decide) rfl ?_
  refine sx_ren (fun M4 hM4 => ?_)
  have nM4 : M4.1 = 116 := by rw [hM4]; exact nM3
  refine sx_aload_n (pc := 19) dX8_init_19 sx_m0 ?_
  refine sx_iconst (pc := 20) (v := 2) dX8_init_20 (by decide +kernel) ?_
  refine sc_newa (pc := 21) (bc := 6) (bs := 612) (t := 0) (N := 2) nM4 dX8_init_21 rfl (by decide) ac_int ((hG 116 (by decide)).trans lay_116) (by decide +kernel) (by decide +kernel) (by decide +kernel) (by decide +kernel) (fun M5 hM5 nM5 => ?_) (by decide +kernel) (by decide +kernel)
  refine sx_putFA (pc := 23) dX8_init_23 f_8_18 rfl kr_8 ((hG 113 (by decide)).trans lay_113) (by rw [nM5]; decide) rfl ?_
  refine sx_ren (fun M6 hM6 => ?_)
  have nM6 : M6.1 = 117 := by rw [hM6]; exact nM5
  refine sx_aload_n (pc := 26) dX8_init_26 sx_m0 ?_
  refine sx_iload_n (pc := 27) dX8_init_27 sx_m1 ?_
  refine sx_iload_n (pc := 28) dX8_init_28 sx_m2 ?_
  refine sx_iadd (pc := 29) dX8_init_29 ?_
  refine sx_topI (x := 102) (by decide) ?_
  refine sc_newa (pc := 30) (bc := 5) (bs := 510) (t := 0) (N := 102) nM6 dX8_init_30 rfl (by decide) ac_int ((hG 117 (by decide)).trans lay_117) (by decide +kernel) (by decide +kernel) (by decide +kernel) (by decide +kernel) (fun M7 hM7 nM7 => ?_) (by decide +kernel) (by decide +kernel)
  refine sx_putFA (pc := 32) dX8_init_32 f_8_21 rfl kr_8 ((hG 113 (by decide)).trans lay_113) (by rw [nM7]; decide) rfl ?_
  refine sx_ren (fun M8 hM8 => ?_)
  have nM8 : M8.1 = 118 := by rw [hM8]; exact nM7
  refine sx_aload_n (pc := 35) dX8_init_35 sx_m0 ?_
  refine sx_iload_n (pc := 36) dX8_init_36 sx_m1 ?_
  refine sx_iload_n (pc := 37) dX8_init_37 sx_m2 ?_
  refine sx_iadd (pc := 38) dX8_init_38 ?_
  refine sx_topI (x := 102) (by decide) ?_
  refine sc_newa (pc := 39) (bc := 4) (bs := 408) (t := 0) (N := 102) nM8 dX8_init_39 rfl (by decide) ac_int ((hG 118 (by decide)).trans lay_118) (by decide +kernel) (by decide +kernel) (by decide +kernel) (by decide +kernel) (fun M9 hM9 nM9 => ?_) (by decide +kernel) (by decide +kernel)
  refine sx_putFA (pc := 41) dX8_init_41 f_8_24 rfl kr_8 ((hG 113 (by decide)).trans lay_113) (by rw [nM9]; decide) rfl ?_
  refine sx_ren (fun M10 hM10 => ?_)
  have nM10 : M10.1 = 119 := by rw [hM10]; exact nM9
  refine sx_aload_n (pc := 44) dX8_init_44 sx_m0 ?_
  refine sx_iload_n (pc := 45) dX8_init_45 sx_m1 ?_
  refine sx_iload_n (pc := 46) dX8_init_46 sx_m2 ?_
  refine sx_iadd (pc := 47) dX8_init_47 ?_
  refine sx_topI (x := 102) (by decide) ?_
  refine sc_newa (pc := 48) (bc := 3) (bs := 306) (t := 0) (N := 102) nM10 dX8_init_48 rfl (by decide) ac_int ((hG 119 (by decide)).trans lay_119) (by decide +kernel) (by decide +kernel) (by decide +kernel) (by decide +kernel) (fun M11 hM11 nM11 => ?_) (by decide +kernel) (by decide +kernel)
  refine sx_putFA (pc := 50) dX8_init_50 f_8_27 rfl kr_8 ((hG 113 (by decide)).trans lay_113) (by rw [nM11]; decide) rfl ?_
  refine sx_ren (fun M12 hM12 => ?_)
  have nM12 : M12.1 = 120 := by rw [hM12]; exact nM11
  refine sx_aload_n (pc := 53) dX8_init_53 sx_m0 ?_
  refine sx_iload_n (pc := 54) dX8_init_54 sx_m1 ?_
  refine sx_iload_n (pc := 55) dX8_init_55 sx_m2 ?_
  refine sx_iadd (pc := 56) dX8_init_56 ?_
  refine sx_topI (x := 102) (by decide) ?_
  refine sc_newa (pc := 57) (bc := 2) (bs := 204) (t := 0) (N := 102) nM12 dX8_init_57 rfl (by decide) ac_int ((hG 120 (by decide)).trans lay_120) (by decide +kernel) (by decide +kernel) (by decide +kernel) (by decide +kernel) (fun M13 hM13 nM13 => ?_) (by decide +kernel) (by decide +kernel)
  refine sx_putFA (pc := 59) dX8_init_59 f_8_30 rfl kr_8 ((hG 113 (by decide)).trans lay_113) (by rw [nM13]; decide) rfl ?_
  refine sx_ren (fun M14 hM14 => ?_)
  have nM14 : M14.1 = 121 := by rw [hM14]; exact nM13
  refine sx_aload_n (pc := 62) dX8_init_62 sx_m0 ?_
  refine sx_iload_n (pc := 63) dX8_init_63 sx_m1 ?_
  refine sx_iload_n (pc := 64) dX8_init_64 sx_m2 ?_
  refine sx_iadd (pc := 65) dX8_init_65 ?_
  refine sx_topI (x := 102) (by decide) ?_
  refine sc_newa (pc := 66) (bc := 1) (bs := 102) (t := 0) (N := 102) nM14 dX8_init_66 rfl (by decide) ac_int ((hG 121 (by decide)).trans lay_121) (by decide +kernel) (by decide +kernel) (by decide +kernel) (by decide +kernel) (fun M15 hM15 nM15 => ?_) (by decide +kernel) (by decide +kernel)
  refine sx_putFA (pc := 68) dX8_init_68 f_8_33 rfl kr_8 ((hG 113 (by decide)).trans lay_113) (by rw [nM15]; decide) rfl ?_
  refine sx_ren (fun M16 hM16 => ?_)
  have nM16 : M16.1 = 122 := by rw [hM16]; exact nM15
  refine sx_aload_n (pc := 71) dX8_init_71 sx_m0 ?_
  refine sx_iload_n (pc := 72) dX8_init_72 sx_m1 ?_
  refine sx_iload_n (pc := 73) dX8_init_73 sx_m2 ?_
  refine sx_iadd (pc := 74) dX8_init_74 ?_
  refine sx_topI (x := 102) (by decide) ?_
  refine sc_newa (pc := 75) (bc := 0) (bs := 0) (t := 0) (N := 102) nM16 dX8_init_75 rfl (by decide) ac_int ((hG 122 (by decide)).trans lay_122) (by decide +kernel) (by decide +kernel) (by decide +kernel) (by decide +kernel) (fun M17 hM17 nM17 => ?_) (by decide +kernel) (by decide +kernel)
  refine sx_putFA (pc := 77) dX8_init_77 f_8_36 rfl kr_8 ((hG 113 (by decide)).trans lay_113) (by rw [nM17]; decide) rfl ?_
  refine sx_ren (fun M18 hM18 => ?_)
  have nM18 : M18.1 = 123 := by rw [hM18]; exact nM17
  refine sx_aload_n (pc := 80) dX8_init_80 sx_m0 ?_
  refine sx_iload_n (pc := 81) dX8_init_81 sx_m2 ?_
  refine sx_putI (pc := 82) dX8_init_82 f_8_39 ((hG 113 (by decide)).trans lay_113) (by rw [nM18]; decide) rfl ?_
  refine sx_ren (fun M19 hM19 => ?_)
  have nM19 : M19.1 = 123 := by rw [hM19]; exact nM18
  exact sx_vret (pc := 85) dX8_init_85 rfl (by subst hM1; subst hM2; subst hM3; subst hM4; subst hM5; subst hM6; subst hM7; subst hM8; subst hM9; subst hM10; subst hM11; subst hM12; subst hM13; subst hM14; subst hM15; subst hM16; subst hM17; subst hM18; subst hM19; exact hP)
def e_16 (M : sx_M) : sx_M := sx_sI (sx_sR (sx_nw (sx_sR (sx_nw (sx_sR (sx_nw (sx_sR (sx_nw (sx_sR (sx_nw (sx_sR (sx_nw (sx_sR (sx_nw (sx_sR (sx_nw (sx_sR (sx_nw (M)) 123 6 (some 124))) 123 7 (some 125))) 123 8 (some 126))) 123 0 (some 127))) 123 1 (some 128))) 123 2 (some 129))) 123 3 (some 130))) 123 4 (some 131))) 123 5 (some 132)) 123 11 2
theorem e_16_R {M M2 : sx_M} (h : rq M M2) : rq (e_16 M) (e_16 M2) := rq_sI (rq_sR (rq_nw (rq_sR (rq_nw (rq_sR (rq_nw (rq_sR (rq_nw (rq_sR (rq_nw (rq_sR (rq_nw (rq_sR (rq_nw (rq_sR (rq_nw (rq_sR (rq_nw (h)))))))))))))))))))
set_option maxRecDepth 20000 in
theorem e_16_n {M : sx_M} (h : M.1 = 124) : (e_16 M).1 = 133 := by
  show M.1 + 9 = 133
  rw [h]
set_option maxRecDepth 20000 in
set_option maxHeartbeats 4000000 in
theorem ct_16 {g : sx_G} (hG : sx_Go g) {P : Option Value → sx_M → Prop} {M : sx_M} (nM : M.1 = 124) (hP : P none (e_16 M)) : sx_J g qX8_init 1 0 [(0, .ref 123), (1, .int 100), (2, .int 2)] [] M 9 636 P := by
  refine sx_aload_n (pc := 0) dX8_init_0 sx_m0 ?_
  refine sx_objInit (pc := 1) dX8_init_1 l_X8_3 oi_i oi_c (by decide) (Nat.le_of_ble_eq_true rfl) ?_
  refine sx_aload_n (pc := 4) dX8_init_4 sx_m0 ?_
  refine sx_bipush (pc := 5) (v := 20) dX8_init_5 (by decide +kernel) ?_
  refine sc_newa (pc := 7) (bc := 8) (bs := 616) (t := 0) (N := 20) nM dX8_init_7 rfl (by decide) ac_int ((hG 124 (by decide)).trans lay_124) (by decide +kernel) (by decide +kernel) (by decide +kernel) (by decide +kernel) (fun M1 hM1 nM1 => ?_) (by decide +kernel) (by decide +kernel)
  refine sx_putFA (pc := 9) dX8_init_9 f_8_9 rfl kr_8 ((hG 123 (by decide)).trans lay_123) (by rw [nM1]; decide) rfl ?_
  refine sx_ren (fun M2 hM2 => ?_)
  have nM2 : M2.1 = 125 := by rw [hM2]; exact nM1
  refine sx_aload_n (pc := 12) dX8_init_12 sx_m0 ?_
  refine sx_iconst (pc := 13) (v := 2) dX8_init_13 (by decide +kernel) ?_
  refine sc_newa (pc := 14) (bc := 7) (bs := 614) (t := 0) (N := 2) nM2 dX8_init_14 rfl (by decide) ac_int ((hG 125 (by decide)).trans lay_125) (by decide +kernel) (by decide +kernel) (by decide +kernel) (by decide +kernel) (fun M3 hM3 nM3 => ?_) (by decide +kernel) (by decide +kernel)
  refine sx_putFA (pc := 16) dX8_init_16 f_8_15 rfl kr_8 ((hG 123 (by decide)).trans lay_123) (by rw [nM3]; decide) rfl ?_
  refine sx_ren (fun M4 hM4 => ?_)
  have nM4 : M4.1 = 126 := by rw [hM4]; exact nM3
  refine sx_aload_n (pc := 19) dX8_init_19 sx_m0 ?_
  refine sx_iconst (pc := 20) (v := 2) dX8_init_20 (by decide +kernel) ?_
  refine sc_newa (pc := 21) (bc := 6) (bs := 612) (t := 0) (N := 2) nM4 dX8_init_21 rfl (by decide) ac_int ((hG 126 (by decide)).trans lay_126) (by decide +kernel) (by decide +kernel) (by decide +kernel) (by decide +kernel) (fun M5 hM5 nM5 => ?_) (by decide +kernel) (by decide +kernel)
  refine sx_putFA (pc := 23) dX8_init_23 f_8_18 rfl kr_8 ((hG 123 (by decide)).trans lay_123) (by rw [nM5]; decide) rfl ?_
  refine sx_ren (fun M6 hM6 => ?_)
  have nM6 : M6.1 = 127 := by rw [hM6]; exact nM5
  refine sx_aload_n (pc := 26) dX8_init_26 sx_m0 ?_
  refine sx_iload_n (pc := 27) dX8_init_27 sx_m1 ?_
  refine sx_iload_n (pc := 28) dX8_init_28 sx_m2 ?_
  refine sx_iadd (pc := 29) dX8_init_29 ?_
  refine sx_topI (x := 102) (by decide) ?_
  refine sc_newa (pc := 30) (bc := 5) (bs := 510) (t := 0) (N := 102) nM6 dX8_init_30 rfl (by decide) ac_int ((hG 127 (by decide)).trans lay_127) (by decide +kernel) (by decide +kernel) (by decide +kernel) (by decide +kernel) (fun M7 hM7 nM7 => ?_) (by decide +kernel) (by decide +kernel)
  refine sx_putFA (pc := 32) dX8_init_32 f_8_21 rfl kr_8 ((hG 123 (by decide)).trans lay_123) (by rw [nM7]; decide) rfl ?_
  refine sx_ren (fun M8 hM8 => ?_)
  have nM8 : M8.1 = 128 := by rw [hM8]; exact nM7
  refine sx_aload_n (pc := 35) dX8_init_35 sx_m0 ?_
  refine sx_iload_n (pc := 36) dX8_init_36 sx_m1 ?_
  refine sx_iload_n (pc := 37) dX8_init_37 sx_m2 ?_
  refine sx_iadd (pc := 38) dX8_init_38 ?_
  refine sx_topI (x := 102) (by decide) ?_
  refine sc_newa (pc := 39) (bc := 4) (bs := 408) (t := 0) (N := 102) nM8 dX8_init_39 rfl (by decide) ac_int ((hG 128 (by decide)).trans lay_128) (by decide +kernel) (by decide +kernel) (by decide +kernel) (by decide +kernel) (fun M9 hM9 nM9 => ?_) (by decide +kernel) (by decide +kernel)
  refine sx_putFA (pc := 41) dX8_init_41 f_8_24 rfl kr_8 ((hG 123 (by decide)).trans lay_123) (by rw [nM9]; decide) rfl ?_
  refine sx_ren (fun M10 hM10 => ?_)
  have nM10 : M10.1 = 129 := by rw [hM10]; exact nM9
  refine sx_aload_n (pc := 44) dX8_init_44 sx_m0 ?_
  refine sx_iload_n (pc := 45) dX8_init_45 sx_m1 ?_
  refine sx_iload_n (pc := 46) dX8_init_46 sx_m2 ?_
  refine sx_iadd (pc := 47) dX8_init_47 ?_
  refine sx_topI (x := 102) (by decide) ?_
  refine sc_newa (pc := 48) (bc := 3) (bs := 306) (t := 0) (N := 102) nM10 dX8_init_48 rfl (by decide) ac_int ((hG 129 (by decide)).trans lay_129) (by decide +kernel) (by decide +kernel) (by decide +kernel) (by decide +kernel) (fun M11 hM11 nM11 => ?_) (by decide +kernel) (by decide +kernel)
  refine sx_putFA (pc := 50) dX8_init_50 f_8_27 rfl kr_8 ((hG 123 (by decide)).trans lay_123) (by rw [nM11]; decide) rfl ?_
  refine sx_ren (fun M12 hM12 => ?_)
  have nM12 : M12.1 = 130 := by rw [hM12]; exact nM11
  refine sx_aload_n (pc := 53) dX8_init_53 sx_m0 ?_
  refine sx_iload_n (pc := 54) dX8_init_54 sx_m1 ?_
  refine sx_iload_n (pc := 55) dX8_init_55 sx_m2 ?_
  refine sx_iadd (pc := 56) dX8_init_56 ?_
  refine sx_topI (x := 102) (by decide) ?_
  refine sc_newa (pc := 57) (bc := 2) (bs := 204) (t := 0) (N := 102) nM12 dX8_init_57 rfl (by decide) ac_int ((hG 130 (by decide)).trans lay_130) (by decide +kernel) (by decide +kernel) (by decide +kernel) (by decide +kernel) (fun M13 hM13 nM13 => ?_) (by decide +kernel) (by decide +kernel)
  refine sx_putFA (pc := 59) dX8_init_59 f_8_30 rfl kr_8 ((hG 123 (by decide)).trans lay_123) (by rw [nM13]; decide) rfl ?_
  refine sx_ren (fun M14 hM14 => ?_)
  have nM14 : M14.1 = 131 := by rw [hM14]; exact nM13
  refine sx_aload_n (pc := 62) dX8_init_62 sx_m0 ?_
  refine sx_iload_n (pc := 63) dX8_init_63 sx_m1 ?_
  refine sx_iload_n (pc := 64) dX8_init_64 sx_m2 ?_
  refine sx_iadd (pc := 65) dX8_init_65 ?_
  refine sx_topI (x := 102) (by decide) ?_
  refine sc_newa (pc := 66) (bc := 1) (bs := 102) (t := 0) (N := 102) nM14 dX8_init_66 rfl (by decide) ac_int ((hG 131 (by decide)).trans lay_131) (by decide +kernel) (by decide +kernel) (by decide +kernel) (by decide +kernel) (fun M15 hM15 nM15 => ?_) (by decide +kernel) (by decide +kernel)
  refine sx_putFA (pc := 68) dX8_init_68 f_8_33 rfl kr_8 ((hG 123 (by decide)).trans lay_123) (by rw [nM15]; decide) rfl ?_
  refine sx_ren (fun M16 hM16 => ?_)
  have nM16 : M16.1 = 132 := by rw [hM16]; exact nM15
  refine sx_aload_n (pc := 71) dX8_init_71 sx_m0 ?_
  refine sx_iload_n (pc := 72) dX8_init_72 sx_m1 ?_
  refine sx_iload_n (pc := 73) dX8_init_73 sx_m2 ?_
  refine sx_iadd (pc := 74) dX8_init_74 ?_
  refine sx_topI (x := 102) (by decide) ?_
  refine sc_newa (pc := 75) (bc := 0) (bs := 0) (t := 0) (N := 102) nM16 dX8_init_75 rfl (by decide) ac_int ((hG 132 (by decide)).trans lay_132) (by decide +kernel) (by decide +kernel) (by decide +kernel) (by decide +kernel) (fun M17 hM17 nM17 => ?_) (by decide +kernel) (by decide +kernel)
  refine sx_putFA (pc := 77) dX8_init_77 f_8_36 rfl kr_8 ((hG 123 (by decide)).trans lay_123) (by rw [nM17]; decide) rfl ?_
  refine sx_ren (fun M18 hM18 => ?_)
  have nM18 : M18.1 = 133 := by rw [hM18]; exact nM17
  refine sx_aload_n (pc := 80) dX8_init_80 sx_m0 ?_
  refine sx_iload_n (pc := 81) dX8_init_81 sx_m2 ?_
  refine sx_putI (pc := 82) dX8_init_82 f_8_39 ((hG 123 (by decide)).trans lay_123) (by rw [nM18]; decide) rfl ?_
  refine sx_ren (fun M19 hM19 => ?_)
  have nM19 : M19.1 = 133 := by rw [hM19]; exact nM18
  exact sx_vret (pc := 85) dX8_init_85 rfl (by subst hM1; subst hM2; subst hM3; subst hM4; subst hM5; subst hM6; subst hM7; subst hM8; subst hM9; subst hM10; subst hM11; subst hM12; subst hM13; subst hM14; subst hM15; subst hM16; subst hM17; subst hM18; subst hM19; exact hP)
def e_17 (M : sx_M) : sx_M := sx_sI (sx_sR (sx_nw (sx_sR (sx_nw (sx_sR (sx_nw (sx_sR (sx_nw (sx_sR (sx_nw (sx_sR (sx_nw (sx_sR (sx_nw (sx_sR (sx_nw (sx_sR (sx_nw (M)) 133 6 (some 134))) 133 7 (some 135))) 133 8 (some 136))) 133 0 (some 137))) 133 1 (some 138))) 133 2 (some 139))) 133 3 (some 140))) 133 4 (some 141))) 133 5 (some 142)) 133 11 2
theorem e_17_R {M M2 : sx_M} (h : rq M M2) : rq (e_17 M) (e_17 M2) := rq_sI (rq_sR (rq_nw (rq_sR (rq_nw (rq_sR (rq_nw (rq_sR (rq_nw (rq_sR (rq_nw (rq_sR (rq_nw (rq_sR (rq_nw (rq_sR (rq_nw (rq_sR (rq_nw (h)))))))))))))))))))
set_option maxRecDepth 20000 in
theorem e_17_n {M : sx_M} (h : M.1 = 134) : (e_17 M).1 = 143 := by
  show M.1 + 9 = 143
  rw [h]
set_option maxRecDepth 20000 in
set_option maxHeartbeats 4000000 in
theorem ct_17 {g : sx_G} (hG : sx_Go g) {P : Option Value → sx_M → Prop} {M : sx_M} (nM : M.1 = 134) (hP : P none (e_17 M)) : sx_J g qX8_init 1 0 [(0, .ref 133), (1, .int 100), (2, .int 2)] [] M 9 636 P := by
  refine sx_aload_n (pc := 0) dX8_init_0 sx_m0 ?_
  refine sx_objInit (pc := 1) dX8_init_1 l_X8_3 oi_i oi_c (by decide) (Nat.le_of_ble_eq_true rfl) ?_
  refine sx_aload_n (pc := 4) dX8_init_4 sx_m0 ?_
  refine sx_bipush (pc := 5) (v := 20) dX8_init_5 (by decide +kernel) ?_
  refine sc_newa (pc := 7) (bc := 8) (bs := 616) (t := 0) (N := 20) nM dX8_init_7 rfl (by decide) ac_int ((hG 134 (by decide)).trans lay_134) (by decide +kernel) (by decide +kernel) (by decide +kernel) (by decide +kernel) (fun M1 hM1 nM1 => ?_) (by decide +kernel) (by decide +kernel)
  refine sx_putFA (pc := 9) dX8_init_9 f_8_9 rfl kr_8 ((hG 133 (by decide)).trans lay_133) (by rw [nM1]; decide) rfl ?_
  refine sx_ren (fun M2 hM2 => ?_)
  have nM2 : M2.1 = 135 := by rw [hM2]; exact nM1
  refine sx_aload_n (pc := 12) dX8_init_12 sx_m0 ?_
  refine sx_iconst (pc := 13) (v := 2) dX8_init_13 (by decide +kernel) ?_
  refine sc_newa (pc := 14) (bc := 7) (bs := 614) (t := 0) (N := 2) nM2 dX8_init_14 rfl (by decide) ac_int ((hG 135 (by decide)).trans lay_135) (by decide +kernel) (by decide +kernel) (by decide +kernel) (by decide +kernel) (fun M3 hM3 nM3 => ?_) (by decide +kernel) (by decide +kernel)
  refine sx_putFA (pc := 16) dX8_init_16 f_8_15 rfl kr_8 ((hG 133 (by decide)).trans lay_133) (by rw [nM3]; decide) rfl ?_
  refine sx_ren (fun M4 hM4 => ?_)
  have nM4 : M4.1 = 136 := by rw [hM4]; exact nM3
  refine sx_aload_n (pc := 19) dX8_init_19 sx_m0 ?_
  refine sx_iconst (pc := 20) (v := 2) dX8_init_20 (by decide +kernel) ?_
  refine sc_newa (pc := 21) (bc := 6) (bs := 612) (t := 0) (N := 2) nM4 dX8_init_21 rfl (by decide) ac_int ((hG 136 (by decide)).trans lay_136) (by decide +kernel) (by decide +kernel) (by decide +kernel) (by decide +kernel) (fun M5 hM5 nM5 => ?_) (by decide +kernel) (by decide +kernel)
  refine sx_putFA (pc := 23) dX8_init_23 f_8_18 rfl kr_8 ((hG 133 (by decide)).trans lay_133) (by rw [nM5]; decide) rfl ?_
  refine sx_ren (fun M6 hM6 => ?_)
  have nM6 : M6.1 = 137 := by rw [hM6]; exact nM5
  refine sx_aload_n (pc := 26) dX8_init_26 sx_m0 ?_
  refine sx_iload_n (pc := 27) dX8_init_27 sx_m1 ?_
  refine sx_iload_n (pc := 28) dX8_init_28 sx_m2 ?_
  refine sx_iadd (pc := 29) dX8_init_29 ?_
  refine sx_topI (x := 102) (by decide) ?_
  refine sc_newa (pc := 30) (bc := 5) (bs := 510) (t := 0) (N := 102) nM6 dX8_init_30 rfl (by decide) ac_int ((hG 137 (by decide)).trans lay_137) (by decide +kernel) (by decide +kernel) (by decide +kernel) (by decide +kernel) (fun M7 hM7 nM7 => ?_) (by decide +kernel) (by decide +kernel)
  refine sx_putFA (pc := 32) dX8_init_32 f_8_21 rfl kr_8 ((hG 133 (by decide)).trans lay_133) (by rw [nM7]; decide) rfl ?_
  refine sx_ren (fun M8 hM8 => ?_)
  have nM8 : M8.1 = 138 := by rw [hM8]; exact nM7
  refine sx_aload_n (pc := 35) dX8_init_35 sx_m0 ?_
  refine sx_iload_n (pc := 36) dX8_init_36 sx_m1 ?_
  refine sx_iload_n (pc := 37) dX8_init_37 sx_m2 ?_
  refine sx_iadd (pc := 38) dX8_init_38 ?_
  refine sx_topI (x := 102) (by decide) ?_
  refine sc_newa (pc := 39) (bc := 4) (bs := 408) (t := 0) (N := 102) nM8 dX8_init_39 rfl (by decide) ac_int ((hG 138 (by decide)).trans lay_138) (by decide +kernel) (by decide +kernel) (by decide +kernel) (by decide +kernel) (fun M9 hM9 nM9 => ?_) (by decide +kernel) (by decide +kernel)
  refine sx_putFA (pc := 41) dX8_init_41 f_8_24 rfl kr_8 ((hG 133 (by decide)).trans lay_133) (by rw [nM9]; decide) rfl ?_
  refine sx_ren (fun M10 hM10 => ?_)
  have nM10 : M10.1 = 139 := by rw [hM10]; exact nM9
  refine sx_aload_n (pc := 44) dX8_init_44 sx_m0 ?_
  refine sx_iload_n (pc := 45) dX8_init_45 sx_m1 ?_
  refine sx_iload_n (pc := 46) dX8_init_46 sx_m2 ?_
  refine sx_iadd (pc := 47) dX8_init_47 ?_
  refine sx_topI (x := 102) (by decide) ?_
  refine sc_newa (pc := 48) (bc := 3) (bs := 306) (t := 0) (N := 102) nM10 dX8_init_48 rfl (by decide) ac_int ((hG 139 (by decide)).trans lay_139) (by decide +kernel) (by decide +kernel) (by decide +kernel) (by decide +kernel) (fun M11 hM11 nM11 => ?_) (by decide +kernel) (by decide +kernel)
  refine sx_putFA (pc := 50) dX8_init_50 f_8_27 rfl kr_8 ((hG 133 (by decide)).trans lay_133) (by rw [nM11]; decide) rfl ?_
  refine sx_ren (fun M12 hM12 => ?_)
  have nM12 : M12.1 = 140 := by rw [hM12]; exact nM11
  refine sx_aload_n (pc := 53) dX8_init_53 sx_m0 ?_
  refine sx_iload_n (pc := 54) dX8_init_54 sx_m1 ?_
  refine sx_iload_n (pc := 55) dX8_init_55 sx_m2 ?_
  refine sx_iadd (pc := 56) dX8_init_56 ?_
  refine sx_topI (x := 102) (by decide) ?_
  refine sc_newa (pc := 57) (bc := 2) (bs := 204) (t := 0) (N := 102) nM12 dX8_init_57 rfl (by decide) ac_int ((hG 140 (by decide)).trans lay_140) (by decide +kernel) (by decide +kernel) (by decide +kernel) (by decide +kernel) (fun M13 hM13 nM13 => ?_) (by decide +kernel) (by decide +kernel)
  refine sx_putFA (pc := 59) dX8_init_59 f_8_30 rfl kr_8 ((hG 133 (by decide)).trans lay_133) (by rw [nM13]; decide) rfl ?_
  refine sx_ren (fun M14 hM14 => ?_)
  have nM14 : M14.1 = 141 := by rw [hM14]; exact nM13
  refine sx_aload_n (pc := 62) dX8_init_62 sx_m0 ?_
  refine sx_iload_n (pc := 63) dX8_init_63 sx_m1 ?_
  refine sx_iload_n (pc := 64) dX8_init_64 sx_m2 ?_
  refine sx_iadd (pc := 65) dX8_init_65 ?_
  refine sx_topI (x := 102) (by decide) ?_
  refine sc_newa (pc := 66) (bc := 1) (bs := 102) (t := 0) (N := 102) nM14 dX8_init_66 rfl (by decide) ac_int ((hG 141 (by decide)).trans lay_141) (by decide +kernel) (by decide +kernel) (by decide +kernel) (by decide +kernel) (fun M15 hM15 nM15 => ?_) (by decide +kernel) (by decide +kernel)
  refine sx_putFA (pc := 68) dX8_init_68 f_8_33 rfl kr_8 ((hG 133 (by decide)).trans lay_133) (by rw [nM15]; decide) rfl ?_
  refine sx_ren (fun M16 hM16 => ?_)
  have nM16 : M16.1 = 142 := by rw [hM16]; exact nM15
  refine sx_aload_n (pc := 71) dX8_init_71 sx_m0 ?_
  refine sx_iload_n (pc := 72) dX8_init_72 sx_m1 ?_
  refine sx_iload_n (pc := 73) dX8_init_73 sx_m2 ?_
  refine sx_iadd (pc := 74) dX8_init_74 ?_
  refine sx_topI (x := 102) (by decide) ?_
  refine sc_newa (pc := 75) (bc := 0) (bs := 0) (t := 0) (N := 102) nM16 dX8_init_75 rfl (by decide) ac_int ((hG 142 (by decide)).trans lay_142) (by decide +kernel) (by decide +kernel) (by decide +kernel) (by decide +kernel) (fun M17 hM17 nM17 => ?_) (by decide +kernel) (by decide +kernel)
  refine sx_putFA (pc := 77) dX8_init_77 f_8_36 rfl kr_8 ((hG 133 (by decide)).trans lay_133) (by rw [nM17]; decide) rfl ?_
  refine sx_ren (fun M18 hM18 => ?_)
  have nM18 : M18.1 = 143 := by rw [hM18]; exact nM17
  refine sx_aload_n (pc := 80) dX8_init_80 sx_m0 ?_
  refine sx_iload_n (pc := 81) dX8_init_81 sx_m2 ?_
  refine sx_putI (pc := 82) dX8_init_82 f_8_39 ((hG 133 (by decide)).trans lay_133) (by rw [nM18]; decide) rfl ?_
  refine sx_ren (fun M19 hM19 => ?_)
  have nM19 : M19.1 = 143 := by rw [hM19]; exact nM18
  exact sx_vret (pc := 85) dX8_init_85 rfl (by subst hM1; subst hM2; subst hM3; subst hM4; subst hM5; subst hM6; subst hM7; subst hM8; subst hM9; subst hM10; subst hM11; subst hM12; subst hM13; subst hM14; subst hM15; subst hM16; subst hM17; subst hM18; subst hM19; exact hP)
def ncX6_init : Nat := 1186307454259911642782233798561409026536894170182991071849546277199271386177327461478208157559271754938545497264831509912165799644572875320014015290574438043191862699198604459275782182837404416482241968252539098004423317296069140890199257036586
theorem kcX6_init : CK cX6_init ncX6_init 101 := ⟨by decide +kernel, by decide +kernel⟩
theorem dX6_init_0 : decode cX6_init 0 = .ok (.aload_n 0, 1) := dl_o42 kcX6_init (by decide +kernel)
theorem dX6_init_1 : decode cX6_init 1 = .ok (.invokespecial 3, 3) := dl_o183 kcX6_init (by decide +kernel)
theorem dX6_init_4 : decode cX6_init 4 = .ok (.aload_n 0, 1) := dl_o42 kcX6_init (by decide +kernel)
theorem dX6_init_5 : decode cX6_init 5 = .ok (.new 9, 3) := by decide +kernel
theorem dX6_init_8 : decode cX6_init 8 = .ok (.dup, 1) := dl_o89 kcX6_init (by decide +kernel)
theorem dX6_init_9 : decode cX6_init 9 = .ok (.invokespecial 11, 3) := dl_o183 kcX6_init (by decide +kernel)
theorem dX6_init_12 : decode cX6_init 12 = .ok (.putfield 12, 3) := dl_o181 kcX6_init (by decide +kernel)
theorem dX6_init_15 : decode cX6_init 15 = .ok (.aload_n 0, 1) := dl_o42 kcX6_init (by decide +kernel)
theorem dX6_init_16 : decode cX6_init 16 = .ok (.new 9, 3) := by decide +kernel
theorem dX6_init_19 : decode cX6_init 19 = .ok (.dup, 1) := dl_o89 kcX6_init (by decide +kernel)
theorem dX6_init_20 : decode cX6_init 20 = .ok (.invokespecial 11, 3) := dl_o183 kcX6_init (by decide +kernel)
theorem dX6_init_23 : decode cX6_init 23 = .ok (.putfield 18, 3) := dl_o181 kcX6_init (by decide +kernel)
theorem dX6_init_26 : decode cX6_init 26 = .ok (.aload_n 0, 1) := dl_o42 kcX6_init (by decide +kernel)
theorem dX6_init_27 : decode cX6_init 27 = .ok (.iconst 5, 1) := dl_o8 kcX6_init (by decide +kernel)
theorem dX6_init_28 : decode cX6_init 28 = .ok (.anewarray 21, 3) := by decide +kernel
theorem dX6_init_31 : decode cX6_init 31 = .ok (.putfield 23, 3) := dl_o181 kcX6_init (by decide +kernel)
theorem dX6_init_34 : decode cX6_init 34 = .ok (.aload_n 0, 1) := dl_o42 kcX6_init (by decide +kernel)
theorem dX6_init_35 : decode cX6_init 35 = .ok (.new 27, 3) := by decide +kernel
theorem dX6_init_38 : decode cX6_init 38 = .ok (.dup, 1) := dl_o89 kcX6_init (by decide +kernel)
theorem dX6_init_39 : decode cX6_init 39 = .ok (.invokespecial 29, 3) := dl_o183 kcX6_init (by decide +kernel)
theorem dX6_init_42 : decode cX6_init 42 = .ok (.putfield 30, 3) := dl_o181 kcX6_init (by decide +kernel)
theorem dX6_init_45 : decode cX6_init 45 = .ok (.aload_n 0, 1) := dl_o42 kcX6_init (by decide +kernel)
theorem dX6_init_46 : decode cX6_init 46 = .ok (.aload_n 1, 1) := dl_o43 kcX6_init (by decide +kernel)
theorem dX6_init_47 : decode cX6_init 47 = .ok (.putfield 34, 3) := dl_o181 kcX6_init (by decide +kernel)
theorem dX6_init_50 : decode cX6_init 50 = .ok (.aload_n 0, 1) := dl_o42 kcX6_init (by decide +kernel)
theorem dX6_init_51 : decode cX6_init 51 = .ok (.aload_n 2, 1) := dl_o44 kcX6_init (by decide +kernel)
theorem dX6_init_52 : decode cX6_init 52 = .ok (.putfield 38, 3) := dl_o181 kcX6_init (by decide +kernel)
theorem dX6_init_55 : decode cX6_init 55 = .ok (.aload_n 0, 1) := dl_o42 kcX6_init (by decide +kernel)
theorem dX6_init_56 : decode cX6_init 56 = .ok (.new 42, 3) := by decide +kernel
theorem dX6_init_59 : decode cX6_init 59 = .ok (.dup, 1) := dl_o89 kcX6_init (by decide +kernel)
theorem dX6_init_60 : decode cX6_init 60 = .ok (.aload_n 1, 1) := dl_o43 kcX6_init (by decide +kernel)
theorem dX6_init_61 : decode cX6_init 61 = .ok (.aload_n 0, 1) := dl_o42 kcX6_init (by decide +kernel)
theorem dX6_init_62 : decode cX6_init 62 = .ok (.getfield 12, 3) := dl_o180 kcX6_init (by decide +kernel)
theorem dX6_init_65 : decode cX6_init 65 = .ok (.invokespecial 44, 3) := dl_o183 kcX6_init (by decide +kernel)
theorem dX6_init_68 : decode cX6_init 68 = .ok (.putfield 47, 3) := dl_o181 kcX6_init (by decide +kernel)
theorem dX6_init_71 : decode cX6_init 71 = .ok (.iconst 0, 1) := dl_o3 kcX6_init (by decide +kernel)
theorem dX6_init_72 : decode cX6_init 72 = .ok (.istore_n 3, 1) := dl_o62 kcX6_init (by decide +kernel)
theorem dX6_init_73 : decode cX6_init 73 = .ok (.iload_n 3, 1) := dl_o29 kcX6_init (by decide +kernel)
theorem dX6_init_74 : decode cX6_init 74 = .ok (.iconst 5, 1) := dl_o8 kcX6_init (by decide +kernel)
theorem dX6_init_75 : decode cX6_init 75 = .ok (.if_icmp .ge 25, 3) := dl_o162 kcX6_init 25 (by decide +kernel) (by decide +kernel)
theorem dX6_init_78 : decode cX6_init 78 = .ok (.aload_n 0, 1) := dl_o42 kcX6_init (by decide +kernel)
theorem dX6_init_79 : decode cX6_init 79 = .ok (.getfield 23, 3) := dl_o180 kcX6_init (by decide +kernel)
theorem dX6_init_82 : decode cX6_init 82 = .ok (.iload_n 3, 1) := dl_o29 kcX6_init (by decide +kernel)
theorem dX6_init_83 : decode cX6_init 83 = .ok (.new 21, 3) := by decide +kernel
theorem dX6_init_86 : decode cX6_init 86 = .ok (.dup, 1) := dl_o89 kcX6_init (by decide +kernel)
theorem dX6_init_87 : decode cX6_init 87 = .ok (.bipush 100, 2) := dl_o16 kcX6_init 100 (by decide +kernel) (by decide +kernel)
theorem dX6_init_89 : decode cX6_init 89 = .ok (.iconst 2, 1) := dl_o5 kcX6_init (by decide +kernel)
theorem dX6_init_90 : decode cX6_init 90 = .ok (.invokespecial 51, 3) := dl_o183 kcX6_init (by decide +kernel)
theorem dX6_init_93 : decode cX6_init 93 = .ok (.aastore, 1) := by decide +kernel
theorem dX6_init_94 : decode cX6_init 94 = .ok (.iinc 3 1, 3) := by decide +kernel
theorem dX6_init_97 : decode cX6_init 97 = .ok (.goto (-24), 3) := dl_o167 kcX6_init 65512 (by decide +kernel) (by decide +kernel)
theorem dX6_init_100 : decode cX6_init 100 = .ok (.return_, 1) := dl_o177 kcX6_init (by decide +kernel)
def e_18 (M : sx_M) : sx_M := sx_sR (e_17 (sx_nw (sx_sR (e_16 (sx_nw (sx_sR (e_15 (sx_nw (sx_sR (e_14 (sx_nw (sx_sR (e_13 (sx_nw (sx_sR (e_12 (sx_nw (sx_sR (sx_sR (sx_sR (e_8 (sx_nw (sx_sR (sx_nw (sx_sR (e_7 (sx_nw (sx_sR (e_5 (sx_nw (M))) 30 3 (some 31)))) 30 4 (some 45))) 30 5 (some 59)))) 30 6 (some 60)) 30 0 (some 2)) 30 1 (some 16)))) 30 2 (some 69)))) 59 (0 : Int32).toNatClampNeg (some 93)))) 59 (1 : Int32).toNatClampNeg (some 103)))) 59 (2 : Int32).toNatClampNeg (some 113)))) 59 (3 : Int32).toNatClampNeg (some 123)))) 59 (4 : Int32).toNatClampNeg (some 133)
theorem e_18_R {M M2 : sx_M} (h : rq M M2) : rq (e_18 M) (e_18 M2) := rq_sR (e_17_R (rq_nw (rq_sR (e_16_R (rq_nw (rq_sR (e_15_R (rq_nw (rq_sR (e_14_R (rq_nw (rq_sR (e_13_R (rq_nw (rq_sR (e_12_R (rq_nw (rq_sR (rq_sR (rq_sR (e_8_R (rq_nw (rq_sR (rq_nw (rq_sR (e_7_R (rq_nw (rq_sR (e_5_R (rq_nw (h)))))))))))))))))))))))))))))))
set_option maxRecDepth 20000 in
theorem e_18_n {M : sx_M} (h : M.1 = 31) : (e_18 M).1 = 143 := by
  show M.1 + 112 = 143
  rw [h]
set_option maxRecDepth 20000 in
set_option maxHeartbeats 4000000 in
theorem ct_18 {g : sx_G} (hG : sx_Go g) {P : Option Value → sx_M → Prop} {M : sx_M} (nM : M.1 = 31) (hP : P none (e_18 M)) : sx_J g qX6_init 3 0 [(0, .ref 30), (1, .ref 2), (2, .ref 16)] [] M 112 7027 P := by
  refine sx_aload_n (pc := 0) dX6_init_0 sx_m0 ?_
  refine sx_objInit (pc := 1) dX6_init_1 l_X6_3 oi_i oi_c (by decide) (Nat.le_of_ble_eq_true rfl) ?_
  refine sx_aload_n (pc := 4) dX6_init_4 sx_m0 ?_
  refine sc_new (pc := 5) (bc := 111) (bs := 7021) nM dX6_init_5 kc_7 c_X6_9 ((hG 31 (by decide)).trans lay_31) (by decide) (fun M1 hM1 nM1 => ?_) (by decide +kernel) (by decide +kernel)
  refine sx_dup (pc := 8) dX6_init_8 rfl ?_
  refine sc_callIN (pc := 9) (bc := 98) (bs := 6272) (y := qX7_init) (as := []) (e := e_5 M1) dX6_init_9 n_X6_11 y0X7_init rfl rfl yiX7_init rfl (Nat.le_of_ble_eq_true rfl) (by decide) (Nat.le_of_ble_eq_true rfl) rfl rfl (ct_5 hG nM1 ⟨rfl, rfl⟩) (fun M2 hM2 => ?_) (by decide +kernel) (by decide +kernel)
  have nM2 : M2.1 = 45 := by rw [hM2]; exact e_5_n nM1
  refine sx_putFO (pc := 12) dX6_init_12 f_6_12 rfl kr_6 ((hG 30 (by decide)).trans lay_30) (by rw [nM2]; decide) rfl ?_
  refine sx_ren (fun M3 hM3 => ?_)
  have nM3 : M3.1 = 45 := by rw [hM3]; exact nM2
  refine sx_aload_n (pc := 15) dX6_init_15 sx_m0 ?_
  refine sc_new (pc := 16) (bc := 97) (bs := 6266) nM3 dX6_init_16 kc_7 c_X6_9 ((hG 45 (by decide)).trans lay_45) (by decide) (fun M4 hM4 nM4 => ?_) (by decide +kernel) (by decide +kernel)
  refine sx_dup (pc := 19) dX6_init_19 rfl ?_
  refine sc_callIN (pc := 20) (bc := 84) (bs := 5517) (y := qX7_init) (as := []) (e := e_7 M4) dX6_init_20 n_X6_11 y0X7_init rfl rfl yiX7_init rfl (Nat.le_of_ble_eq_true rfl) (by decide) (Nat.le_of_ble_eq_true rfl) rfl rfl (ct_7 hG nM4 ⟨rfl, rfl⟩) (fun M5 hM5 => ?_) (by decide +kernel) (by decide +kernel)
  have nM5 : M5.1 = 59 := by rw [hM5]; exact e_7_n nM4
  refine sx_putFO (pc := 23) dX6_init_23 f_6_18 rfl kr_6 ((hG 30 (by decide)).trans lay_30) (by rw [nM5]; decide) rfl ?_
  refine sx_ren (fun M6 hM6 => ?_)
  have nM6 : M6.1 = 59 := by rw [hM6]; exact nM5
  refine sx_aload_n (pc := 26) dX6_init_26 sx_m0 ?_
  refine sx_iconst (pc := 27) (v := 5) dX6_init_27 (by decide +kernel) ?_
  refine sc_newq (pc := 28) (bc := 83) (bs := 5512) (N := 5) nM6 dX6_init_28 (c_X6_21).1 ((hG 59 (by decide)).trans lay_59) (by decide +kernel) (by decide +kernel) (by decide +kernel) (by decide +kernel) (fun M7 hM7 nM7 => ?_) (by decide +kernel) (by decide +kernel)
  refine sx_putFA (pc := 31) dX6_init_31 f_6_23 rfl kr_6 ((hG 30 (by decide)).trans lay_30) (by rw [nM7]; decide) rfl ?_
  refine sx_ren (fun M8 hM8 => ?_)
  have nM8 : M8.1 = 60 := by rw [hM8]; exact nM7
  refine sx_aload_n (pc := 34) dX6_init_34 sx_m0 ?_
  refine sc_new (pc := 35) (bc := 82) (bs := 5499) nM8 dX6_init_35 kc_10 c_X6_27 ((hG 60 (by decide)).trans lay_60) (by decide) (fun M9 hM9 nM9 => ?_) (by decide +kernel) (by decide +kernel)
  refine sx_dup (pc := 38) dX6_init_38 rfl ?_
  refine sc_callIN (pc := 39) (bc := 74) (bs := 4699) (y := qX10_init) (as := []) (e := e_8 M9) dX6_init_39 n_X6_29 y0X10_init rfl rfl yiX10_init rfl (Nat.le_of_ble_eq_true rfl) (by decide) (Nat.le_of_ble_eq_true rfl) rfl rfl (ct_8 hG nM9 ⟨rfl, rfl⟩) (fun M10 hM10 => ?_) (by decide +kernel) (by decide +kernel)
  have nM10 : M10.1 = 69 := by rw [hM10]; exact e_8_n nM9
  refine sx_putFO (pc := 42) dX6_init_42 f_6_30 rfl kr_6 ((hG 30 (by decide)).trans lay_30) (by rw [nM10]; decide) rfl ?_
  refine sx_ren (fun M11 hM11 => ?_)
  have nM11 : M11.1 = 69 := by rw [hM11]; exact nM10
  refine sx_aload_n (pc := 45) dX6_init_45 sx_m0 ?_
  refine sx_aload_n (pc := 46) dX6_init_46 sx_m1 ?_
  refine sx_putFO (pc := 47) dX6_init_47 f_6_34 rfl kr_6 ((hG 30 (by decide)).trans lay_30) (by rw [nM11]; decide) rfl ?_
  refine sx_ren (fun M12 hM12 => ?_)
  have nM12 : M12.1 = 69 := by rw [hM12]; exact nM11
  refine sx_aload_n (pc := 50) dX6_init_50 sx_m0 ?_
  refine sx_aload_n (pc := 51) dX6_init_51 sx_m2 ?_
  refine sx_putFO (pc := 52) dX6_init_52 f_6_38 rfl kr_6 ((hG 30 (by decide)).trans lay_30) (by rw [nM12]; decide) rfl ?_
  refine sx_ren (fun M13 hM13 => ?_)
  have nM13 : M13.1 = 69 := by rw [hM13]; exact nM12
  refine sx_aload_n (pc := 55) dX6_init_55 sx_m0 ?_
  refine sc_new (pc := 56) (bc := 73) (bs := 4682) nM13 dX6_init_56 kc_5 c_X6_42 ((hG 69 (by decide)).trans lay_69) (by decide) (fun M14 hM14 nM14 => ?_) (by decide +kernel) (by decide +kernel)
  refine sx_dup (pc := 59) dX6_init_59 rfl ?_
  refine sx_aload_n (pc := 60) dX6_init_60 sx_m1 ?_
  refine sx_aload_n (pc := 61) dX6_init_61 sx_m0 ?_
  refine sc_getO (pc := 62) (c := 31) dX6_init_62 f_6_12 ((hG 30 (by decide)).trans lay_30) (by rw [nM14]; decide) rfl (by rw [hM14, hM13, hM12, hM11, hM10, hM9, hM8, hM7, hM6, hM5, hM4, hM3, hM2, hM1]; obtain ⟨n0, I0, L0, R0⟩ := M; have e0 : n0 = 31 := nM; subst e0; rfl) ?_
  refine sc_callI (pc := 65) (bc := 50) (bs := 3240) (y := qX5_init) (as := [.ref 2, .ref 31]) (e := e_12 M14) dX6_init_65 l_X6_44 y0X5_init rfl rfl yiX5_init rfl (Nat.le_of_ble_eq_true rfl) (by decide) (Nat.le_of_ble_eq_true rfl) rfl rfl (ct_12 hG nM14 ⟨rfl, rfl⟩) (fun M15 hM15 => ?_) (by decide +kernel) (by decide +kernel)
  have nM15 : M15.1 = 93 := by rw [hM15]; exact e_12_n nM14
  refine sx_putFO (pc := 68) dX6_init_68 f_6_47 rfl kr_6 ((hG 30 (by decide)).trans lay_30) (by rw [nM15]; decide) rfl ?_
  refine sx_ren (fun M16 hM16 => ?_)
  have nM16 : M16.1 = 93 := by rw [hM16]; exact nM15
  refine sx_iconst (pc := 71) (v := 0) dX6_init_71 (by decide +kernel) ?_
  refine sx_istore_n (pc := 72) (lo' := [(3, .int 0), (0, .ref 30), (1, .ref 2), (2, .ref 16)]) dX6_init_72 (by decide) rfl ?_
  refine sx_iload_n (pc := 73) dX6_init_73 sx_m0 ?_
  refine sx_iconst (pc := 74) (v := 5) dX6_init_74 (by decide +kernel) ?_
  refine sx_icmp_ge (pc := 75) (tgt := 100) dX6_init_75 (by decide) (fun c => absurd c (by decide)) (fun _ => ?_)
  refine sx_aload_n (pc := 78) dX6_init_78 sx_m1 ?_
  refine sc_getA (pc := 79) (c := 59) dX6_init_79 f_6_23 ((hG 30 (by decide)).trans lay_30) (by rw [nM16]; decide) rfl (by rw [hM16, hM15, hM14, hM13, hM12, hM11, hM10, hM9, hM8, hM7, hM6, hM5, hM4, hM3, hM2, hM1]; obtain ⟨n0, I0, L0, R0⟩ := M; have e0 : n0 = 31 := nM; subst e0; rfl) ?_
  refine sx_iload_n (pc := 82) dX6_init_82 sx_m0 ?_
  refine sc_new (pc := 83) (bc := 49) (bs := 3228) nM16 dX6_init_83 kc_8 c_X6_21 ((hG 93 (by decide)).trans lay_93) (by decide) (fun M17 hM17 nM17 => ?_) (by decide +kernel) (by decide +kernel)
  refine sx_dup (pc := 86) dX6_init_86 rfl ?_
  refine sx_bipush (pc := 87) (v := 100) dX6_init_87 (by decide +kernel) ?_
  refine sx_iconst (pc := 89) (v := 2) dX6_init_89 (by decide +kernel) ?_
  refine sc_callI (pc := 90) (bc := 40) (bs := 2592) (y := qX8_init) (as := [.int 100, .int 2]) (e := e_13 M17) dX6_init_90 l_X6_51 y0X8_init rfl rfl yiX8_init rfl (Nat.le_of_ble_eq_true rfl) (by decide) (Nat.le_of_ble_eq_true rfl) rfl rfl (ct_13 hG nM17 ⟨rfl, rfl⟩) (fun M18 hM18 => ?_) (by decide +kernel) (by decide +kernel)
  have nM18 : M18.1 = 103 := by rw [hM18]; exact e_13_n nM17
  refine sx_aast (pc := 93) dX6_init_93 ((hG 59 (by decide)).trans lay_59) (by rw [nM18]; decide) (by decide) ((hG 93 (by decide)).trans lay_93) kr_8 (by rw [nM18]; decide) ?_
  refine sx_ren (fun M19 hM19 => ?_)
  have nM19 : M19.1 = 103 := by rw [hM19]; exact nM18
  refine sx_iinc (pc := 94) (v := 1) (lo' := [(3, .int 1), (0, .ref 30), (1, .ref 2), (2, .ref 16)]) dX6_init_94 sx_m0 (by decide) (by decide) rfl ?_
  refine sx_goto (pc := 97) (tgt := 73) dX6_init_97 (by decide) ?_
  refine sx_iload_n (pc := 73) dX6_init_73 sx_m0 ?_
  refine sx_iconst (pc := 74) (v := 5) dX6_init_74 (by decide +kernel) ?_
  refine sx_icmp_ge (pc := 75) (tgt := 100) dX6_init_75 (by decide) (fun c => absurd c (by decide)) (fun _ => ?_)
  refine sx_aload_n (pc := 78) dX6_init_78 sx_m1 ?_
  refine sc_getA (pc := 79) (c := 59) dX6_init_79 f_6_23 ((hG 30 (by decide)).trans lay_30) (by rw [nM19]; decide) rfl (by rw [hM19, hM18, hM17, hM16, hM15, hM14, hM13, hM12, hM11, hM10, hM9, hM8, hM7, hM6, hM5, hM4, hM3, hM2, hM1]; obtain ⟨n0, I0, L0, R0⟩ := M; have e0 : n0 = 31 := nM; subst e0; rfl) ?_
  refine sx_iload_n (pc := 82) dX6_init_82 sx_m0 ?_
  refine sc_new (pc := 83) (bc := 39) (bs := 2580) nM19 dX6_init_83 kc_8 c_X6_21 ((hG 103 (by decide)).trans lay_103) (by decide) (fun M20 hM20 nM20 => ?_) (by decide +kernel) (by decide +kernel)
  refine sx_dup (pc := 86) dX6_init_86 rfl ?_
  refine sx_bipush (pc := 87) (v := 100) dX6_init_87 (by decide +kernel) ?_
  refine sx_iconst (pc := 89) (v := 2) dX6_init_89 (by decide +kernel) ?_
  refine sc_callI (pc := 90) (bc := 30) (bs := 1944) (y := qX8_init) (as := [.int 100, .int 2]) (e := e_14 M20) dX6_init_90 l_X6_51 y0X8_init rfl rfl yiX8_init rfl (Nat.le_of_ble_eq_true rfl) (by decide) (Nat.le_of_ble_eq_true rfl) rfl rfl (ct_14 hG nM20 ⟨rfl, rfl⟩) (fun M21 hM21 => ?_) (by decide +kernel) (by decide +kernel)
  have nM21 : M21.1 = 113 := by rw [hM21]; exact e_14_n nM20
  refine sx_aast (pc := 93) dX6_init_93 ((hG 59 (by decide)).trans lay_59) (by rw [nM21]; decide) (by decide) ((hG 103 (by decide)).trans lay_103) kr_8 (by rw [nM21]; decide) ?_
  refine sx_ren (fun M22 hM22 => ?_)
  have nM22 : M22.1 = 113 := by rw [hM22]; exact nM21
  refine sx_iinc (pc := 94) (v := 2) (lo' := [(3, .int 2), (0, .ref 30), (1, .ref 2), (2, .ref 16)]) dX6_init_94 sx_m0 (by decide) (by decide) rfl ?_
  refine sx_goto (pc := 97) (tgt := 73) dX6_init_97 (by decide) ?_
  refine sx_iload_n (pc := 73) dX6_init_73 sx_m0 ?_
  refine sx_iconst (pc := 74) (v := 5) dX6_init_74 (by decide +kernel) ?_
  refine sx_icmp_ge (pc := 75) (tgt := 100) dX6_init_75 (by decide) (fun c => absurd c (by decide)) (fun _ => ?_)
  refine sx_aload_n (pc := 78) dX6_init_78 sx_m1 ?_
  refine sc_getA (pc := 79) (c := 59) dX6_init_79 f_6_23 ((hG 30 (by decide)).trans lay_30) (by rw [nM22]; decide) rfl (by rw [hM22, hM21, hM20, hM19, hM18, hM17, hM16, hM15, hM14, hM13, hM12, hM11, hM10, hM9, hM8, hM7, hM6, hM5, hM4, hM3, hM2, hM1]; obtain ⟨n0, I0, L0, R0⟩ := M; have e0 : n0 = 31 := nM; subst e0; rfl) ?_
  refine sx_iload_n (pc := 82) dX6_init_82 sx_m0 ?_
  refine sc_new (pc := 83) (bc := 29) (bs := 1932) nM22 dX6_init_83 kc_8 c_X6_21 ((hG 113 (by decide)).trans lay_113) (by decide) (fun M23 hM23 nM23 => ?_) (by decide +kernel) (by decide +kernel)
  refine sx_dup (pc := 86) dX6_init_86 rfl ?_
  refine sx_bipush (pc := 87) (v := 100) dX6_init_87 (by decide +kernel) ?_
  refine sx_iconst (pc := 89) (v := 2) dX6_init_89 (by decide +kernel) ?_
  refine sc_callI (pc := 90) (bc := 20) (bs := 1296) (y := qX8_init) (as := [.int 100, .int 2]) (e := e_15 M23) dX6_init_90 l_X6_51 y0X8_init rfl rfl yiX8_init rfl (Nat.le_of_ble_eq_true rfl) (by decide) (Nat.le_of_ble_eq_true rfl) rfl rfl (ct_15 hG nM23 ⟨rfl, rfl⟩) (fun M24 hM24 => ?_) (by decide +kernel) (by decide +kernel)
  have nM24 : M24.1 = 123 := by rw [hM24]; exact e_15_n nM23
  refine sx_aast (pc := 93) dX6_init_93 ((hG 59 (by decide)).trans lay_59) (by rw [nM24]; decide) (by decide) ((hG 113 (by decide)).trans lay_113) kr_8 (by rw [nM24]; decide) ?_
  refine sx_ren (fun M25 hM25 => ?_)
  have nM25 : M25.1 = 123 := by rw [hM25]; exact nM24
  refine sx_iinc (pc := 94) (v := 3) (lo' := [(3, .int 3), (0, .ref 30), (1, .ref 2), (2, .ref 16)]) dX6_init_94 sx_m0 (by decide) (by decide) rfl ?_
  refine sx_goto (pc := 97) (tgt := 73) dX6_init_97 (by decide) ?_
  refine sx_iload_n (pc := 73) dX6_init_73 sx_m0 ?_
  refine sx_iconst (pc := 74) (v := 5) dX6_init_74 (by decide +kernel) ?_
  refine sx_icmp_ge (pc := 75) (tgt := 100) dX6_init_75 (by decide) (fun c => absurd c (by decide)) (fun _ => ?_)
  refine sx_aload_n (pc := 78) dX6_init_78 sx_m1 ?_
  refine sc_getA (pc := 79) (c := 59) dX6_init_79 f_6_23 ((hG 30 (by decide)).trans lay_30) (by rw [nM25]; decide) rfl (by rw [hM25, hM24, hM23, hM22, hM21, hM20, hM19, hM18, hM17, hM16, hM15, hM14, hM13, hM12, hM11, hM10, hM9, hM8, hM7, hM6, hM5, hM4, hM3, hM2, hM1]; obtain ⟨n0, I0, L0, R0⟩ := M; have e0 : n0 = 31 := nM; subst e0; rfl) ?_
  refine sx_iload_n (pc := 82) dX6_init_82 sx_m0 ?_
  refine sc_new (pc := 83) (bc := 19) (bs := 1284) nM25 dX6_init_83 kc_8 c_X6_21 ((hG 123 (by decide)).trans lay_123) (by decide) (fun M26 hM26 nM26 => ?_) (by decide +kernel) (by decide +kernel)
  refine sx_dup (pc := 86) dX6_init_86 rfl ?_
  refine sx_bipush (pc := 87) (v := 100) dX6_init_87 (by decide +kernel) ?_
  refine sx_iconst (pc := 89) (v := 2) dX6_init_89 (by decide +kernel) ?_
  refine sc_callI (pc := 90) (bc := 10) (bs := 648) (y := qX8_init) (as := [.int 100, .int 2]) (e := e_16 M26) dX6_init_90 l_X6_51 y0X8_init rfl rfl yiX8_init rfl (Nat.le_of_ble_eq_true rfl) (by decide) (Nat.le_of_ble_eq_true rfl) rfl rfl (ct_16 hG nM26 ⟨rfl, rfl⟩) (fun M27 hM27 => ?_) (by decide +kernel) (by decide +kernel)
  have nM27 : M27.1 = 133 := by rw [hM27]; exact e_16_n nM26
  refine sx_aast (pc := 93) dX6_init_93 ((hG 59 (by decide)).trans lay_59) (by rw [nM27]; decide) (by decide) ((hG 123 (by decide)).trans lay_123) kr_8 (by rw [nM27]; decide) ?_
  refine sx_ren (fun M28 hM28 => ?_)
  have nM28 : M28.1 = 133 := by rw [hM28]; exact nM27
  refine sx_iinc (pc := 94) (v := 4) (lo' := [(3, .int 4), (0, .ref 30), (1, .ref 2), (2, .ref 16)]) dX6_init_94 sx_m0 (by decide) (by decide) rfl ?_
  refine sx_goto (pc := 97) (tgt := 73) dX6_init_97 (by decide) ?_
  refine sx_iload_n (pc := 73) dX6_init_73 sx_m0 ?_
  refine sx_iconst (pc := 74) (v := 5) dX6_init_74 (by decide +kernel) ?_
  refine sx_icmp_ge (pc := 75) (tgt := 100) dX6_init_75 (by decide) (fun c => absurd c (by decide)) (fun _ => ?_)
  refine sx_aload_n (pc := 78) dX6_init_78 sx_m1 ?_
  refine sc_getA (pc := 79) (c := 59) dX6_init_79 f_6_23 ((hG 30 (by decide)).trans lay_30) (by rw [nM28]; decide) rfl (by rw [hM28, hM27, hM26, hM25, hM24, hM23, hM22, hM21, hM20, hM19, hM18, hM17, hM16, hM15, hM14, hM13, hM12, hM11, hM10, hM9, hM8, hM7, hM6, hM5, hM4, hM3, hM2, hM1]; obtain ⟨n0, I0, L0, R0⟩ := M; have e0 : n0 = 31 := nM; subst e0; rfl) ?_
  refine sx_iload_n (pc := 82) dX6_init_82 sx_m0 ?_
  refine sc_new (pc := 83) (bc := 9) (bs := 636) nM28 dX6_init_83 kc_8 c_X6_21 ((hG 133 (by decide)).trans lay_133) (by decide) (fun M29 hM29 nM29 => ?_) (by decide +kernel) (by decide +kernel)
  refine sx_dup (pc := 86) dX6_init_86 rfl ?_
  refine sx_bipush (pc := 87) (v := 100) dX6_init_87 (by decide +kernel) ?_
  refine sx_iconst (pc := 89) (v := 2) dX6_init_89 (by decide +kernel) ?_
  refine sc_callI (pc := 90) (bc := 0) (bs := 0) (y := qX8_init) (as := [.int 100, .int 2]) (e := e_17 M29) dX6_init_90 l_X6_51 y0X8_init rfl rfl yiX8_init rfl (Nat.le_of_ble_eq_true rfl) (by decide) (Nat.le_of_ble_eq_true rfl) rfl rfl (ct_17 hG nM29 ⟨rfl, rfl⟩) (fun M30 hM30 => ?_) (by decide +kernel) (by decide +kernel)
  have nM30 : M30.1 = 143 := by rw [hM30]; exact e_17_n nM29
  refine sx_aast (pc := 93) dX6_init_93 ((hG 59 (by decide)).trans lay_59) (by rw [nM30]; decide) (by decide) ((hG 133 (by decide)).trans lay_133) kr_8 (by rw [nM30]; decide) ?_
  refine sx_ren (fun M31 hM31 => ?_)
  have nM31 : M31.1 = 143 := by rw [hM31]; exact nM30
  refine sx_iinc (pc := 94) (v := 5) (lo' := [(3, .int 5), (0, .ref 30), (1, .ref 2), (2, .ref 16)]) dX6_init_94 sx_m0 (by decide) (by decide) rfl ?_
  refine sx_goto (pc := 97) (tgt := 73) dX6_init_97 (by decide) ?_
  refine sx_iload_n (pc := 73) dX6_init_73 sx_m0 ?_
  refine sx_iconst (pc := 74) (v := 5) dX6_init_74 (by decide +kernel) ?_
  refine sx_icmp_ge (pc := 75) (tgt := 100) dX6_init_75 (by decide) (fun _ => ?_) (fun c => absurd (by decide) c)
  exact sx_vret (pc := 100) dX6_init_100 rfl (by subst hM1; subst hM2; subst hM3; subst hM4; subst hM5; subst hM6; subst hM7; subst hM8; subst hM9; subst hM10; subst hM11; subst hM12; subst hM13; subst hM14; subst hM15; subst hM16; subst hM17; subst hM18; subst hM19; subst hM20; subst hM21; subst hM22; subst hM23; subst hM24; subst hM25; subst hM26; subst hM27; subst hM28; subst hM29; subst hM30; subst hM31; exact hP)
def ncX1_init : Nat := 3590858228490822860782158286468906
theorem kcX1_init : CK cX1_init ncX1_init 14 := ⟨by decide +kernel, by decide +kernel⟩
theorem dX1_init_0 : decode cX1_init 0 = .ok (.aload_n 0, 1) := dl_o42 kcX1_init (by decide +kernel)
theorem dX1_init_1 : decode cX1_init 1 = .ok (.invokespecial 3, 3) := dl_o183 kcX1_init (by decide +kernel)
theorem dX1_init_4 : decode cX1_init 4 = .ok (.aload_n 0, 1) := dl_o42 kcX1_init (by decide +kernel)
theorem dX1_init_5 : decode cX1_init 5 = .ok (.sipush 16384, 3) := dl_o17 kcX1_init 16384 (by decide +kernel) (by decide +kernel)
theorem dX1_init_8 : decode cX1_init 8 = .ok (.newarray .byte, 2) := by decide +kernel
theorem dX1_init_10 : decode cX1_init 10 = .ok (.putfield 11, 3) := dl_o181 kcX1_init (by decide +kernel)
theorem dX1_init_13 : decode cX1_init 13 = .ok (.return_, 1) := dl_o177 kcX1_init (by decide +kernel)
def e_19 (M : sx_M) : sx_M := sx_sR (sx_nw (M)) 143 0 (some 144)
theorem e_19_R {M M2 : sx_M} (h : rq M M2) : rq (e_19 M) (e_19 M2) := rq_sR (rq_nw (h))
set_option maxRecDepth 20000 in
theorem e_19_n {M : sx_M} (h : M.1 = 144) : (e_19 M).1 = 145 := by
  show M.1 + 1 = 145
  rw [h]
set_option maxRecDepth 20000 in
set_option maxHeartbeats 4000000 in
theorem ct_19 {g : sx_G} (hG : sx_Go g) {P : Option Value → sx_M → Prop} {M : sx_M} (nM : M.1 = 144) (hP : P none (e_19 M)) : sx_J g qX1_init 1 0 [(0, .ref 143)] [] M 1 16384 P := by
  refine sx_aload_n (pc := 0) dX1_init_0 sx_m0 ?_
  refine sx_objInit (pc := 1) dX1_init_1 l_X1_3 oi_i oi_c (by decide) (Nat.le_of_ble_eq_true rfl) ?_
  refine sx_aload_n (pc := 4) dX1_init_4 sx_m0 ?_
  refine sx_sipush (pc := 5) (v := 16384) dX1_init_5 (by decide +kernel) ?_
  refine sc_newa (pc := 8) (bc := 0) (bs := 0) (t := 1) (N := 16384) nM dX1_init_8 rfl (by decide) ac_byte ((hG 144 (by decide)).trans lay_144) (by decide +kernel) (by decide +kernel) (by decide +kernel) (by decide +kernel) (fun M1 hM1 nM1 => ?_) (by decide +kernel) (by decide +kernel)
  refine sx_putFA (pc := 10) dX1_init_10 f_1_11 rfl kr_1 ((hG 143 (by decide)).trans lay_143) (by rw [nM1]; decide) rfl ?_
  refine sx_ren (fun M2 hM2 => ?_)
  have nM2 : M2.1 = 145 := by rw [hM2]; exact nM1
  exact sx_vret (pc := 13) dX1_init_13 rfl (by subst hM1; subst hM2; exact hP)
def ncX11_init : Nat := 58251899176088449003691514592975317643561577647559276695206260634059280773861360630652097597836761749139902656109725779072853328637060408173587572647052903112975790228094905346436437777253869023561219999598163754
theorem kcX11_init : CK cX11_init ncX11_init 88 := ⟨by decide +kernel, by decide +kernel⟩
theorem dX11_init_0 : decode cX11_init 0 = .ok (.aload_n 0, 1) := dl_o42 kcX11_init (by decide +kernel)
theorem dX11_init_1 : decode cX11_init 1 = .ok (.invokespecial 1, 3) := dl_o183 kcX11_init (by decide +kernel)
theorem dX11_init_4 : decode cX11_init 4 = .ok (.aload_n 0, 1) := dl_o42 kcX11_init (by decide +kernel)
theorem dX11_init_5 : decode cX11_init 5 = .ok (.sipush 12000, 3) := dl_o17 kcX11_init 12000 (by decide +kernel) (by decide +kernel)
theorem dX11_init_8 : decode cX11_init 8 = .ok (.newarray .byte, 2) := by decide +kernel
theorem dX11_init_10 : decode cX11_init 10 = .ok (.putfield 9, 3) := dl_o181 kcX11_init (by decide +kernel)
theorem dX11_init_13 : decode cX11_init 13 = .ok (.aload_n 0, 1) := dl_o42 kcX11_init (by decide +kernel)
theorem dX11_init_14 : decode cX11_init 14 = .ok (.new 13, 3) := by decide +kernel
theorem dX11_init_17 : decode cX11_init 17 = .ok (.dup, 1) := dl_o89 kcX11_init (by decide +kernel)
theorem dX11_init_18 : decode cX11_init 18 = .ok (.invokespecial 15, 3) := dl_o183 kcX11_init (by decide +kernel)
theorem dX11_init_21 : decode cX11_init 21 = .ok (.putfield 16, 3) := dl_o181 kcX11_init (by decide +kernel)
theorem dX11_init_24 : decode cX11_init 24 = .ok (.new 20, 3) := by decide +kernel
theorem dX11_init_27 : decode cX11_init 27 = .ok (.dup, 1) := dl_o89 kcX11_init (by decide +kernel)
theorem dX11_init_28 : decode cX11_init 28 = .ok (.aload_n 0, 1) := dl_o42 kcX11_init (by decide +kernel)
theorem dX11_init_29 : decode cX11_init 29 = .ok (.getfield 16, 3) := dl_o180 kcX11_init (by decide +kernel)
theorem dX11_init_32 : decode cX11_init 32 = .ok (.invokespecial 22, 3) := dl_o183 kcX11_init (by decide +kernel)
theorem dX11_init_35 : decode cX11_init 35 = .ok (.astore_n 1, 1) := dl_o76 kcX11_init (by decide +kernel)
theorem dX11_init_36 : decode cX11_init 36 = .ok (.aload_n 0, 1) := dl_o42 kcX11_init (by decide +kernel)
theorem dX11_init_37 : decode cX11_init 37 = .ok (.new 25, 3) := by decide +kernel
theorem dX11_init_40 : decode cX11_init 40 = .ok (.dup, 1) := dl_o89 kcX11_init (by decide +kernel)
theorem dX11_init_41 : decode cX11_init 41 = .ok (.aload_n 0, 1) := dl_o42 kcX11_init (by decide +kernel)
theorem dX11_init_42 : decode cX11_init 42 = .ok (.getfield 16, 3) := dl_o180 kcX11_init (by decide +kernel)
theorem dX11_init_45 : decode cX11_init 45 = .ok (.aload_n 1, 1) := dl_o43 kcX11_init (by decide +kernel)
theorem dX11_init_46 : decode cX11_init 46 = .ok (.invokespecial 27, 3) := dl_o183 kcX11_init (by decide +kernel)
theorem dX11_init_49 : decode cX11_init 49 = .ok (.putfield 30, 3) := dl_o181 kcX11_init (by decide +kernel)
theorem dX11_init_52 : decode cX11_init 52 = .ok (.aload_n 0, 1) := dl_o42 kcX11_init (by decide +kernel)
theorem dX11_init_53 : decode cX11_init 53 = .ok (.new 34, 3) := by decide +kernel
theorem dX11_init_56 : decode cX11_init 56 = .ok (.dup, 1) := dl_o89 kcX11_init (by decide +kernel)
theorem dX11_init_57 : decode cX11_init 57 = .ok (.aload_n 0, 1) := dl_o42 kcX11_init (by decide +kernel)
theorem dX11_init_58 : decode cX11_init 58 = .ok (.getfield 16, 3) := dl_o180 kcX11_init (by decide +kernel)
theorem dX11_init_61 : decode cX11_init 61 = .ok (.aload_n 1, 1) := dl_o43 kcX11_init (by decide +kernel)
theorem dX11_init_62 : decode cX11_init 62 = .ok (.invokespecial 36, 3) := dl_o183 kcX11_init (by decide +kernel)
theorem dX11_init_65 : decode cX11_init 65 = .ok (.putfield 37, 3) := dl_o181 kcX11_init (by decide +kernel)
theorem dX11_init_68 : decode cX11_init 68 = .ok (.aload_n 0, 1) := dl_o42 kcX11_init (by decide +kernel)
theorem dX11_init_69 : decode cX11_init 69 = .ok (.new 41, 3) := by decide +kernel
theorem dX11_init_72 : decode cX11_init 72 = .ok (.dup, 1) := dl_o89 kcX11_init (by decide +kernel)
theorem dX11_init_73 : decode cX11_init 73 = .ok (.invokespecial 43, 3) := dl_o183 kcX11_init (by decide +kernel)
theorem dX11_init_76 : decode cX11_init 76 = .ok (.putfield 44, 3) := dl_o181 kcX11_init (by decide +kernel)
theorem dX11_init_79 : decode cX11_init 79 = .ok (.aload_n 0, 1) := dl_o42 kcX11_init (by decide +kernel)
theorem dX11_init_80 : decode cX11_init 80 = .ok (.bipush 100, 2) := dl_o16 kcX11_init 100 (by decide +kernel) (by decide +kernel)
theorem dX11_init_82 : decode cX11_init 82 = .ok (.newarray .int, 2) := by decide +kernel
theorem dX11_init_84 : decode cX11_init 84 = .ok (.putfield 48, 3) := dl_o181 kcX11_init (by decide +kernel)
theorem dX11_init_87 : decode cX11_init 87 = .ok (.return_, 1) := dl_o177 kcX11_init (by decide +kernel)
def e_20 (M : sx_M) : sx_M := sx_sR (sx_nw (sx_sR (e_19 (sx_nw (sx_sR (e_18 (sx_nw (sx_sR (e_3 (sx_nw (e_2 (sx_nw (sx_sR (e_0 (sx_nw (sx_sR (sx_nw (M)) 0 0 (some 1)))) 0 2 (some 2)))))) 0 3 (some 29)))) 0 4 (some 30)))) 0 5 (some 143))) 0 6 (some 145)
theorem e_20_R {M M2 : sx_M} (h : rq M M2) : rq (e_20 M) (e_20 M2) := rq_sR (rq_nw (rq_sR (e_19_R (rq_nw (rq_sR (e_18_R (rq_nw (rq_sR (e_3_R (rq_nw (e_2_R (rq_nw (rq_sR (e_0_R (rq_nw (rq_sR (rq_nw (h))))))))))))))))))
set_option maxRecDepth 20000 in
theorem e_20_n {M : sx_M} (h : M.1 = 1) : (e_20 M).1 = 146 := by
  show M.1 + 145 = 146
  rw [h]
set_option maxRecDepth 20000 in
set_option maxHeartbeats 4000000 in
theorem ct_20 {g : sx_G} (hG : sx_Go g) {P : Option Value → sx_M → Prop} {M : sx_M} (nM : M.1 = 1) (hP : P none (e_20 M)) : sx_J g qX11_init 4 0 [(0, .ref 0)] [] M 145 50134 P := by
  refine sx_aload_n (pc := 0) dX11_init_0 sx_m0 ?_
  refine sx_objInit (pc := 1) dX11_init_1 l_X11_1 oi_i oi_c (by decide) (Nat.le_of_ble_eq_true rfl) ?_
  refine sx_aload_n (pc := 4) dX11_init_4 sx_m0 ?_
  refine sx_sipush (pc := 5) (v := 12000) dX11_init_5 (by decide +kernel) ?_
  refine sc_newa (pc := 8) (bc := 144) (bs := 38134) (t := 1) (N := 12000) nM dX11_init_8 rfl (by decide) ac_byte ((hG 1 (by decide)).trans lay_1) (by decide +kernel) (by decide +kernel) (by decide +kernel) (by decide +kernel) (fun M1 hM1 nM1 => ?_) (by decide +kernel) (by decide +kernel)
  refine sx_putFA (pc := 10) dX11_init_10 f_11_9 rfl kr_11 ((hG 0 (by decide)).trans lay_0) (by rw [nM1]; decide) rfl ?_
  refine sx_ren (fun M2 hM2 => ?_)
  have nM2 : M2.1 = 2 := by rw [hM2]; exact nM1
  refine sx_aload_n (pc := 13) dX11_init_13 sx_m0 ?_
  refine sc_new (pc := 14) (bc := 143) (bs := 38117) nM2 dX11_init_14 kc_2 c_X11_13 ((hG 2 (by decide)).trans lay_2) (by decide) (fun M3 hM3 nM3 => ?_) (by decide +kernel) (by decide +kernel)
  refine sx_dup (pc := 17) dX11_init_17 rfl ?_
  refine sc_callIN (pc := 18) (bc := 130) (bs := 24480) (y := qX2_init) (as := []) (e := e_0 M3) dX11_init_18 n_X11_15 y0X2_init rfl rfl yiX2_init rfl (Nat.le_of_ble_eq_true rfl) (by decide) (Nat.le_of_ble_eq_true rfl) rfl rfl (ct_0 hG nM3 ⟨rfl, rfl⟩) (fun M4 hM4 => ?_) (by decide +kernel) (by decide +kernel)
  have nM4 : M4.1 = 16 := by rw [hM4]; exact e_0_n nM3
  refine sx_putFO (pc := 21) dX11_init_21 f_11_16 rfl kr_11 ((hG 0 (by decide)).trans lay_0) (by rw [nM4]; decide) rfl ?_
  refine sx_ren (fun M5 hM5 => ?_)
  have nM5 : M5.1 = 16 := by rw [hM5]; exact nM4
  refine sc_new (pc := 24) (bc := 129) (bs := 24465) nM5 dX11_init_24 kc_3 c_X11_20 ((hG 16 (by decide)).trans lay_16) (by decide) (fun M6 hM6 nM6 => ?_) (by decide +kernel) (by decide +kernel)
  refine sx_dup (pc := 27) dX11_init_27 rfl ?_
  refine sx_aload_n (pc := 28) dX11_init_28 sx_m0 ?_
  refine sc_getO (pc := 29) (c := 2) dX11_init_29 f_11_16 ((hG 0 (by decide)).trans lay_0) (by rw [nM6]; decide) rfl (by rw [hM6, hM5, hM4, hM3, hM2, hM1]; obtain ⟨n0, I0, L0, R0⟩ := M; have e0 : n0 = 1 := nM; subst e0; rfl) ?_
  refine sc_callI (pc := 32) (bc := 117) (bs := 23529) (y := qX3_init) (as := [.ref 2]) (e := e_2 M6) dX11_init_32 l_X11_22 y0X3_init rfl rfl yiX3_init rfl (Nat.le_of_ble_eq_true rfl) (by decide) (Nat.le_of_ble_eq_true rfl) rfl rfl (ct_2 hG nM6 ⟨rfl, rfl⟩) (fun M7 hM7 => ?_) (by decide +kernel) (by decide +kernel)
  have nM7 : M7.1 = 29 := by rw [hM7]; exact e_2_n nM6
  refine sx_astore_n (pc := 35) (lo' := [(1, .ref 16), (0, .ref 0)]) dX11_init_35 (by decide) rfl ?_
  refine sx_aload_n (pc := 36) dX11_init_36 sx_m1 ?_
  refine sc_new (pc := 37) (bc := 116) (bs := 23527) nM7 dX11_init_37 kc_4 c_X11_25 ((hG 29 (by decide)).trans lay_29) (by decide) (fun M8 hM8 nM8 => ?_) (by decide +kernel) (by decide +kernel)
  refine sx_dup (pc := 40) dX11_init_40 rfl ?_
  refine sx_aload_n (pc := 41) dX11_init_41 sx_m1 ?_
  refine sc_getO (pc := 42) (c := 2) dX11_init_42 f_11_16 ((hG 0 (by decide)).trans lay_0) (by rw [nM8]; decide) rfl (by rw [hM8, hM7, hM6, hM5, hM4, hM3, hM2, hM1]; obtain ⟨n0, I0, L0, R0⟩ := M; have e0 : n0 = 1 := nM; subst e0; rfl) ?_
  refine sx_aload_n (pc := 45) dX11_init_45 sx_m0 ?_
  refine sc_callI (pc := 46) (bc := 116) (bs := 23527) (y := qX4_init) (as := [.ref 2, .ref 16]) (e := e_3 M8) dX11_init_46 l_X11_27 y0X4_init rfl rfl yiX4_init rfl (Nat.le_of_ble_eq_true rfl) (by decide) (Nat.le_of_ble_eq_true rfl) rfl rfl (ct_3 hG nM8 ⟨rfl, rfl⟩) (fun M9 hM9 => ?_) (by decide +kernel) (by decide +kernel)
  have nM9 : M9.1 = 30 := by rw [hM9]; exact e_3_n nM8
  refine sx_putFO (pc := 49) dX11_init_49 f_11_30 rfl kr_11 ((hG 0 (by decide)).trans lay_0) (by rw [nM9]; decide) rfl ?_
  refine sx_ren (fun M10 hM10 => ?_)
  have nM10 : M10.1 = 30 := by rw [hM10]; exact nM9
  refine sx_aload_n (pc := 52) dX11_init_52 sx_m1 ?_
  refine sc_new (pc := 53) (bc := 115) (bs := 23514) nM10 dX11_init_53 kc_6 c_X11_34 ((hG 30 (by decide)).trans lay_30) (by decide) (fun M11 hM11 nM11 => ?_) (by decide +kernel) (by decide +kernel)
  refine sx_dup (pc := 56) dX11_init_56 rfl ?_
  refine sx_aload_n (pc := 57) dX11_init_57 sx_m1 ?_
  refine sc_getO (pc := 58) (c := 2) dX11_init_58 f_11_16 ((hG 0 (by decide)).trans lay_0) (by rw [nM11]; decide) rfl (by rw [hM11, hM10, hM9, hM8, hM7, hM6, hM5, hM4, hM3, hM2, hM1]; obtain ⟨n0, I0, L0, R0⟩ := M; have e0 : n0 = 1 := nM; subst e0; rfl) ?_
  refine sx_aload_n (pc := 61) dX11_init_61 sx_m0 ?_
  refine sc_callI (pc := 62) (bc := 3) (bs := 16487) (y := qX6_init) (as := [.ref 2, .ref 16]) (e := e_18 M11) dX11_init_62 l_X11_36 y0X6_init rfl rfl yiX6_init rfl (Nat.le_of_ble_eq_true rfl) (by decide) (Nat.le_of_ble_eq_true rfl) rfl rfl (ct_18 hG nM11 ⟨rfl, rfl⟩) (fun M12 hM12 => ?_) (by decide +kernel) (by decide +kernel)
  have nM12 : M12.1 = 143 := by rw [hM12]; exact e_18_n nM11
  refine sx_putFO (pc := 65) dX11_init_65 f_11_37 rfl kr_11 ((hG 0 (by decide)).trans lay_0) (by rw [nM12]; decide) rfl ?_
  refine sx_ren (fun M13 hM13 => ?_)
  have nM13 : M13.1 = 143 := by rw [hM13]; exact nM12
  refine sx_aload_n (pc := 68) dX11_init_68 sx_m1 ?_
  refine sc_new (pc := 69) (bc := 2) (bs := 16484) nM13 dX11_init_69 kc_1 c_X11_41 ((hG 143 (by decide)).trans lay_143) (by decide) (fun M14 hM14 nM14 => ?_) (by decide +kernel) (by decide +kernel)
  refine sx_dup (pc := 72) dX11_init_72 rfl ?_
  refine sc_callIN (pc := 73) (bc := 1) (bs := 100) (y := qX1_init) (as := []) (e := e_19 M14) dX11_init_73 n_X11_43 y0X1_init rfl rfl yiX1_init rfl (Nat.le_of_ble_eq_true rfl) (by decide) (Nat.le_of_ble_eq_true rfl) rfl rfl (ct_19 hG nM14 ⟨rfl, rfl⟩) (fun M15 hM15 => ?_) (by decide +kernel) (by decide +kernel)
  have nM15 : M15.1 = 145 := by rw [hM15]; exact e_19_n nM14
  refine sx_putFO (pc := 76) dX11_init_76 f_11_44 rfl kr_11 ((hG 0 (by decide)).trans lay_0) (by rw [nM15]; decide) rfl ?_
  refine sx_ren (fun M16 hM16 => ?_)
  have nM16 : M16.1 = 145 := by rw [hM16]; exact nM15
  refine sx_aload_n (pc := 79) dX11_init_79 sx_m1 ?_
  refine sx_bipush (pc := 80) (v := 100) dX11_init_80 (by decide +kernel) ?_
  refine sc_newa (pc := 82) (bc := 0) (bs := 0) (t := 0) (N := 100) nM16 dX11_init_82 rfl (by decide) ac_int ((hG 145 (by decide)).trans lay_145) (by decide +kernel) (by decide +kernel) (by decide +kernel) (by decide +kernel) (fun M17 hM17 nM17 => ?_) (by decide +kernel) (by decide +kernel)
  refine sx_putFA (pc := 84) dX11_init_84 f_11_48 rfl kr_11 ((hG 0 (by decide)).trans lay_0) (by rw [nM17]; decide) rfl ?_
  refine sx_ren (fun M18 hM18 => ?_)
  have nM18 : M18.1 = 146 := by rw [hM18]; exact nM17
  exact sx_vret (pc := 87) dX11_init_87 rfl (by subst hM1; subst hM2; subst hM3; subst hM4; subst hM5; subst hM6; subst hM7; subst hM8; subst hM9; subst hM10; subst hM11; subst hM12; subst hM13; subst hM14; subst hM15; subst hM16; subst hM17; subst hM18; exact hP)
def ncX12_init : Nat := 599822445049016100994372865438168833468287942759630064155944669041066457685169273301710289207356262399116831754903721577760004052152099072872078710341132371637273903730443518756434046174176682803945491831448563928058737870907949053656029930297821225308376701526868227171849615604714017690101246822470965427603688763562705578731423069138531096259028932422437823514663794918810709207819882764283509572068540564779126835515702835566620376850876263518929083296638843577139620647141477185218700866639353474438941069436302960879317394340037687711729753026776232024715612138909841768138888165643108003697871250950921101997107078266555344605919806151303995135479900125571244547186035379315202226123515118441693485622035947337606196879664164600266311208985646823389913258021100807513040031103228801925460553251810343054552687686826362155743611067570037014560758185363781358551300351355187929131272194479526468578891902091895369410956449195654802435619566839096008813768141909368732739707335822825883971315666046862696641897165339285707314464968792833379092027765809764733177832916655188802411490459064840737022887628673917770830003092626522313575157494104539155241228642704448455819041133304786222757223165039967516458
theorem kcX12_init : CK cX12_init ncX12_init 502 := ⟨by decide +kernel, by decide +kernel⟩
theorem dX12_init_0 : decode cX12_init 0 = .ok (.aload_n 0, 1) := dl_o42 kcX12_init (by decide +kernel)
theorem dX12_init_1 : decode cX12_init 1 = .ok (.invokespecial 1, 3) := dl_o183 kcX12_init (by decide +kernel)
theorem dX12_init_4 : decode cX12_init 4 = .ok (.aload_n 0, 1) := dl_o42 kcX12_init (by decide +kernel)
theorem dX12_init_5 : decode cX12_init 5 = .ok (.sipush 12000, 3) := dl_o17 kcX12_init 12000 (by decide +kernel) (by decide +kernel)
theorem dX12_init_8 : decode cX12_init 8 = .ok (.newarray .byte, 2) := by decide +kernel
theorem dX12_init_10 : decode cX12_init 10 = .ok (.putfield 7, 3) := dl_o181 kcX12_init (by decide +kernel)
theorem dX12_init_13 : decode cX12_init 13 = .ok (.aload_n 0, 1) := dl_o42 kcX12_init (by decide +kernel)
theorem dX12_init_14 : decode cX12_init 14 = .ok (.sipush 12000, 3) := dl_o17 kcX12_init 12000 (by decide +kernel) (by decide +kernel)
theorem dX12_init_17 : decode cX12_init 17 = .ok (.newarray .byte, 2) := by decide +kernel
theorem dX12_init_19 : decode cX12_init 19 = .ok (.putfield 13, 3) := dl_o181 kcX12_init (by decide +kernel)
theorem dX12_init_22 : decode cX12_init 22 = .ok (.aload_n 0, 1) := dl_o42 kcX12_init (by decide +kernel)
theorem dX12_init_23 : decode cX12_init 23 = .ok (.bipush 16, 2) := dl_o16 kcX12_init 16 (by decide +kernel) (by decide +kernel)
theorem dX12_init_25 : decode cX12_init 25 = .ok (.newarray .int, 2) := by decide +kernel
theorem dX12_init_27 : decode cX12_init 27 = .ok (.putfield 16, 3) := dl_o181 kcX12_init (by decide +kernel)
theorem dX12_init_30 : decode cX12_init 30 = .ok (.aload_n 0, 1) := dl_o42 kcX12_init (by decide +kernel)
theorem dX12_init_31 : decode cX12_init 31 = .ok (.bipush 16, 2) := dl_o16 kcX12_init 16 (by decide +kernel) (by decide +kernel)
theorem dX12_init_33 : decode cX12_init 33 = .ok (.newarray .long, 2) := by decide +kernel
theorem dX12_init_35 : decode cX12_init 35 = .ok (.putfield 20, 3) := dl_o181 kcX12_init (by decide +kernel)
theorem dX12_init_38 : decode cX12_init 38 = .ok (.aload_n 0, 1) := dl_o42 kcX12_init (by decide +kernel)
theorem dX12_init_39 : decode cX12_init 39 = .ok (.bipush 16, 2) := dl_o16 kcX12_init 16 (by decide +kernel) (by decide +kernel)
theorem dX12_init_41 : decode cX12_init 41 = .ok (.newarray .long, 2) := by decide +kernel
theorem dX12_init_43 : decode cX12_init 43 = .ok (.putfield 24, 3) := dl_o181 kcX12_init (by decide +kernel)
theorem dX12_init_46 : decode cX12_init 46 = .ok (.aload_n 0, 1) := dl_o42 kcX12_init (by decide +kernel)
theorem dX12_init_47 : decode cX12_init 47 = .ok (.bipush 16, 2) := dl_o16 kcX12_init 16 (by decide +kernel) (by decide +kernel)
theorem dX12_init_49 : decode cX12_init 49 = .ok (.newarray .long, 2) := by decide +kernel
theorem dX12_init_51 : decode cX12_init 51 = .ok (.putfield 27, 3) := dl_o181 kcX12_init (by decide +kernel)
theorem dX12_init_54 : decode cX12_init 54 = .ok (.aload_n 0, 1) := dl_o42 kcX12_init (by decide +kernel)
theorem dX12_init_55 : decode cX12_init 55 = .ok (.bipush 12, 2) := dl_o16 kcX12_init 12 (by decide +kernel) (by decide +kernel)
theorem dX12_init_57 : decode cX12_init 57 = .ok (.newarray .int, 2) := by decide +kernel
theorem dX12_init_59 : decode cX12_init 59 = .ok (.putfield 30, 3) := dl_o181 kcX12_init (by decide +kernel)
theorem dX12_init_62 : decode cX12_init 62 = .ok (.aload_n 0, 1) := dl_o42 kcX12_init (by decide +kernel)
theorem dX12_init_63 : decode cX12_init 63 = .ok (.bipush 100, 2) := dl_o16 kcX12_init 100 (by decide +kernel) (by decide +kernel)
theorem dX12_init_65 : decode cX12_init 65 = .ok (.newarray .int, 2) := by decide +kernel
theorem dX12_init_67 : decode cX12_init 67 = .ok (.putfield 33, 3) := dl_o181 kcX12_init (by decide +kernel)
theorem dX12_init_70 : decode cX12_init 70 = .ok (.aload_n 0, 1) := dl_o42 kcX12_init (by decide +kernel)
theorem dX12_init_71 : decode cX12_init 71 = .ok (.bipush 100, 2) := dl_o16 kcX12_init 100 (by decide +kernel) (by decide +kernel)
theorem dX12_init_73 : decode cX12_init 73 = .ok (.newarray .int, 2) := by decide +kernel
theorem dX12_init_75 : decode cX12_init 75 = .ok (.putfield 36, 3) := dl_o181 kcX12_init (by decide +kernel)
theorem dX12_init_78 : decode cX12_init 78 = .ok (.aload_n 0, 1) := dl_o42 kcX12_init (by decide +kernel)
theorem dX12_init_79 : decode cX12_init 79 = .ok (.bipush 100, 2) := dl_o16 kcX12_init 100 (by decide +kernel) (by decide +kernel)
theorem dX12_init_81 : decode cX12_init 81 = .ok (.newarray .int, 2) := by decide +kernel
theorem dX12_init_83 : decode cX12_init 83 = .ok (.putfield 39, 3) := dl_o181 kcX12_init (by decide +kernel)
theorem dX12_init_86 : decode cX12_init 86 = .ok (.aload_n 0, 1) := dl_o42 kcX12_init (by decide +kernel)
theorem dX12_init_87 : decode cX12_init 87 = .ok (.bipush 8, 2) := dl_o16 kcX12_init 8 (by decide +kernel) (by decide +kernel)
theorem dX12_init_89 : decode cX12_init 89 = .ok (.newarray .int, 2) := by decide +kernel
theorem dX12_init_91 : decode cX12_init 91 = .ok (.putfield 42, 3) := dl_o181 kcX12_init (by decide +kernel)
theorem dX12_init_94 : decode cX12_init 94 = .ok (.aload_n 0, 1) := dl_o42 kcX12_init (by decide +kernel)
theorem dX12_init_95 : decode cX12_init 95 = .ok (.bipush 8, 2) := dl_o16 kcX12_init 8 (by decide +kernel) (by decide +kernel)
theorem dX12_init_97 : decode cX12_init 97 = .ok (.newarray .int, 2) := by decide +kernel
theorem dX12_init_99 : decode cX12_init 99 = .ok (.putfield 45, 3) := dl_o181 kcX12_init (by decide +kernel)
theorem dX12_init_102 : decode cX12_init 102 = .ok (.aload_n 0, 1) := dl_o42 kcX12_init (by decide +kernel)
theorem dX12_init_103 : decode cX12_init 103 = .ok (.bipush 8, 2) := dl_o16 kcX12_init 8 (by decide +kernel) (by decide +kernel)
theorem dX12_init_105 : decode cX12_init 105 = .ok (.newarray .int, 2) := by decide +kernel
theorem dX12_init_107 : decode cX12_init 107 = .ok (.putfield 48, 3) := dl_o181 kcX12_init (by decide +kernel)
theorem dX12_init_110 : decode cX12_init 110 = .ok (.aload_n 0, 1) := dl_o42 kcX12_init (by decide +kernel)
theorem dX12_init_111 : decode cX12_init 111 = .ok (.bipush 8, 2) := dl_o16 kcX12_init 8 (by decide +kernel) (by decide +kernel)
theorem dX12_init_113 : decode cX12_init 113 = .ok (.newarray .int, 2) := by decide +kernel
theorem dX12_init_115 : decode cX12_init 115 = .ok (.putfield 51, 3) := dl_o181 kcX12_init (by decide +kernel)
theorem dX12_init_118 : decode cX12_init 118 = .ok (.aload_n 0, 1) := dl_o42 kcX12_init (by decide +kernel)
theorem dX12_init_119 : decode cX12_init 119 = .ok (.bipush 32, 2) := dl_o16 kcX12_init 32 (by decide +kernel) (by decide +kernel)
theorem dX12_init_121 : decode cX12_init 121 = .ok (.newarray .int, 2) := by decide +kernel
theorem dX12_init_123 : decode cX12_init 123 = .ok (.putfield 54, 3) := dl_o181 kcX12_init (by decide +kernel)
theorem dX12_init_126 : decode cX12_init 126 = .ok (.aload_n 0, 1) := dl_o42 kcX12_init (by decide +kernel)
theorem dX12_init_127 : decode cX12_init 127 = .ok (.sipush 200, 3) := dl_o17 kcX12_init 200 (by decide +kernel) (by decide +kernel)
theorem dX12_init_130 : decode cX12_init 130 = .ok (.newarray .boolean, 2) := by decide +kernel
theorem dX12_init_132 : decode cX12_init 132 = .ok (.putfield 57, 3) := dl_o181 kcX12_init (by decide +kernel)
theorem dX12_init_135 : decode cX12_init 135 = .ok (.aload_n 0, 1) := dl_o42 kcX12_init (by decide +kernel)
theorem dX12_init_136 : decode cX12_init 136 = .ok (.sipush 200, 3) := dl_o17 kcX12_init 200 (by decide +kernel) (by decide +kernel)
theorem dX12_init_139 : decode cX12_init 139 = .ok (.newarray .boolean, 2) := by decide +kernel
theorem dX12_init_141 : decode cX12_init 141 = .ok (.putfield 61, 3) := dl_o181 kcX12_init (by decide +kernel)
theorem dX12_init_144 : decode cX12_init 144 = .ok (.aload_n 0, 1) := dl_o42 kcX12_init (by decide +kernel)
theorem dX12_init_145 : decode cX12_init 145 = .ok (.sipush 256, 3) := dl_o17 kcX12_init 256 (by decide +kernel) (by decide +kernel)
theorem dX12_init_148 : decode cX12_init 148 = .ok (.newarray .int, 2) := by decide +kernel
theorem dX12_init_150 : decode cX12_init 150 = .ok (.putfield 64, 3) := dl_o181 kcX12_init (by decide +kernel)
theorem dX12_init_153 : decode cX12_init 153 = .ok (.aload_n 0, 1) := dl_o42 kcX12_init (by decide +kernel)
theorem dX12_init_154 : decode cX12_init 154 = .ok (.bipush 64, 2) := dl_o16 kcX12_init 64 (by decide +kernel) (by decide +kernel)
theorem dX12_init_156 : decode cX12_init 156 = .ok (.newarray .int, 2) := by decide +kernel
theorem dX12_init_158 : decode cX12_init 158 = .ok (.putfield 67, 3) := dl_o181 kcX12_init (by decide +kernel)
theorem dX12_init_161 : decode cX12_init 161 = .ok (.aload_n 0, 1) := dl_o42 kcX12_init (by decide +kernel)
theorem dX12_init_162 : decode cX12_init 162 = .ok (.sipush 204, 3) := dl_o17 kcX12_init 204 (by decide +kernel) (by decide +kernel)
theorem dX12_init_165 : decode cX12_init 165 = .ok (.newarray .int, 2) := by decide +kernel
theorem dX12_init_167 : decode cX12_init 167 = .ok (.putfield 70, 3) := dl_o181 kcX12_init (by decide +kernel)
theorem dX12_init_170 : decode cX12_init 170 = .ok (.aload_n 0, 1) := dl_o42 kcX12_init (by decide +kernel)
theorem dX12_init_171 : decode cX12_init 171 = .ok (.sipush 204, 3) := dl_o17 kcX12_init 204 (by decide +kernel) (by decide +kernel)
theorem dX12_init_174 : decode cX12_init 174 = .ok (.newarray .int, 2) := by decide +kernel
theorem dX12_init_176 : decode cX12_init 176 = .ok (.putfield 73, 3) := dl_o181 kcX12_init (by decide +kernel)
theorem dX12_init_179 : decode cX12_init 179 = .ok (.aload_n 0, 1) := dl_o42 kcX12_init (by decide +kernel)
theorem dX12_init_180 : decode cX12_init 180 = .ok (.sipush 204, 3) := dl_o17 kcX12_init 204 (by decide +kernel) (by decide +kernel)
theorem dX12_init_183 : decode cX12_init 183 = .ok (.newarray .int, 2) := by decide +kernel
theorem dX12_init_185 : decode cX12_init 185 = .ok (.putfield 76, 3) := dl_o181 kcX12_init (by decide +kernel)
theorem dX12_init_188 : decode cX12_init 188 = .ok (.aload_n 0, 1) := dl_o42 kcX12_init (by decide +kernel)
theorem dX12_init_189 : decode cX12_init 189 = .ok (.sipush 204, 3) := dl_o17 kcX12_init 204 (by decide +kernel) (by decide +kernel)
theorem dX12_init_192 : decode cX12_init 192 = .ok (.newarray .int, 2) := by decide +kernel
theorem dX12_init_194 : decode cX12_init 194 = .ok (.putfield 79, 3) := dl_o181 kcX12_init (by decide +kernel)
theorem dX12_init_197 : decode cX12_init 197 = .ok (.aload_n 0, 1) := dl_o42 kcX12_init (by decide +kernel)
theorem dX12_init_198 : decode cX12_init 198 = .ok (.sipush 204, 3) := dl_o17 kcX12_init 204 (by decide +kernel) (by decide +kernel)
theorem dX12_init_201 : decode cX12_init 201 = .ok (.newarray .int, 2) := by decide +kernel
theorem dX12_init_203 : decode cX12_init 203 = .ok (.putfield 82, 3) := dl_o181 kcX12_init (by decide +kernel)
theorem dX12_init_206 : decode cX12_init 206 = .ok (.aload_n 0, 1) := dl_o42 kcX12_init (by decide +kernel)
theorem dX12_init_207 : decode cX12_init 207 = .ok (.bipush 102, 2) := dl_o16 kcX12_init 102 (by decide +kernel) (by decide +kernel)
theorem dX12_init_209 : decode cX12_init 209 = .ok (.newarray .boolean, 2) := by decide +kernel
theorem dX12_init_211 : decode cX12_init 211 = .ok (.putfield 85, 3) := dl_o181 kcX12_init (by decide +kernel)
theorem dX12_init_214 : decode cX12_init 214 = .ok (.aload_n 0, 1) := dl_o42 kcX12_init (by decide +kernel)
theorem dX12_init_215 : decode cX12_init 215 = .ok (.bipush 20, 2) := dl_o16 kcX12_init 20 (by decide +kernel) (by decide +kernel)
theorem dX12_init_217 : decode cX12_init 217 = .ok (.newarray .int, 2) := by decide +kernel
theorem dX12_init_219 : decode cX12_init 219 = .ok (.putfield 88, 3) := dl_o181 kcX12_init (by decide +kernel)
theorem dX12_init_222 : decode cX12_init 222 = .ok (.aload_n 0, 1) := dl_o42 kcX12_init (by decide +kernel)
theorem dX12_init_223 : decode cX12_init 223 = .ok (.sipush 256, 3) := dl_o17 kcX12_init 256 (by decide +kernel) (by decide +kernel)
theorem dX12_init_226 : decode cX12_init 226 = .ok (.newarray .int, 2) := by decide +kernel
theorem dX12_init_228 : decode cX12_init 228 = .ok (.putfield 91, 3) := dl_o181 kcX12_init (by decide +kernel)
theorem dX12_init_231 : decode cX12_init 231 = .ok (.aload_n 0, 1) := dl_o42 kcX12_init (by decide +kernel)
theorem dX12_init_232 : decode cX12_init 232 = .ok (.iconst 3, 1) := dl_o6 kcX12_init (by decide +kernel)
theorem dX12_init_233 : decode cX12_init 233 = .ok (.newarray .int, 2) := by decide +kernel
theorem dX12_init_235 : decode cX12_init 235 = .ok (.putfield 94, 3) := dl_o181 kcX12_init (by decide +kernel)
theorem dX12_init_238 : decode cX12_init 238 = .ok (.aload_n 0, 1) := dl_o42 kcX12_init (by decide +kernel)
theorem dX12_init_239 : decode cX12_init 239 = .ok (.iconst 3, 1) := dl_o6 kcX12_init (by decide +kernel)
theorem dX12_init_240 : decode cX12_init 240 = .ok (.newarray .int, 2) := by decide +kernel
theorem dX12_init_242 : decode cX12_init 242 = .ok (.putfield 97, 3) := dl_o181 kcX12_init (by decide +kernel)
theorem dX12_init_245 : decode cX12_init 245 = .ok (.aload_n 0, 1) := dl_o42 kcX12_init (by decide +kernel)
theorem dX12_init_246 : decode cX12_init 246 = .ok (.bipush 64, 2) := dl_o16 kcX12_init 64 (by decide +kernel) (by decide +kernel)
theorem dX12_init_248 : decode cX12_init 248 = .ok (.newarray .int, 2) := by decide +kernel
theorem dX12_init_250 : decode cX12_init 250 = .ok (.putfield 100, 3) := dl_o181 kcX12_init (by decide +kernel)
theorem dX12_init_253 : decode cX12_init 253 = .ok (.aload_n 0, 1) := dl_o42 kcX12_init (by decide +kernel)
theorem dX12_init_254 : decode cX12_init 254 = .ok (.bipush 64, 2) := dl_o16 kcX12_init 64 (by decide +kernel) (by decide +kernel)
theorem dX12_init_256 : decode cX12_init 256 = .ok (.newarray .int, 2) := by decide +kernel
theorem dX12_init_258 : decode cX12_init 258 = .ok (.putfield 103, 3) := dl_o181 kcX12_init (by decide +kernel)
theorem dX12_init_261 : decode cX12_init 261 = .ok (.aload_n 0, 1) := dl_o42 kcX12_init (by decide +kernel)
theorem dX12_init_262 : decode cX12_init 262 = .ok (.sipush 256, 3) := dl_o17 kcX12_init 256 (by decide +kernel) (by decide +kernel)
theorem dX12_init_265 : decode cX12_init 265 = .ok (.newarray .int, 2) := by decide +kernel
theorem dX12_init_267 : decode cX12_init 267 = .ok (.putfield 106, 3) := dl_o181 kcX12_init (by decide +kernel)
theorem dX12_init_270 : decode cX12_init 270 = .ok (.aload_n 0, 1) := dl_o42 kcX12_init (by decide +kernel)
theorem dX12_init_271 : decode cX12_init 271 = .ok (.sipush 256, 3) := dl_o17 kcX12_init 256 (by decide +kernel) (by decide +kernel)
theorem dX12_init_274 : decode cX12_init 274 = .ok (.newarray .int, 2) := by decide +kernel
theorem dX12_init_276 : decode cX12_init 276 = .ok (.putfield 109, 3) := dl_o181 kcX12_init (by decide +kernel)
theorem dX12_init_279 : decode cX12_init 279 = .ok (.aload_n 0, 1) := dl_o42 kcX12_init (by decide +kernel)
theorem dX12_init_280 : decode cX12_init 280 = .ok (.bipush 32, 2) := dl_o16 kcX12_init 32 (by decide +kernel) (by decide +kernel)
theorem dX12_init_282 : decode cX12_init 282 = .ok (.newarray .int, 2) := by decide +kernel
theorem dX12_init_284 : decode cX12_init 284 = .ok (.putfield 112, 3) := dl_o181 kcX12_init (by decide +kernel)
theorem dX12_init_287 : decode cX12_init 287 = .ok (.aload_n 0, 1) := dl_o42 kcX12_init (by decide +kernel)
theorem dX12_init_288 : decode cX12_init 288 = .ok (.bipush 32, 2) := dl_o16 kcX12_init 32 (by decide +kernel) (by decide +kernel)
theorem dX12_init_290 : decode cX12_init 290 = .ok (.newarray .int, 2) := by decide +kernel
theorem dX12_init_292 : decode cX12_init 292 = .ok (.putfield 115, 3) := dl_o181 kcX12_init (by decide +kernel)
theorem dX12_init_295 : decode cX12_init 295 = .ok (.aload_n 0, 1) := dl_o42 kcX12_init (by decide +kernel)
theorem dX12_init_296 : decode cX12_init 296 = .ok (.bipush 32, 2) := dl_o16 kcX12_init 32 (by decide +kernel) (by decide +kernel)
theorem dX12_init_298 : decode cX12_init 298 = .ok (.newarray .int, 2) := by decide +kernel
theorem dX12_init_300 : decode cX12_init 300 = .ok (.putfield 118, 3) := dl_o181 kcX12_init (by decide +kernel)
theorem dX12_init_303 : decode cX12_init 303 = .ok (.aload_n 0, 1) := dl_o42 kcX12_init (by decide +kernel)
theorem dX12_init_304 : decode cX12_init 304 = .ok (.bipush 32, 2) := dl_o16 kcX12_init 32 (by decide +kernel) (by decide +kernel)
theorem dX12_init_306 : decode cX12_init 306 = .ok (.newarray .int, 2) := by decide +kernel
theorem dX12_init_308 : decode cX12_init 308 = .ok (.putfield 121, 3) := dl_o181 kcX12_init (by decide +kernel)
theorem dX12_init_311 : decode cX12_init 311 = .ok (.aload_n 0, 1) := dl_o42 kcX12_init (by decide +kernel)
theorem dX12_init_312 : decode cX12_init 312 = .ok (.bipush 32, 2) := dl_o16 kcX12_init 32 (by decide +kernel) (by decide +kernel)
theorem dX12_init_314 : decode cX12_init 314 = .ok (.newarray .int, 2) := by decide +kernel
theorem dX12_init_316 : decode cX12_init 316 = .ok (.putfield 124, 3) := dl_o181 kcX12_init (by decide +kernel)
theorem dX12_init_319 : decode cX12_init 319 = .ok (.aload_n 0, 1) := dl_o42 kcX12_init (by decide +kernel)
theorem dX12_init_320 : decode cX12_init 320 = .ok (.iconst (-1), 1) := dl_o2 kcX12_init (by decide +kernel)
theorem dX12_init_321 : decode cX12_init 321 = .ok (.putfield 127, 3) := dl_o181 kcX12_init (by decide +kernel)
theorem dX12_init_324 : decode cX12_init 324 = .ok (.aload_n 0, 1) := dl_o42 kcX12_init (by decide +kernel)
theorem dX12_init_325 : decode cX12_init 325 = .ok (.sipush 256, 3) := dl_o17 kcX12_init 256 (by decide +kernel) (by decide +kernel)
theorem dX12_init_328 : decode cX12_init 328 = .ok (.newarray .int, 2) := by decide +kernel
theorem dX12_init_330 : decode cX12_init 330 = .ok (.putfield 131, 3) := dl_o181 kcX12_init (by decide +kernel)
theorem dX12_init_333 : decode cX12_init 333 = .ok (.aload_n 0, 1) := dl_o42 kcX12_init (by decide +kernel)
theorem dX12_init_334 : decode cX12_init 334 = .ok (.bipush 64, 2) := dl_o16 kcX12_init 64 (by decide +kernel) (by decide +kernel)
theorem dX12_init_336 : decode cX12_init 336 = .ok (.newarray .int, 2) := by decide +kernel
theorem dX12_init_338 : decode cX12_init 338 = .ok (.putfield 134, 3) := dl_o181 kcX12_init (by decide +kernel)
theorem dX12_init_341 : decode cX12_init 341 = .ok (.aload_n 0, 1) := dl_o42 kcX12_init (by decide +kernel)
theorem dX12_init_342 : decode cX12_init 342 = .ok (.sipush 256, 3) := dl_o17 kcX12_init 256 (by decide +kernel) (by decide +kernel)
theorem dX12_init_345 : decode cX12_init 345 = .ok (.newarray .int, 2) := by decide +kernel
theorem dX12_init_347 : decode cX12_init 347 = .ok (.putfield 137, 3) := dl_o181 kcX12_init (by decide +kernel)
theorem dX12_init_350 : decode cX12_init 350 = .ok (.aload_n 0, 1) := dl_o42 kcX12_init (by decide +kernel)
theorem dX12_init_351 : decode cX12_init 351 = .ok (.bipush 9, 2) := dl_o16 kcX12_init 9 (by decide +kernel) (by decide +kernel)
theorem dX12_init_353 : decode cX12_init 353 = .ok (.newarray .int, 2) := by decide +kernel
theorem dX12_init_355 : decode cX12_init 355 = .ok (.putfield 140, 3) := dl_o181 kcX12_init (by decide +kernel)
theorem dX12_init_358 : decode cX12_init 358 = .ok (.aload_n 0, 1) := dl_o42 kcX12_init (by decide +kernel)
theorem dX12_init_359 : decode cX12_init 359 = .ok (.bipush 64, 2) := dl_o16 kcX12_init 64 (by decide +kernel) (by decide +kernel)
theorem dX12_init_361 : decode cX12_init 361 = .ok (.newarray .int, 2) := by decide +kernel
theorem dX12_init_363 : decode cX12_init 363 = .ok (.putfield 143, 3) := dl_o181 kcX12_init (by decide +kernel)
theorem dX12_init_366 : decode cX12_init 366 = .ok (.aload_n 0, 1) := dl_o42 kcX12_init (by decide +kernel)
theorem dX12_init_367 : decode cX12_init 367 = .ok (.bipush 6, 2) := dl_o16 kcX12_init 6 (by decide +kernel) (by decide +kernel)
theorem dX12_init_369 : decode cX12_init 369 = .ok (.newarray .int, 2) := by decide +kernel
theorem dX12_init_371 : decode cX12_init 371 = .ok (.putfield 146, 3) := dl_o181 kcX12_init (by decide +kernel)
theorem dX12_init_374 : decode cX12_init 374 = .ok (.aload_n 0, 1) := dl_o42 kcX12_init (by decide +kernel)
theorem dX12_init_375 : decode cX12_init 375 = .ok (.bipush 6, 2) := dl_o16 kcX12_init 6 (by decide +kernel) (by decide +kernel)
theorem dX12_init_377 : decode cX12_init 377 = .ok (.newarray .int, 2) := by decide +kernel
theorem dX12_init_379 : decode cX12_init 379 = .ok (.putfield 149, 3) := dl_o181 kcX12_init (by decide +kernel)
theorem dX12_init_382 : decode cX12_init 382 = .ok (.aload_n 0, 1) := dl_o42 kcX12_init (by decide +kernel)
theorem dX12_init_383 : decode cX12_init 383 = .ok (.sipush 612, 3) := dl_o17 kcX12_init 612 (by decide +kernel) (by decide +kernel)
theorem dX12_init_386 : decode cX12_init 386 = .ok (.newarray .int, 2) := by decide +kernel
theorem dX12_init_388 : decode cX12_init 388 = .ok (.putfield 152, 3) := dl_o181 kcX12_init (by decide +kernel)
theorem dX12_init_391 : decode cX12_init 391 = .ok (.aload_n 0, 1) := dl_o42 kcX12_init (by decide +kernel)
theorem dX12_init_392 : decode cX12_init 392 = .ok (.sipush 612, 3) := dl_o17 kcX12_init 612 (by decide +kernel) (by decide +kernel)
theorem dX12_init_395 : decode cX12_init 395 = .ok (.newarray .int, 2) := by decide +kernel
theorem dX12_init_397 : decode cX12_init 397 = .ok (.putfield 155, 3) := dl_o181 kcX12_init (by decide +kernel)
theorem dX12_init_400 : decode cX12_init 400 = .ok (.aload_n 0, 1) := dl_o42 kcX12_init (by decide +kernel)
theorem dX12_init_401 : decode cX12_init 401 = .ok (.sipush 612, 3) := dl_o17 kcX12_init 612 (by decide +kernel) (by decide +kernel)
theorem dX12_init_404 : decode cX12_init 404 = .ok (.newarray .boolean, 2) := by decide +kernel
theorem dX12_init_406 : decode cX12_init 406 = .ok (.putfield 158, 3) := dl_o181 kcX12_init (by decide +kernel)
theorem dX12_init_409 : decode cX12_init 409 = .ok (.aload_n 0, 1) := dl_o42 kcX12_init (by decide +kernel)
theorem dX12_init_410 : decode cX12_init 410 = .ok (.bipush 120, 2) := dl_o16 kcX12_init 120 (by decide +kernel) (by decide +kernel)
theorem dX12_init_412 : decode cX12_init 412 = .ok (.newarray .int, 2) := by decide +kernel
theorem dX12_init_414 : decode cX12_init 414 = .ok (.putfield 161, 3) := dl_o181 kcX12_init (by decide +kernel)
theorem dX12_init_417 : decode cX12_init 417 = .ok (.aload_n 0, 1) := dl_o42 kcX12_init (by decide +kernel)
theorem dX12_init_418 : decode cX12_init 418 = .ok (.bipush 24, 2) := dl_o16 kcX12_init 24 (by decide +kernel) (by decide +kernel)
theorem dX12_init_420 : decode cX12_init 420 = .ok (.newarray .int, 2) := by decide +kernel
theorem dX12_init_422 : decode cX12_init 422 = .ok (.putfield 164, 3) := dl_o181 kcX12_init (by decide +kernel)
theorem dX12_init_425 : decode cX12_init 425 = .ok (.aload_n 0, 1) := dl_o42 kcX12_init (by decide +kernel)
theorem dX12_init_426 : decode cX12_init 426 = .ok (.bipush 100, 2) := dl_o16 kcX12_init 100 (by decide +kernel) (by decide +kernel)
theorem dX12_init_428 : decode cX12_init 428 = .ok (.newarray .int, 2) := by decide +kernel
theorem dX12_init_430 : decode cX12_init 430 = .ok (.putfield 167, 3) := dl_o181 kcX12_init (by decide +kernel)
theorem dX12_init_433 : decode cX12_init 433 = .ok (.aload_n 0, 1) := dl_o42 kcX12_init (by decide +kernel)
theorem dX12_init_434 : decode cX12_init 434 = .ok (.bipush 100, 2) := dl_o16 kcX12_init 100 (by decide +kernel) (by decide +kernel)
theorem dX12_init_436 : decode cX12_init 436 = .ok (.newarray .int, 2) := by decide +kernel
theorem dX12_init_438 : decode cX12_init 438 = .ok (.putfield 170, 3) := dl_o181 kcX12_init (by decide +kernel)
theorem dX12_init_441 : decode cX12_init 441 = .ok (.aload_n 0, 1) := dl_o42 kcX12_init (by decide +kernel)
theorem dX12_init_442 : decode cX12_init 442 = .ok (.bipush 100, 2) := dl_o16 kcX12_init 100 (by decide +kernel) (by decide +kernel)
theorem dX12_init_444 : decode cX12_init 444 = .ok (.newarray .boolean, 2) := by decide +kernel
theorem dX12_init_446 : decode cX12_init 446 = .ok (.putfield 173, 3) := dl_o181 kcX12_init (by decide +kernel)
theorem dX12_init_449 : decode cX12_init 449 = .ok (.aload_n 0, 1) := dl_o42 kcX12_init (by decide +kernel)
theorem dX12_init_450 : decode cX12_init 450 = .ok (.bipush 20, 2) := dl_o16 kcX12_init 20 (by decide +kernel) (by decide +kernel)
theorem dX12_init_452 : decode cX12_init 452 = .ok (.newarray .int, 2) := by decide +kernel
theorem dX12_init_454 : decode cX12_init 454 = .ok (.putfield 176, 3) := dl_o181 kcX12_init (by decide +kernel)
theorem dX12_init_457 : decode cX12_init 457 = .ok (.aload_n 0, 1) := dl_o42 kcX12_init (by decide +kernel)
theorem dX12_init_458 : decode cX12_init 458 = .ok (.sipush 220, 3) := dl_o17 kcX12_init 220 (by decide +kernel) (by decide +kernel)
theorem dX12_init_461 : decode cX12_init 461 = .ok (.newarray .int, 2) := by decide +kernel
theorem dX12_init_463 : decode cX12_init 463 = .ok (.putfield 179, 3) := dl_o181 kcX12_init (by decide +kernel)
theorem dX12_init_466 : decode cX12_init 466 = .ok (.aload_n 0, 1) := dl_o42 kcX12_init (by decide +kernel)
theorem dX12_init_467 : decode cX12_init 467 = .ok (.sipush 220, 3) := dl_o17 kcX12_init 220 (by decide +kernel) (by decide +kernel)
theorem dX12_init_470 : decode cX12_init 470 = .ok (.newarray .int, 2) := by decide +kernel
theorem dX12_init_472 : decode cX12_init 472 = .ok (.putfield 182, 3) := dl_o181 kcX12_init (by decide +kernel)
theorem dX12_init_475 : decode cX12_init 475 = .ok (.aload_n 0, 1) := dl_o42 kcX12_init (by decide +kernel)
theorem dX12_init_476 : decode cX12_init 476 = .ok (.sipush 220, 3) := dl_o17 kcX12_init 220 (by decide +kernel) (by decide +kernel)
theorem dX12_init_479 : decode cX12_init 479 = .ok (.newarray .boolean, 2) := by decide +kernel
theorem dX12_init_481 : decode cX12_init 481 = .ok (.putfield 185, 3) := dl_o181 kcX12_init (by decide +kernel)
theorem dX12_init_484 : decode cX12_init 484 = .ok (.aload_n 0, 1) := dl_o42 kcX12_init (by decide +kernel)
theorem dX12_init_485 : decode cX12_init 485 = .ok (.sipush 16384, 3) := dl_o17 kcX12_init 16384 (by decide +kernel) (by decide +kernel)
theorem dX12_init_488 : decode cX12_init 488 = .ok (.newarray .boolean, 2) := by decide +kernel
theorem dX12_init_490 : decode cX12_init 490 = .ok (.putfield 188, 3) := dl_o181 kcX12_init (by decide +kernel)
theorem dX12_init_493 : decode cX12_init 493 = .ok (.aload_n 0, 1) := dl_o42 kcX12_init (by decide +kernel)
theorem dX12_init_494 : decode cX12_init 494 = .ok (.bipush 100, 2) := dl_o16 kcX12_init 100 (by decide +kernel) (by decide +kernel)
theorem dX12_init_496 : decode cX12_init 496 = .ok (.newarray .int, 2) := by decide +kernel
theorem dX12_init_498 : decode cX12_init 498 = .ok (.putfield 191, 3) := dl_o181 kcX12_init (by decide +kernel)
theorem dX12_init_501 : decode cX12_init 501 = .ok (.return_, 1) := dl_o177 kcX12_init (by decide +kernel)
def e_21 (M : sx_M) : sx_M := sx_sR (sx_nw (sx_sR (sx_nw (sx_sR (sx_nw (sx_sR (sx_nw (sx_sR (sx_nw (sx_sR (sx_nw (sx_sR (sx_nw (sx_sR (sx_nw (sx_sR (sx_nw (sx_sR (sx_nw (sx_sR (sx_nw (sx_sR (sx_nw (sx_sR (sx_nw (sx_sR (sx_nw (sx_sR (sx_nw (sx_sR (sx_nw (sx_sR (sx_nw (sx_sR (sx_nw (sx_sR (sx_nw (sx_sR (sx_nw (sx_sR (sx_nw (sx_sI (sx_sR (sx_nw (sx_sR (sx_nw (sx_sR (sx_nw (sx_sR (sx_nw (sx_sR (sx_nw (sx_sR (sx_nw (sx_sR (sx_nw (sx_sR (sx_nw (sx_sR (sx_nw (sx_sR (sx_nw (sx_sR (sx_nw (sx_sR (sx_nw (sx_sR (sx_nw (sx_sR (sx_nw (sx_sR (sx_nw (sx_sR (sx_nw (sx_sR (sx_nw (sx_sR (sx_nw (sx_sR (sx_nw (sx_sR (sx_nw (sx_sR (sx_nw (sx_sR (sx_nw (sx_sR (sx_nw (sx_sR (sx_nw (sx_sR (sx_nw (sx_sR (sx_nw (sx_sR (sx_nw (sx_sR (sx_nw (sx_sR (sx_nw (sx_sR (sx_nw (sx_sR (sx_nw (sx_sR (sx_nw (sx_sR (sx_nw (sx_sR (sx_nw (sx_sR (sx_nw (sx_sR (sx_nw (sx_sR (sx_nw (sx_sR (sx_nw (M)) 146 0 (some 147))) 146 2 (some 148))) 146 6 (some 149))) 146 7 (some 150))) 146 8 (some 151))) 146 9 (some 152))) 146 33 (some 153))) 146 34 (some 154))) 146 35 (some 155))) 146 36 (some 156))) 146 37 (some 157))) 146 38 (some 158))) 146 39 (some 159))) 146 40 (some 160))) 146 41 (some 161))) 146 42 (some 162))) 146 43 (some 163))) 146 44 (some 164))) 146 45 (some 165))) 146 46 (some 166))) 146 47 (some 167))) 146 48 (some 168))) 146 49 (some 169))) 146 50 (some 170))) 146 51 (some 171))) 146 54 (some 172))) 146 55 (some 173))) 146 89 (some 174))) 146 90 (some 175))) 146 94 (some 176))) 146 95 (some 177))) 146 96 (some 178))) 146 97 (some 179))) 146 100 (some 180))) 146 101 (some 181))) 146 102 (some 182))) 146 103 (some 183))) 146 104 (some 184)) 146 112 (-1))) 146 113 (some 185))) 146 114 (some 186))) 146 115 (some 187))) 146 116 (some 188))) 146 117 (some 189))) 146 118 (some 190))) 146 119 (some 191))) 146 120 (some 192))) 146 121 (some 193))) 146 122 (some 194))) 146 123 (some 195))) 146 124 (some 196))) 146 130 (some 197))) 146 131 (some 198))) 146 132 (some 199))) 146 133 (some 200))) 146 136 (some 201))) 146 137 (some 202))) 146 138 (some 203))) 146 143 (some 204))) 146 145 (some 205)
theorem e_21_R {M M2 : sx_M} (h : rq M M2) : rq (e_21 M) (e_21 M2) := rq_sR (rq_nw (rq_sR (rq_nw (rq_sR (rq_nw (rq_sR (rq_nw (rq_sR (rq_nw (rq_sR (rq_nw (rq_sR (rq_nw (rq_sR (rq_nw (rq_sR (rq_nw (rq_sR (rq_nw (rq_sR (rq_nw (rq_sR (rq_nw (rq_sR (rq_nw (rq_sR (rq_nw (rq_sR (rq_nw (rq_sR (rq_nw (rq_sR (rq_nw (rq_sR (rq_nw (rq_sR (rq_nw (rq_sR (rq_nw (rq_sR (rq_nw (rq_sI (rq_sR (rq_nw (rq_sR (rq_nw (rq_sR (rq_nw (rq_sR (rq_nw (rq_sR (rq_nw (rq_sR (rq_nw (rq_sR (rq_nw (rq_sR (rq_nw (rq_sR (rq_nw (rq_sR (rq_nw (rq_sR (rq_nw (rq_sR (rq_nw (rq_sR (rq_nw (rq_sR (rq_nw (rq_sR (rq_nw (rq_sR (rq_nw (rq_sR (rq_nw (rq_sR (rq_nw (rq_sR (rq_nw (rq_sR (rq_nw (rq_sR (rq_nw (rq_sR (rq_nw (rq_sR (rq_nw (rq_sR (rq_nw (rq_sR (rq_nw (rq_sR (rq_nw (rq_sR (rq_nw (rq_sR (rq_nw (rq_sR (rq_nw (rq_sR (rq_nw (rq_sR (rq_nw (rq_sR (rq_nw (rq_sR (rq_nw (rq_sR (rq_nw (rq_sR (rq_nw (rq_sR (rq_nw (rq_sR (rq_nw (rq_sR (rq_nw (h)))))))))))))))))))))))))))))))))))))))))))))))))))))))))))))))))))))))))))))))))))))))))))))))))))))))))))))))))))))))
set_option maxRecDepth 20000 in
theorem e_21_n {M : sx_M} (h : M.1 = 147) : (e_21 M).1 = 206 := by
  show M.1 + 59 = 206
  rw [h]
set_option maxRecDepth 20000 in
set_option maxHeartbeats 4000000 in
theorem ct_21 {g : sx_G} (hG : sx_Go g) {P : Option Value → sx_M → Prop} {M : sx_M} (nM : M.1 = 147) (hP : P none (e_21 M)) : sx_J g qX12_init 1 0 [(0, .ref 146)] [] M 59 47469 P := by
  refine sx_aload_n (pc := 0) dX12_init_0 sx_m0 ?_
  refine sx_objInit (pc := 1) dX12_init_1 l_X12_1 oi_i oi_c (by decide) (Nat.le_of_ble_eq_true rfl) ?_
  refine sx_aload_n (pc := 4) dX12_init_4 sx_m0 ?_
  refine sx_sipush (pc := 5) (v := 12000) dX12_init_5 (by decide +kernel) ?_
  refine sc_newa (pc := 8) (bc := 58) (bs := 35469) (t := 1) (N := 12000) nM dX12_init_8 rfl (by decide) ac_byte ((hG 147 (by decide)).trans lay_147) (by decide +kernel) (by decide +kernel) (by decide +kernel) (by decide +kernel) (fun M1 hM1 nM1 => ?_) (by decide +kernel) (by decide +kernel)
  refine sx_putA (pc := 10) dX12_init_10 f_12_7 ((hG 146 (by decide)).trans lay_146) (by rw [nM1]; decide) rfl ?_
  refine sx_ren (fun M2 hM2 => ?_)
  have nM2 : M2.1 = 148 := by rw [hM2]; exact nM1
  refine sx_aload_n (pc := 13) dX12_init_13 sx_m0 ?_
  refine sx_sipush (pc := 14) (v := 12000) dX12_init_14 (by decide +kernel) ?_
  refine sc_newa (pc := 17) (bc := 57) (bs := 23469) (t := 1) (N := 12000) nM2 dX12_init_17 rfl (by decide) ac_byte ((hG 148 (by decide)).trans lay_148) (by decide +kernel) (by decide +kernel) (by decide +kernel) (by decide +kernel) (fun M3 hM3 nM3 => ?_) (by decide +kernel) (by decide +kernel)
  refine sx_putA (pc := 19) dX12_init_19 f_12_13 ((hG 146 (by decide)).trans lay_146) (by rw [nM3]; decide) rfl ?_
  refine sx_ren (fun M4 hM4 => ?_)
  have nM4 : M4.1 = 149 := by rw [hM4]; exact nM3
  refine sx_aload_n (pc := 22) dX12_init_22 sx_m0 ?_
  refine sx_bipush (pc := 23) (v := 16) dX12_init_23 (by decide +kernel) ?_
  refine sc_newa (pc := 25) (bc := 56) (bs := 23453) (t := 0) (N := 16) nM4 dX12_init_25 rfl (by decide) ac_int ((hG 149 (by decide)).trans lay_149) (by decide +kernel) (by decide +kernel) (by decide +kernel) (by decide +kernel) (fun M5 hM5 nM5 => ?_) (by decide +kernel) (by decide +kernel)
  refine sx_putA (pc := 27) dX12_init_27 f_12_16 ((hG 146 (by decide)).trans lay_146) (by rw [nM5]; decide) rfl ?_
  refine sx_ren (fun M6 hM6 => ?_)
  have nM6 : M6.1 = 150 := by rw [hM6]; exact nM5
  refine sx_aload_n (pc := 30) dX12_init_30 sx_m0 ?_
  refine sx_bipush (pc := 31) (v := 16) dX12_init_31 (by decide +kernel) ?_
  refine sc_newa (pc := 33) (bc := 55) (bs := 23437) (t := 3) (N := 16) nM6 dX12_init_33 rfl (by decide) ac_long ((hG 150 (by decide)).trans lay_150) (by decide +kernel) (by decide +kernel) (by decide +kernel) (by decide +kernel) (fun M7 hM7 nM7 => ?_) (by decide +kernel) (by decide +kernel)
  refine sx_putA (pc := 35) dX12_init_35 f_12_20 ((hG 146 (by decide)).trans lay_146) (by rw [nM7]; decide) rfl ?_
  refine sx_ren (fun M8 hM8 => ?_)
  have nM8 : M8.1 = 151 := by rw [hM8]; exact nM7
  refine sx_aload_n (pc := 38) dX12_init_38 sx_m0 ?_
  refine sx_bipush (pc := 39) (v := 16) dX12_init_39 (by decide +kernel) ?_
  refine sc_newa (pc := 41) (bc := 54) (bs := 23421) (t := 3) (N := 16) nM8 dX12_init_41 rfl (by decide) ac_long ((hG 151 (by decide)).trans lay_151) (by decide +kernel) (by decide +kernel) (by decide +kernel) (by decide +kernel) (fun M9 hM9 nM9 => ?_) (by decide +kernel) (by decide +kernel)
  refine sx_putA (pc := 43) dX12_init_43 f_12_24 ((hG 146 (by decide)).trans lay_146) (by rw [nM9]; decide) rfl ?_
  refine sx_ren (fun M10 hM10 => ?_)
  have nM10 : M10.1 = 152 := by rw [hM10]; exact nM9
  refine sx_aload_n (pc := 46) dX12_init_46 sx_m0 ?_
  refine sx_bipush (pc := 47) (v := 16) dX12_init_47 (by decide +kernel) ?_
  refine sc_newa (pc := 49) (bc := 53) (bs := 23405) (t := 3) (N := 16) nM10 dX12_init_49 rfl (by decide) ac_long ((hG 152 (by decide)).trans lay_152) (by decide +kernel) (by decide +kernel) (by decide +kernel) (by decide +kernel) (fun M11 hM11 nM11 => ?_) (by decide +kernel) (by decide +kernel)
  refine sx_putA (pc := 51) dX12_init_51 f_12_27 ((hG 146 (by decide)).trans lay_146) (by rw [nM11]; decide) rfl ?_
  refine sx_ren (fun M12 hM12 => ?_)
  have nM12 : M12.1 = 153 := by rw [hM12]; exact nM11
  refine sx_aload_n (pc := 54) dX12_init_54 sx_m0 ?_
  refine sx_bipush (pc := 55) (v := 12) dX12_init_55 (by decide +kernel) ?_
  refine sc_newa (pc := 57) (bc := 52) (bs := 23393) (t := 0) (N := 12) nM12 dX12_init_57 rfl (by decide) ac_int ((hG 153 (by decide)).trans lay_153) (by decide +kernel) (by decide +kernel) (by decide +kernel) (by decide +kernel) (fun M13 hM13 nM13 => ?_) (by decide +kernel) (by decide +kernel)
  refine sx_putA (pc := 59) dX12_init_59 f_12_30 ((hG 146 (by decide)).trans lay_146) (by rw [nM13]; decide) rfl ?_
  refine sx_ren (fun M14 hM14 => ?_)
  have nM14 : M14.1 = 154 := by rw [hM14]; exact nM13
  refine sx_aload_n (pc := 62) dX12_init_62 sx_m0 ?_
  refine sx_bipush (pc := 63) (v := 100) dX12_init_63 (by decide +kernel) ?_
  refine sc_newa (pc := 65) (bc := 51) (bs := 23293) (t := 0) (N := 100) nM14 dX12_init_65 rfl (by decide) ac_int ((hG 154 (by decide)).trans lay_154) (by decide +kernel) (by decide +kernel) (by decide +kernel) (by decide +kernel) (fun M15 hM15 nM15 => ?_) (by decide +kernel) (by decide +kernel)
  refine sx_putA (pc := 67) dX12_init_67 f_12_33 ((hG 146 (by decide)).trans lay_146) (by rw [nM15]; decide) rfl ?_
  refine sx_ren (fun M16 hM16 => ?_)
  have nM16 : M16.1 = 155 := by rw [hM16]; exact nM15
  refine sx_aload_n (pc := 70) dX12_init_70 sx_m0 ?_
  refine sx_bipush (pc := 71) (v := 100) dX12_init_71 (by decide +kernel) ?_
  refine sc_newa (pc := 73) (bc := 50) (bs := 23193) (t := 0) (N := 100) nM16 dX12_init_73 rfl (by decide) ac_int ((hG 155 (by decide)).trans lay_155) (by decide +kernel) (by decide +kernel) (by decide +kernel) (by decide +kernel) (fun M17 hM17 nM17 => ?_) (by decide +kernel) (by decide +kernel)
  refine sx_putA (pc := 75) dX12_init_75 f_12_36 ((hG 146 (by decide)).trans lay_146) (by rw [nM17]; decide) rfl ?_
  refine sx_ren (fun M18 hM18 => ?_)
  have nM18 : M18.1 = 156 := by rw [hM18]; exact nM17
  refine sx_aload_n (pc := 78) dX12_init_78 sx_m0 ?_
  refine sx_bipush (pc := 79) (v := 100) dX12_init_79 (by decide +kernel) ?_
  refine sc_newa (pc := 81) (bc := 49) (bs := 23093) (t := 0) (N := 100) nM18 dX12_init_81 rfl (by decide) ac_int ((hG 156 (by decide)).trans lay_156) (by decide +kernel) (by decide +kernel) (by decide +kernel) (by decide +kernel) (fun M19 hM19 nM19 => ?_) (by decide +kernel) (by decide +kernel)
  refine sx_putA (pc := 83) dX12_init_83 f_12_39 ((hG 146 (by decide)).trans lay_146) (by rw [nM19]; decide) rfl ?_
  refine sx_ren (fun M20 hM20 => ?_)
  have nM20 : M20.1 = 157 := by rw [hM20]; exact nM19
  refine sx_aload_n (pc := 86) dX12_init_86 sx_m0 ?_
  refine sx_bipush (pc := 87) (v := 8) dX12_init_87 (by decide +kernel) ?_
  refine sc_newa (pc := 89) (bc := 48) (bs := 23085) (t := 0) (N := 8) nM20 dX12_init_89 rfl (by decide) ac_int ((hG 157 (by decide)).trans lay_157) (by decide +kernel) (by decide +kernel) (by decide +kernel) (by decide +kernel) (fun M21 hM21 nM21 => ?_) (by decide +kernel) (by decide +kernel)
  refine sx_putA (pc := 91) dX12_init_91 f_12_42 ((hG 146 (by decide)).trans lay_146) (by rw [nM21]; decide) rfl ?_
  refine sx_ren (fun M22 hM22 => ?_)
  have nM22 : M22.1 = 158 := by rw [hM22]; exact nM21
  refine sx_aload_n (pc := 94) dX12_init_94 sx_m0 ?_
  refine sx_bipush (pc := 95) (v := 8) dX12_init_95 (by decide +kernel) ?_
  refine sc_newa (pc := 97) (bc := 47) (bs := 23077) (t := 0) (N := 8) nM22 dX12_init_97 rfl (by decide) ac_int ((hG 158 (by decide)).trans lay_158) (by decide +kernel) (by decide +kernel) (by decide +kernel) (by decide +kernel) (fun M23 hM23 nM23 => ?_) (by decide +kernel) (by decide +kernel)
  refine sx_putA (pc := 99) dX12_init_99 f_12_45 ((hG 146 (by decide)).trans lay_146) (by rw [nM23]; decide) rfl ?_
  refine sx_ren (fun M24 hM24 => ?_)
  have nM24 : M24.1 = 159 := by rw [hM24]; exact nM23
  refine sx_aload_n (pc := 102) dX12_init_102 sx_m0 ?_
  refine sx_bipush (pc := 103) (v := 8) dX12_init_103 (by decide +kernel) ?_
  refine sc_newa (pc := 105) (bc := 46) (bs := 23069) (t := 0) (N := 8) nM24 dX12_init_105 rfl (by decide) ac_int ((hG 159 (by decide)).trans lay_159) (by decide +kernel) (by decide +kernel) (by decide +kernel) (by decide +kernel) (fun M25 hM25 nM25 => ?_) (by decide +kernel) (by decide +kernel)
  refine sx_putA (pc := 107) dX12_init_107 f_12_48 ((hG 146 (by decide)).trans lay_146) (by rw [nM25]; decide) rfl ?_
  refine sx_ren (fun M26 hM26 => ?_)
  have nM26 : M26.1 = 160 := by rw [hM26]; exact nM25
  refine sx_aload_n (pc := 110) dX12_init_110 sx_m0 ?_
  refine sx_bipush (pc := 111) (v := 8) dX12_init_111 (by decide +kernel) ?_
  refine sc_newa (pc := 113) (bc := 45) (bs := 23061) (t := 0) (N := 8) nM26 dX12_init_113 rfl (by decide) ac_int ((hG 160 (by decide)).trans lay_160) (by decide +kernel) (by decide +kernel) (by decide +kernel) (by decide +kernel) (fun M27 hM27 nM27 => ?_) (by decide +kernel) (by decide +kernel)
  refine sx_putA (pc := 115) dX12_init_115 f_12_51 ((hG 146 (by decide)).trans lay_146) (by rw [nM27]; decide) rfl ?_
  refine sx_ren (fun M28 hM28 => ?_)
  have nM28 : M28.1 = 161 := by rw [hM28]; exact nM27
  refine sx_aload_n (pc := 118) dX12_init_118 sx_m0 ?_
  refine sx_bipush (pc := 119) (v := 32) dX12_init_119 (by decide +kernel) ?_
  refine sc_newa (pc := 121) (bc := 44) (bs := 23029) (t := 0) (N := 32) nM28 dX12_init_121 rfl (by decide) ac_int ((hG 161 (by decide)).trans lay_161) (by decide +kernel) (by decide +kernel) (by decide +kernel) (by decide +kernel) (fun M29 hM29 nM29 => ?_) (by decide +kernel) (by decide +kernel)
  refine sx_putA (pc := 123) dX12_init_123 f_12_54 ((hG 146 (by decide)).trans lay_146) (by rw [nM29]; decide) rfl ?_
  refine sx_ren (fun M30 hM30 => ?_)
  have nM30 : M30.1 = 162 := by rw [hM30]; exact nM29
  refine sx_aload_n (pc := 126) dX12_init_126 sx_m0 ?_
  refine sx_sipush (pc := 127) (v := 200) dX12_init_127 (by decide +kernel) ?_
  refine sc_newa (pc := 130) (bc := 43) (bs := 22829) (t := 2) (N := 200) nM30 dX12_init_130 rfl (by decide) ac_boolean ((hG 162 (by decide)).trans lay_162) (by decide +kernel) (by decide +kernel) (by decide +kernel) (by decide +kernel) (fun M31 hM31 nM31 => ?_) (by decide +kernel) (by decide +kernel)
  refine sx_putA (pc := 132) dX12_init_132 f_12_57 ((hG 146 (by decide)).trans lay_146) (by rw [nM31]; decide) rfl ?_
  refine sx_ren (fun M32 hM32 => ?_)
  have nM32 : M32.1 = 163 := by rw [hM32]; exact nM31
  refine sx_aload_n (pc := 135) dX12_init_135 sx_m0 ?_
  refine sx_sipush (pc := 136) (v := 200) dX12_init_136 (by decide +kernel) ?_
  refine sc_newa (pc := 139) (bc := 42) (bs := 22629) (t := 2) (N := 200) nM32 dX12_init_139 rfl (by decide) ac_boolean ((hG 163 (by decide)).trans lay_163) (by decide +kernel) (by decide +kernel) (by decide +kernel) (by decide +kernel) (fun M33 hM33 nM33 => ?_) (by decide +kernel) (by decide +kernel)
  refine sx_putA (pc := 141) dX12_init_141 f_12_61 ((hG 146 (by decide)).trans lay_146) (by rw [nM33]; decide) rfl ?_
  refine sx_ren (fun M34 hM34 => ?_)
  have nM34 : M34.1 = 164 := by rw [hM34]; exact nM33
  refine sx_aload_n (pc := 144) dX12_init_144 sx_m0 ?_
  refine sx_sipush (pc := 145) (v := 256) dX12_init_145 (by decide +kernel) ?_
  refine sc_newa (pc := 148) (bc := 41) (bs := 22373) (t := 0) (N := 256) nM34 dX12_init_148 rfl (by decide) ac_int ((hG 164 (by decide)).trans lay_164) (by decide +kernel) (by decide +kernel) (by decide +kernel) (by decide +kernel) (fun M35 hM35 nM35 => ?_) (by decide +kernel) (by decide +kernel)
  refine sx_putA (pc := 150) dX12_init_150 f_12_64 ((hG 146 (by decide)).trans lay_146) (by rw [nM35]; decide) rfl ?_
  refine sx_ren (fun M36 hM36 => ?_)
  have nM36 : M36.1 = 165 := by rw [hM36]; exact nM35
  refine sx_aload_n (pc := 153) dX12_init_153 sx_m0 ?_
  refine sx_bipush (pc := 154) (v := 64) dX12_init_154 (by decide +kernel) ?_
  refine sc_newa (pc := 156) (bc := 40) (bs := 22309) (t := 0) (N := 64) nM36 dX12_init_156 rfl (by decide) ac_int ((hG 165 (by decide)).trans lay_165) (by decide +kernel) (by decide +kernel) (by decide +kernel) (by decide +kernel) (fun M37 hM37 nM37 => ?_) (by decide +kernel) (by decide +kernel)
  refine sx_putA (pc := 158) dX12_init_158 f_12_67 ((hG 146 (by decide)).trans lay_146) (by rw [nM37]; decide) rfl ?_
  refine sx_ren (fun M38 hM38 => ?_)
  have nM38 : M38.1 = 166 := by rw [hM38]; exact nM37
  refine sx_aload_n (pc := 161) dX12_init_161 sx_m0 ?_
  refine sx_sipush (pc := 162) (v := 204) dX12_init_162 (by decide +kernel) ?_
  refine sc_newa (pc := 165) (bc := 39) (bs := 22105) (t := 0) (N := 204) nM38 dX12_init_165 rfl (by decide) ac_int ((hG 166 (by decide)).trans lay_166) (by decide +kernel) (by decide +kernel) (by decide +kernel) (by decide +kernel) (fun M39 hM39 nM39 => ?_) (by decide +kernel) (by decide +kernel)
  refine sx_putA (pc := 167) dX12_init_167 f_12_70 ((hG 146 (by decide)).trans lay_146) (by rw [nM39]; decide) rfl ?_
  refine sx_ren (fun M40 hM40 => ?_)
  have nM40 : M40.1 = 167 := by rw [hM40]; exact nM39
  refine sx_aload_n (pc := 170) dX12_init_170 sx_m0 ?_
  refine sx_sipush (pc := 171) (v := 204) dX12_init_171 (by decide +kernel) ?_
  refine sc_newa (pc := 174) (bc := 38) (bs := 21901) (t := 0) (N := 204) nM40 dX12_init_174 rfl (by decide) ac_int ((hG 167 (by decide)).trans lay_167) (by decide +kernel) (by decide +kernel) (by decide +kernel) (by decide +kernel) (fun M41 hM41 nM41 => ?_) (by decide +kernel) (by decide +kernel)
  refine sx_putA (pc := 176) dX12_init_176 f_12_73 ((hG 146 (by decide)).trans lay_146) (by rw [nM41]; decide) rfl ?_
  refine sx_ren (fun M42 hM42 => ?_)
  have nM42 : M42.1 = 168 := by rw [hM42]; exact nM41
  refine sx_aload_n (pc := 179) dX12_init_179 sx_m0 ?_
  refine sx_sipush (pc := 180) (v := 204) dX12_init_180 (by decide +kernel) ?_
  refine sc_newa (pc := 183) (bc := 37) (bs := 21697) (t := 0) (N := 204) nM42 dX12_init_183 rfl (by decide) ac_int ((hG 168 (by decide)).trans lay_168) (by decide +kernel) (by decide +kernel) (by decide +kernel) (by decide +kernel) (fun M43 hM43 nM43 => ?_) (by decide +kernel) (by decide +kernel)
  refine sx_putA (pc := 185) dX12_init_185 f_12_76 ((hG 146 (by decide)).trans lay_146) (by rw [nM43]; decide) rfl ?_
  refine sx_ren (fun M44 hM44 => ?_)
  have nM44 : M44.1 = 169 := by rw [hM44]; exact nM43
  refine sx_aload_n (pc := 188) dX12_init_188 sx_m0 ?_
  refine sx_sipush (pc := 189) (v := 204) dX12_init_189 (by decide +kernel) ?_
  refine sc_newa (pc := 192) (bc := 36) (bs := 21493) (t := 0) (N := 204) nM44 dX12_init_192 rfl (by decide) ac_int ((hG 169 (by decide)).trans lay_169) (by decide +kernel) (by decide +kernel) (by decide +kernel) (by decide +kernel) (fun M45 hM45 nM45 => ?_) (by decide +kernel) (by decide +kernel)
  refine sx_putA (pc := 194) dX12_init_194 f_12_79 ((hG 146 (by decide)).trans lay_146) (by rw [nM45]; decide) rfl ?_
  refine sx_ren (fun M46 hM46 => ?_)
  have nM46 : M46.1 = 170 := by rw [hM46]; exact nM45
  refine sx_aload_n (pc := 197) dX12_init_197 sx_m0 ?_
  refine sx_sipush (pc := 198) (v := 204) dX12_init_198 (by decide +kernel) ?_
  refine sc_newa (pc := 201) (bc := 35) (bs := 21289) (t := 0) (N := 204) nM46 dX12_init_201 rfl (by decide) ac_int ((hG 170 (by decide)).trans lay_170) (by decide +kernel) (by decide +kernel) (by decide +kernel) (by decide +kernel) (fun M47 hM47 nM47 => ?_) (by decide +kernel) (by decide +kernel)
  refine sx_putA (pc := 203) dX12_init_203 f_12_82 ((hG 146 (by decide)).trans lay_146) (by rw [nM47]; decide) rfl ?_
  refine sx_ren (fun M48 hM48 => ?_)
  have nM48 : M48.1 = 171 := by rw [hM48]; exact nM47
  refine sx_aload_n (pc := 206) dX12_init_206 sx_m0 ?_
  refine sx_bipush (pc := 207) (v := 102) dX12_init_207 (by decide +kernel) ?_
  refine sc_newa (pc := 209) (bc := 34) (bs := 21187) (t := 2) (N := 102) nM48 dX12_init_209 rfl (by decide) ac_boolean ((hG 171 (by decide)).trans lay_171) (by decide +kernel) (by decide +kernel) (by decide +kernel) (by decide +kernel) (fun M49 hM49 nM49 => ?_) (by decide +kernel) (by decide +kernel)
  refine sx_putA (pc := 211) dX12_init_211 f_12_85 ((hG 146 (by decide)).trans lay_146) (by rw [nM49]; decide) rfl ?_
  refine sx_ren (fun M50 hM50 => ?_)
  have nM50 : M50.1 = 172 := by rw [hM50]; exact nM49
  refine sx_aload_n (pc := 214) dX12_init_214 sx_m0 ?_
  refine sx_bipush (pc := 215) (v := 20) dX12_init_215 (by decide +kernel) ?_
  refine sc_newa (pc := 217) (bc := 33) (bs := 21167) (t := 0) (N := 20) nM50 dX12_init_217 rfl (by decide) ac_int ((hG 172 (by decide)).trans lay_172) (by decide +kernel) (by decide +kernel) (by decide +kernel) (by decide +kernel) (fun M51 hM51 nM51 => ?_) (by decide +kernel) (by decide +kernel)
  refine sx_putA (pc := 219) dX12_init_219 f_12_88 ((hG 146 (by decide)).trans lay_146) (by rw [nM51]; decide) rfl ?_
  refine sx_ren (fun M52 hM52 => ?_)
  have nM52 : M52.1 = 173 := by rw [hM52]; exact nM51
  refine sx_aload_n (pc := 222) dX12_init_222 sx_m0 ?_
  refine sx_sipush (pc := 223) (v := 256) dX12_init_223 (by decide +kernel) ?_
  refine sc_newa (pc := 226) (bc := 32) (bs := 20911) (t := 0) (N := 256) nM52 dX12_init_226 rfl (by decide) ac_int ((hG 173 (by decide)).trans lay_173) (by decide +kernel) (by decide +kernel) (by decide +kernel) (by decide +kernel) (fun M53 hM53 nM53 => ?_) (by decide +kernel) (by decide +kernel)
  refine sx_putA (pc := 228) dX12_init_228 f_12_91 ((hG 146 (by decide)).trans lay_146) (by rw [nM53]; decide) rfl ?_
  refine sx_ren (fun M54 hM54 => ?_)
  have nM54 : M54.1 = 174 := by rw [hM54]; exact nM53
  refine sx_aload_n (pc := 231) dX12_init_231 sx_m0 ?_
  refine sx_iconst (pc := 232) (v := 3) dX12_init_232 (by decide +kernel) ?_
  refine sc_newa (pc := 233) (bc := 31) (bs := 20908) (t := 0) (N := 3) nM54 dX12_init_233 rfl (by decide) ac_int ((hG 174 (by decide)).trans lay_174) (by decide +kernel) (by decide +kernel) (by decide +kernel) (by decide +kernel) (fun M55 hM55 nM55 => ?_) (by decide +kernel) (by decide +kernel)
  refine sx_putA (pc := 235) dX12_init_235 f_12_94 ((hG 146 (by decide)).trans lay_146) (by rw [nM55]; decide) rfl ?_
  refine sx_ren (fun M56 hM56 => ?_)
  have nM56 : M56.1 = 175 := by rw [hM56]; exact nM55
  refine sx_aload_n (pc := 238) dX12_init_238 sx_m0 ?_
  refine sx_iconst (pc := 239) (v := 3) dX12_init_239 (by decide +kernel) ?_
  refine sc_newa (pc := 240) (bc := 30) (bs := 20905) (t := 0) (N := 3) nM56 dX12_init_240 rfl (by decide) ac_int ((hG 175 (by decide)).trans lay_175) (by decide +kernel) (by decide +kernel) (by decide +kernel) (by decide +kernel) (fun M57 hM57 nM57 => ?_) (by decide +kernel) (by decide +kernel)
  refine sx_putA (pc := 242) dX12_init_242 f_12_97 ((hG 146 (by decide)).trans lay_146) (by rw [nM57]; decide) rfl ?_
  refine sx_ren (fun M58 hM58 => ?_)
  have nM58 : M58.1 = 176 := by rw [hM58]; exact nM57
  refine sx_aload_n (pc := 245) dX12_init_245 sx_m0 ?_
  refine sx_bipush (pc := 246) (v := 64) dX12_init_246 (by decide +kernel) ?_
  refine sc_newa (pc := 248) (bc := 29) (bs := 20841) (t := 0) (N := 64) nM58 dX12_init_248 rfl (by decide) ac_int ((hG 176 (by decide)).trans lay_176) (by decide +kernel) (by decide +kernel) (by decide +kernel) (by decide +kernel) (fun M59 hM59 nM59 => ?_) (by decide +kernel) (by decide +kernel)
  refine sx_putA (pc := 250) dX12_init_250 f_12_100 ((hG 146 (by decide)).trans lay_146) (by rw [nM59]; decide) rfl ?_
  refine sx_ren (fun M60 hM60 => ?_)
  have nM60 : M60.1 = 177 := by rw [hM60]; exact nM59
  refine sx_aload_n (pc := 253) dX12_init_253 sx_m0 ?_
  refine sx_bipush (pc := 254) (v := 64) dX12_init_254 (by decide +kernel) ?_
  refine sc_newa (pc := 256) (bc := 28) (bs := 20777) (t := 0) (N := 64) nM60 dX12_init_256 rfl (by decide) ac_int ((hG 177 (by decide)).trans lay_177) (by decide +kernel) (by decide +kernel) (by decide +kernel) (by decide +kernel) (fun M61 hM61 nM61 => ?_) (by decide +kernel) (by decide +kernel)
  refine sx_putA (pc := 258) dX12_init_258 f_12_103 ((hG 146 (by decide)).trans lay_146) (by rw [nM61]; decide) rfl ?_
  refine sx_ren (fun M62 hM62 => ?_)
  have nM62 : M62.1 = 178 := by rw [hM62]; exact nM61
  refine sx_aload_n (pc := 261) dX12_init_261 sx_m0 ?_
  refine sx_sipush (pc := 262) (v := 256) dX12_init_262 (by decide +kernel) ?_
  refine sc_newa (pc := 265) (bc := 27) (bs := 20521) (t := 0) (N := 256) nM62 dX12_init_265 rfl (by decide) ac_int ((hG 178 (by decide)).trans lay_178) (by decide +kernel) (by decide +kernel) (by decide +kernel) (by decide +kernel) (fun M63 hM63 nM63 => ?_) (by decide +kernel) (by decide +kernel)
  refine sx_putA (pc := 267) dX12_init_267 f_12_106 ((hG 146 (by decide)).trans lay_146) (by rw [nM63]; decide) rfl ?_
  refine sx_ren (fun M64 hM64 => ?_)
  have nM64 : M64.1 = 179 := by rw [hM64]; exact nM63
  refine sx_aload_n (pc := 270) dX12_init_270 sx_m0 ?_
  refine sx_sipush (pc := 271) (v := 256) dX12_init_271 (by decide +kernel) ?_
  refine sc_newa (pc := 274) (bc := 26) (bs := 20265) (t := 0) (N := 256) nM64 dX12_init_274 rfl (by decide) ac_int ((hG 179 (by decide)).trans lay_179) (by decide +kernel) (by decide +kernel) (by decide +kernel) (by decide +kernel) (fun M65 hM65 nM65 => ?_) (by decide +kernel) (by decide +kernel)
  refine sx_putA (pc := 276) dX12_init_276 f_12_109 ((hG 146 (by decide)).trans lay_146) (by rw [nM65]; decide) rfl ?_
  refine sx_ren (fun M66 hM66 => ?_)
  have nM66 : M66.1 = 180 := by rw [hM66]; exact nM65
  refine sx_aload_n (pc := 279) dX12_init_279 sx_m0 ?_
  refine sx_bipush (pc := 280) (v := 32) dX12_init_280 (by decide +kernel) ?_
  refine sc_newa (pc := 282) (bc := 25) (bs := 20233) (t := 0) (N := 32) nM66 dX12_init_282 rfl (by decide) ac_int ((hG 180 (by decide)).trans lay_180) (by decide +kernel) (by decide +kernel) (by decide +kernel) (by decide +kernel) (fun M67 hM67 nM67 => ?_) (by decide +kernel) (by decide +kernel)
  refine sx_putA (pc := 284) dX12_init_284 f_12_112 ((hG 146 (by decide)).trans lay_146) (by rw [nM67]; decide) rfl ?_
  refine sx_ren (fun M68 hM68 => ?_)
  have nM68 : M68.1 = 181 := by rw [hM68]; exact nM67
  refine sx_aload_n (pc := 287) dX12_init_287 sx_m0 ?_
  refine sx_bipush (pc := 288) (v := 32) dX12_init_288 (by decide +kernel) ?_
  refine sc_newa (pc := 290) (bc := 24) (bs := 20201) (t := 0) (N := 32) nM68 dX12_init_290 rfl (by decide) ac_int ((hG 181 (by decide)).trans lay_181) (by decide +kernel) (by decide +kernel) (by decide +kernel) (by decide +kernel) (fun M69 hM69 nM69 => ?_) (by decide +kernel) (by decide +kernel)
  refine sx_putA (pc := 292) dX12_init_292 f_12_115 ((hG 146 (by decide)).trans lay_146) (by rw [nM69]; decide) rfl ?_
  refine sx_ren (fun M70 hM70 => ?_)
  have nM70 : M70.1 = 182 := by rw [hM70]; exact nM69
  refine sx_aload_n (pc := 295) dX12_init_295 sx_m0 ?_
  refine sx_bipush (pc := 296) (v := 32) dX12_init_296 (by decide +kernel) ?_
  refine sc_newa (pc := 298) (bc := 23) (bs := 20169) (t := 0) (N := 32) nM70 dX12_init_298 rfl (by decide) ac_int ((hG 182 (by decide)).trans lay_182) (by decide +kernel) (by decide +kernel) (by decide +kernel) (by decide +kernel) (fun M71 hM71 nM71 => ?_) (by decide +kernel) (by decide +kernel)
  refine sx_putA (pc := 300) dX12_init_300 f_12_118 ((hG 146 (by decide)).trans lay_146) (by rw [nM71]; decide) rfl ?_
  refine sx_ren (fun M72 hM72 => ?_)
  have nM72 : M72.1 = 183 := by rw [hM72]; exact nM71
  refine sx_aload_n (pc := 303) dX12_init_303 sx_m0 ?_
  refine sx_bipush (pc := 304) (v := 32) dX12_init_304 (by decide +kernel) ?_
  refine sc_newa (pc := 306) (bc := 22) (bs := 20137) (t := 0) (N := 32) nM72 dX12_init_306 rfl (by decide) ac_int ((hG 183 (by decide)).trans lay_183) (by decide +kernel) (by decide +kernel) (by decide +kernel) (by decide +kernel) (fun M73 hM73 nM73 => ?_) (by decide +kernel) (by decide +kernel)
  refine sx_putA (pc := 308) dX12_init_308 f_12_121 ((hG 146 (by decide)).trans lay_146) (by rw [nM73]; decide) rfl ?_
  refine sx_ren (fun M74 hM74 => ?_)
  have nM74 : M74.1 = 184 := by rw [hM74]; exact nM73
  refine sx_aload_n (pc := 311) dX12_init_311 sx_m0 ?_
  refine sx_bipush (pc := 312) (v := 32) dX12_init_312 (by decide +kernel) ?_
  refine sc_newa (pc := 314) (bc := 21) (bs := 20105) (t := 0) (N := 32) nM74 dX12_init_314 rfl (by decide) ac_int ((hG 184 (by decide)).trans lay_184) (by decide +kernel) (by decide +kernel) (by decide +kernel) (by decide +kernel) (fun M75 hM75 nM75 => ?_) (by decide +kernel) (by decide +kernel)
  refine sx_putA (pc := 316) dX12_init_316 f_12_124 ((hG 146 (by decide)).trans lay_146) (by rw [nM75]; decide) rfl ?_
  refine sx_ren (fun M76 hM76 => ?_)
  have nM76 : M76.1 = 185 := by rw [hM76]; exact nM75
  refine sx_aload_n (pc := 319) dX12_init_319 sx_m0 ?_
  refine sx_iconst (pc := 320) (v := (-1)) dX12_init_320 (by decide +kernel) ?_
  refine sx_putI (pc := 321) dX12_init_321 f_12_127 ((hG 146 (by decide)).trans lay_146) (by rw [nM76]; decide) rfl ?_
  refine sx_ren (fun M77 hM77 => ?_)
  have nM77 : M77.1 = 185 := by rw [hM77]; exact nM76
  refine sx_aload_n (pc := 324) dX12_init_324 sx_m0 ?_
  refine sx_sipush (pc := 325) (v := 256) dX12_init_325 (by decide +kernel) ?_
  refine sc_newa (pc := 328) (bc := 20) (bs := 19849) (t := 0) (N := 256) nM77 dX12_init_328 rfl (by decide) ac_int ((hG 185 (by decide)).trans lay_185) (by decide +kernel) (by decide +kernel) (by decide +kernel) (by decide +kernel) (fun M78 hM78 nM78 => ?_) (by decide +kernel) (by decide +kernel)
  refine sx_putA (pc := 330) dX12_init_330 f_12_131 ((hG 146 (by decide)).trans lay_146) (by rw [nM78]; decide) rfl ?_
  refine sx_ren (fun M79 hM79 => ?_)
  have nM79 : M79.1 = 186 := by rw [hM79]; exact nM78
  refine sx_aload_n (pc := 333) dX12_init_333 sx_m0 ?_
  refine sx_bipush (pc := 334) (v := 64) dX12_init_334 (by decide +kernel) ?_
  refine sc_newa (pc := 336) (bc := 19) (bs := 19785) (t := 0) (N := 64) nM79 dX12_init_336 rfl (by decide) ac_int ((hG 186 (by decide)).trans lay_186) (by decide +kernel) (by decide +kernel) (by decide +kernel) (by decide +kernel) (fun M80 hM80 nM80 => ?_) (by decide +kernel) (by decide +kernel)
  refine sx_putA (pc := 338) dX12_init_338 f_12_134 ((hG 146 (by decide)).trans lay_146) (by rw [nM80]; decide) rfl ?_
  refine sx_ren (fun M81 hM81 => ?_)
  have nM81 : M81.1 = 187 := by rw [hM81]; exact nM80
  refine sx_aload_n (pc := 341) dX12_init_341 sx_m0 ?_
  refine sx_sipush (pc := 342) (v := 256) dX12_init_342 (by decide +kernel) ?_
  refine sc_newa (pc := 345) (bc := 18) (bs := 19529) (t := 0) (N := 256) nM81 dX12_init_345 rfl (by decide) ac_int ((hG 187 (by decide)).trans lay_187) (by decide +kernel) (by decide +kernel) (by decide +kernel) (by decide +kernel) (fun M82 hM82 nM82 => ?_) (by decide +kernel) (by decide +kernel)
  refine sx_putA (pc := 347) dX12_init_347 f_12_137 ((hG 146 (by decide)).trans lay_146) (by rw [nM82]; decide) rfl ?_
  refine sx_ren (fun M83 hM83 => ?_)
  have nM83 : M83.1 = 188 := by rw [hM83]; exact nM82
  refine sx_aload_n (pc := 350) dX12_init_350 sx_m0 ?_
  refine sx_bipush (pc := 351) (v := 9) dX12_init_351 (by decide +kernel) ?_
  refine sc_newa (pc := 353) (bc := 17) (bs := 19520) (t := 0) (N := 9) nM83 dX12_init_353 rfl (by decide) ac_int ((hG 188 (by decide)).trans lay_188) (by decide +kernel) (by decide +kernel) (by decide +kernel) (by decide +kernel) (fun M84 hM84 nM84 => ?_) (by decide +kernel) (by decide +kernel)
  refine sx_putA (pc := 355) dX12_init_355 f_12_140 ((hG 146 (by decide)).trans lay_146) (by rw [nM84]; decide) rfl ?_
  refine sx_ren (fun M85 hM85 => ?_)
  have nM85 : M85.1 = 189 := by rw [hM85]; exact nM84
  refine sx_aload_n (pc := 358) dX12_init_358 sx_m0 ?_
  refine sx_bipush (pc := 359) (v := 64) dX12_init_359 (by decide +kernel) ?_
  refine sc_newa (pc := 361) (bc := 16) (bs := 19456) (t := 0) (N := 64) nM85 dX12_init_361 rfl (by decide) ac_int ((hG 189 (by decide)).trans lay_189) (by decide +kernel) (by decide +kernel) (by decide +kernel) (by decide +kernel) (fun M86 hM86 nM86 => ?_) (by decide +kernel) (by decide +kernel)
  refine sx_putA (pc := 363) dX12_init_363 f_12_143 ((hG 146 (by decide)).trans lay_146) (by rw [nM86]; decide) rfl ?_
  refine sx_ren (fun M87 hM87 => ?_)
  have nM87 : M87.1 = 190 := by rw [hM87]; exact nM86
  refine sx_aload_n (pc := 366) dX12_init_366 sx_m0 ?_
  refine sx_bipush (pc := 367) (v := 6) dX12_init_367 (by decide +kernel) ?_
  refine sc_newa (pc := 369) (bc := 15) (bs := 19450) (t := 0) (N := 6) nM87 dX12_init_369 rfl (by decide) ac_int ((hG 190 (by decide)).trans lay_190) (by decide +kernel) (by decide +kernel) (by decide +kernel) (by decide +kernel) (fun M88 hM88 nM88 => ?_) (by decide +kernel) (by decide +kernel)
  refine sx_putA (pc := 371) dX12_init_371 f_12_146 ((hG 146 (by decide)).trans lay_146) (by rw [nM88]; decide) rfl ?_
  refine sx_ren (fun M89 hM89 => ?_)
  have nM89 : M89.1 = 191 := by rw [hM89]; exact nM88
  refine sx_aload_n (pc := 374) dX12_init_374 sx_m0 ?_
  refine sx_bipush (pc := 375) (v := 6) dX12_init_375 (by decide +kernel) ?_
  refine sc_newa (pc := 377) (bc := 14) (bs := 19444) (t := 0) (N := 6) nM89 dX12_init_377 rfl (by decide) ac_int ((hG 191 (by decide)).trans lay_191) (by decide +kernel) (by decide +kernel) (by decide +kernel) (by decide +kernel) (fun M90 hM90 nM90 => ?_) (by decide +kernel) (by decide +kernel)
  refine sx_putA (pc := 379) dX12_init_379 f_12_149 ((hG 146 (by decide)).trans lay_146) (by rw [nM90]; decide) rfl ?_
  refine sx_ren (fun M91 hM91 => ?_)
  have nM91 : M91.1 = 192 := by rw [hM91]; exact nM90
  refine sx_aload_n (pc := 382) dX12_init_382 sx_m0 ?_
  refine sx_sipush (pc := 383) (v := 612) dX12_init_383 (by decide +kernel) ?_
  refine sc_newa (pc := 386) (bc := 13) (bs := 18832) (t := 0) (N := 612) nM91 dX12_init_386 rfl (by decide) ac_int ((hG 192 (by decide)).trans lay_192) (by decide +kernel) (by decide +kernel) (by decide +kernel) (by decide +kernel) (fun M92 hM92 nM92 => ?_) (by decide +kernel) (by decide +kernel)
  refine sx_putA (pc := 388) dX12_init_388 f_12_152 ((hG 146 (by decide)).trans lay_146) (by rw [nM92]; decide) rfl ?_
  refine sx_ren (fun M93 hM93 => ?_)
  have nM93 : M93.1 = 193 := by rw [hM93]; exact nM92
  refine sx_aload_n (pc := 391) dX12_init_391 sx_m0 ?_
  refine sx_sipush (pc := 392) (v := 612) dX12_init_392 (by decide +kernel) ?_
  refine sc_newa (pc := 395) (bc := 12) (bs := 18220) (t := 0) (N := 612) nM93 dX12_init_395 rfl (by decide) ac_int ((hG 193 (by decide)).trans lay_193) (by decide +kernel) (by decide +kernel) (by decide +kernel) (by decide +kernel) (fun M94 hM94 nM94 => ?_) (by decide +kernel) (by decide +kernel)
  refine sx_putA (pc := 397) dX12_init_397 f_12_155 ((hG 146 (by decide)).trans lay_146) (by rw [nM94]; decide) rfl ?_
  refine sx_ren (fun M95 hM95 => ?_)
  have nM95 : M95.1 = 194 := by rw [hM95]; exact nM94
  refine sx_aload_n (pc := 400) dX12_init_400 sx_m0 ?_
  refine sx_sipush (pc := 401) (v := 612) dX12_init_401 (by decide +kernel) ?_
  refine sc_newa (pc := 404) (bc := 11) (bs := 17608) (t := 2) (N := 612) nM95 dX12_init_404 rfl (by decide) ac_boolean ((hG 194 (by decide)).trans lay_194) (by decide +kernel) (by decide +kernel) (by decide +kernel) (by decide +kernel) (fun M96 hM96 nM96 => ?_) (by decide +kernel) (by decide +kernel)
  refine sx_putA (pc := 406) dX12_init_406 f_12_158 ((hG 146 (by decide)).trans lay_146) (by rw [nM96]; decide) rfl ?_
  refine sx_ren (fun M97 hM97 => ?_)
  have nM97 : M97.1 = 195 := by rw [hM97]; exact nM96
  refine sx_aload_n (pc := 409) dX12_init_409 sx_m0 ?_
  refine sx_bipush (pc := 410) (v := 120) dX12_init_410 (by decide +kernel) ?_
  refine sc_newa (pc := 412) (bc := 10) (bs := 17488) (t := 0) (N := 120) nM97 dX12_init_412 rfl (by decide) ac_int ((hG 195 (by decide)).trans lay_195) (by decide +kernel) (by decide +kernel) (by decide +kernel) (by decide +kernel) (fun M98 hM98 nM98 => ?_) (by decide +kernel) (by decide +kernel)
  refine sx_putA (pc := 414) dX12_init_414 f_12_161 ((hG 146 (by decide)).trans lay_146) (by rw [nM98]; decide) rfl ?_
  refine sx_ren (fun M99 hM99 => ?_)
  have nM99 : M99.1 = 196 := by rw [hM99]; exact nM98
  refine sx_aload_n (pc := 417) dX12_init_417 sx_m0 ?_
  refine sx_bipush (pc := 418) (v := 24) dX12_init_418 (by decide +kernel) ?_
  refine sc_newa (pc := 420) (bc := 9) (bs := 17464) (t := 0) (N := 24) nM99 dX12_init_420 rfl (by decide) ac_int ((hG 196 (by decide)).trans lay_196) (by decide +kernel) (by decide +kernel) (by decide +kernel) (by decide +kernel) (fun M100 hM100 nM100 => ?_) (by decide +kernel) (by decide +kernel)
  refine sx_putA (pc := 422) dX12_init_422 f_12_164 ((hG 146 (by decide)).trans lay_146) (by rw [nM100]; decide) rfl ?_
  refine sx_ren (fun M101 hM101 => ?_)
  have nM101 : M101.1 = 197 := by rw [hM101]; exact nM100
  refine sx_aload_n (pc := 425) dX12_init_425 sx_m0 ?_
  refine sx_bipush (pc := 426) (v := 100) dX12_init_426 (by decide +kernel) ?_
  refine sc_newa (pc := 428) (bc := 8) (bs := 17364) (t := 0) (N := 100) nM101 dX12_init_428 rfl (by decide) ac_int ((hG 197 (by decide)).trans lay_197) (by decide +kernel) (by decide +kernel) (by decide +kernel) (by decide +kernel) (fun M102 hM102 nM102 => ?_) (by decide +kernel) (by decide +kernel)
  refine sx_putA (pc := 430) dX12_init_430 f_12_167 ((hG 146 (by decide)).trans lay_146) (by rw [nM102]; decide) rfl ?_
  refine sx_ren (fun M103 hM103 => ?_)
  have nM103 : M103.1 = 198 := by rw [hM103]; exact nM102
  refine sx_aload_n (pc := 433) dX12_init_433 sx_m0 ?_
  refine sx_bipush (pc := 434) (v := 100) dX12_init_434 (by decide +kernel) ?_
  refine sc_newa (pc := 436) (bc := 7) (bs := 17264) (t := 0) (N := 100) nM103 dX12_init_436 rfl (by decide) ac_int ((hG 198 (by decide)).trans lay_198) (by decide +kernel) (by decide +kernel) (by decide +kernel) (by decide +kernel) (fun M104 hM104 nM104 => ?_) (by decide +kernel) (by decide +kernel)
  refine sx_putA (pc := 438) dX12_init_438 f_12_170 ((hG 146 (by decide)).trans lay_146) (by rw [nM104]; decide) rfl ?_
  refine sx_ren (fun M105 hM105 => ?_)
  have nM105 : M105.1 = 199 := by rw [hM105]; exact nM104
  refine sx_aload_n (pc := 441) dX12_init_441 sx_m0 ?_
  refine sx_bipush (pc := 442) (v := 100) dX12_init_442 (by decide +kernel) ?_
  refine sc_newa (pc := 444) (bc := 6) (bs := 17164) (t := 2) (N := 100) nM105 dX12_init_444 rfl (by decide) ac_boolean ((hG 199 (by decide)).trans lay_199) (by decide +kernel) (by decide +kernel) (by decide +kernel) (by decide +kernel) (fun M106 hM106 nM106 => ?_) (by decide +kernel) (by decide +kernel)
  refine sx_putA (pc := 446) dX12_init_446 f_12_173 ((hG 146 (by decide)).trans lay_146) (by rw [nM106]; decide) rfl ?_
  refine sx_ren (fun M107 hM107 => ?_)
  have nM107 : M107.1 = 200 := by rw [hM107]; exact nM106
  refine sx_aload_n (pc := 449) dX12_init_449 sx_m0 ?_
  refine sx_bipush (pc := 450) (v := 20) dX12_init_450 (by decide +kernel) ?_
  refine sc_newa (pc := 452) (bc := 5) (bs := 17144) (t := 0) (N := 20) nM107 dX12_init_452 rfl (by decide) ac_int ((hG 200 (by decide)).trans lay_200) (by decide +kernel) (by decide +kernel) (by decide +kernel) (by decide +kernel) (fun M108 hM108 nM108 => ?_) (by decide +kernel) (by decide +kernel)
  refine sx_putA (pc := 454) dX12_init_454 f_12_176 ((hG 146 (by decide)).trans lay_146) (by rw [nM108]; decide) rfl ?_
  refine sx_ren (fun M109 hM109 => ?_)
  have nM109 : M109.1 = 201 := by rw [hM109]; exact nM108
  refine sx_aload_n (pc := 457) dX12_init_457 sx_m0 ?_
  refine sx_sipush (pc := 458) (v := 220) dX12_init_458 (by decide +kernel) ?_
  refine sc_newa (pc := 461) (bc := 4) (bs := 16924) (t := 0) (N := 220) nM109 dX12_init_461 rfl (by decide) ac_int ((hG 201 (by decide)).trans lay_201) (by decide +kernel) (by decide +kernel) (by decide +kernel) (by decide +kernel) (fun M110 hM110 nM110 => ?_) (by decide +kernel) (by decide +kernel)
  refine sx_putA (pc := 463) dX12_init_463 f_12_179 ((hG 146 (by decide)).trans lay_146) (by rw [nM110]; decide) rfl ?_
  refine sx_ren (fun M111 hM111 => ?_)
  have nM111 : M111.1 = 202 := by rw [hM111]; exact nM110
  refine sx_aload_n (pc := 466) dX12_init_466 sx_m0 ?_
  refine sx_sipush (pc := 467) (v := 220) dX12_init_467 (by decide +kernel) ?_
  refine sc_newa (pc := 470) (bc := 3) (bs := 16704) (t := 0) (N := 220) nM111 dX12_init_470 rfl (by decide) ac_int ((hG 202 (by decide)).trans lay_202) (by decide +kernel) (by decide +kernel) (by decide +kernel) (by decide +kernel) (fun M112 hM112 nM112 => ?_) (by decide +kernel) (by decide +kernel)
  refine sx_putA (pc := 472) dX12_init_472 f_12_182 ((hG 146 (by decide)).trans lay_146) (by rw [nM112]; decide) rfl ?_
  refine sx_ren (fun M113 hM113 => ?_)
  have nM113 : M113.1 = 203 := by rw [hM113]; exact nM112
  refine sx_aload_n (pc := 475) dX12_init_475 sx_m0 ?_
  refine sx_sipush (pc := 476) (v := 220) dX12_init_476 (by decide +kernel) ?_
  refine sc_newa (pc := 479) (bc := 2) (bs := 16484) (t := 2) (N := 220) nM113 dX12_init_479 rfl (by decide) ac_boolean ((hG 203 (by decide)).trans lay_203) (by decide +kernel) (by decide +kernel) (by decide +kernel) (by decide +kernel) (fun M114 hM114 nM114 => ?_) (by decide +kernel) (by decide +kernel)
  refine sx_putA (pc := 481) dX12_init_481 f_12_185 ((hG 146 (by decide)).trans lay_146) (by rw [nM114]; decide) rfl ?_
  refine sx_ren (fun M115 hM115 => ?_)
  have nM115 : M115.1 = 204 := by rw [hM115]; exact nM114
  refine sx_aload_n (pc := 484) dX12_init_484 sx_m0 ?_
  refine sx_sipush (pc := 485) (v := 16384) dX12_init_485 (by decide +kernel) ?_
  refine sc_newa (pc := 488) (bc := 1) (bs := 100) (t := 2) (N := 16384) nM115 dX12_init_488 rfl (by decide) ac_boolean ((hG 204 (by decide)).trans lay_204) (by decide +kernel) (by decide +kernel) (by decide +kernel) (by decide +kernel) (fun M116 hM116 nM116 => ?_) (by decide +kernel) (by decide +kernel)
  refine sx_putA (pc := 490) dX12_init_490 f_12_188 ((hG 146 (by decide)).trans lay_146) (by rw [nM116]; decide) rfl ?_
  refine sx_ren (fun M117 hM117 => ?_)
  have nM117 : M117.1 = 205 := by rw [hM117]; exact nM116
  refine sx_aload_n (pc := 493) dX12_init_493 sx_m0 ?_
  refine sx_bipush (pc := 494) (v := 100) dX12_init_494 (by decide +kernel) ?_
  refine sc_newa (pc := 496) (bc := 0) (bs := 0) (t := 0) (N := 100) nM117 dX12_init_496 rfl (by decide) ac_int ((hG 205 (by decide)).trans lay_205) (by decide +kernel) (by decide +kernel) (by decide +kernel) (by decide +kernel) (fun M118 hM118 nM118 => ?_) (by decide +kernel) (by decide +kernel)
  refine sx_putA (pc := 498) dX12_init_498 f_12_191 ((hG 146 (by decide)).trans lay_146) (by rw [nM118]; decide) rfl ?_
  refine sx_ren (fun M119 hM119 => ?_)
  have nM119 : M119.1 = 206 := by rw [hM119]; exact nM118
  exact sx_vret (pc := 501) dX12_init_501 rfl (by subst hM1; subst hM2; subst hM3; subst hM4; subst hM5; subst hM6; subst hM7; subst hM8; subst hM9; subst hM10; subst hM11; subst hM12; subst hM13; subst hM14; subst hM15; subst hM16; subst hM17; subst hM18; subst hM19; subst hM20; subst hM21; subst hM22; subst hM23; subst hM24; subst hM25; subst hM26; subst hM27; subst hM28; subst hM29; subst hM30; subst hM31; subst hM32; subst hM33; subst hM34; subst hM35; subst hM36; subst hM37; subst hM38; subst hM39; subst hM40; subst hM41; subst hM42; subst hM43; subst hM44; subst hM45; subst hM46; subst hM47; subst hM48; subst hM49; subst hM50; subst hM51; subst hM52; subst hM53; subst hM54; subst hM55; subst hM56; subst hM57; subst hM58; subst hM59; subst hM60; subst hM61; subst hM62; subst hM63; subst hM64; subst hM65; subst hM66; subst hM67; subst hM68; subst hM69; subst hM70; subst hM71; subst hM72; subst hM73; subst hM74; subst hM75; subst hM76; subst hM77; subst hM78; subst hM79; subst hM80; subst hM81; subst hM82; subst hM83; subst hM84; subst hM85; subst hM86; subst hM87; subst hM88; subst hM89; subst hM90; subst hM91; subst hM92; subst hM93; subst hM94; subst hM95; subst hM96; subst hM97; subst hM98; subst hM99; subst hM100; subst hM101; subst hM102; subst hM103; subst hM104; subst hM105; subst hM106; subst hM107; subst hM108; subst hM109; subst hM110; subst hM111; subst hM112; subst hM113; subst hM114; subst hM115; subst hM116; subst hM117; subst hM118; subst hM119; exact hP)
