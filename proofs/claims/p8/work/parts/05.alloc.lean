/-! new cells, copies, references compared: rows of the judgement sx_J -/
/-- a new cell: all its places are 0 or null -/
def sx_nw (M : sx_M) : sx_M := (M.1 + 1, (fun b j => if b = M.1 then 0 else M.2.1 b j), (fun b j => if b = M.1 then 0 else M.2.2.1 b j), fun b j => if b = M.1 then none else M.2.2.2 b j)
/-- a new array of N new arrays -/
def sx_nm (M : sx_M) (N : Nat) : sx_M := (M.1 + (1 + N), (fun b j => if M.1 ≤ b ∧ b < M.1 + (1 + N) then 0 else M.2.1 b j), (fun b j => if M.1 ≤ b ∧ b < M.1 + (1 + N) then 0 else M.2.2.1 b j), fun b j => if b = M.1 then (if j < N then some (M.1 + 1 + j) else none) else if M.1 ≤ b ∧ b < M.1 + (1 + N) then none else M.2.2.2 b j)
theorem sx_outer (c : ClassId) (N h0 : Nat) : ∀ i : Nat, Jvm.Free.Multi.outerC c N h0 i = arrV c N (fun j => va_rf (if j < i then some (h0 + 1 + j) else none))
  | 0 => by
    show ({ cls := c, slots := Array.replicate N .null, vm := .none } : Cell) = _
    rw [arrV_new]
    refine congrArg (arrV c N) (funext fun j => ?_)
    simp [va_rf]
  | i + 1 => by
    show (Jvm.Free.Multi.outerC c N h0 i).setSlot i (.ref (h0 + 1 + i)) = _
    rw [sx_outer c N h0 i, arrV_store]
    refine congrArg (arrV c N) (funext fun j => ?_)
    by_cases e : j = i
    · subst e
      simp [updV, va_rf]
    · by_cases h : j < i
      · simp [updV, e, h, Nat.lt_succ_of_lt h]
      · simp [updV, e, h, show ¬ j < i + 1 by omega]
section SXN
variable {g : sx_G} {q : sx_Y} {d pc : Nat} {lo lo' : List (Nat × Value)} {st : List Value} {M M' : sx_M} {bc bs : Nat} {P : Option Value → sx_M → Prop}
theorem sx_W.push {n : Nat} {s : State} {H H1 : Heap} (Wd : sx_W g M s H) (hn : M'.1 = M.1 + n) (hm : M'.1 ≤ 1000) (hn0 : 0 < n) (ho : ∀ b, b < M.1 ∨ M'.1 ≤ b → sx_same M M' b) (hz : H1.size = H.size + n) (oq : ∀ x, x < H.size → H1[x]? = H[x]?) (hat : ∀ b, M.1 ≤ b → b < M'.1 → sx_at g M' b H1) : sx_W g M' s H1 := by
  obtain ⟨w1, w2, w3, w4, w5⟩ := Wd
  refine ⟨by rw [hz, w1, hn]; omega, hm, fun b hb => ?_, fun b k hb => ?_, fun j z hz => ?_⟩
  · by_cases e : b < M.1
    · refine (w3 b e).kept (ho b (Or.inl e)) (oq _ ?_)
      rw [sx_ad_lt (by omega)]
      omega
    · exact hat b (by omega) hb
  · obtain ⟨b1, b2, cell, c1, c2, c3, c4, c5, c6⟩ := w4 b k hb
    refine ⟨b1, b2, cell, by rw [oq _ (by omega)]; exact c1, c2, c3, c4, c5, fun j hj => by rw [(ho b (by omega)).1]; exact c6 j hj⟩
  · exact (w5 j z hz).kept (fun x hx _ => oq x hx)
theorem sx_S_push {A : Nat → Prop} {H0 H H1 : Heap} {locs : List Loc} (hS : va_S A H0 H locs) (hz : H.size ≤ H1.size) (oq : ∀ x, x < H.size → H1[x]? = H[x]?) : va_S A H0 H1 locs :=
  ⟨Nat.le_trans hS.1 hz, fun x h1 h2 => (oq x (Nat.lt_of_lt_of_le h1 hS.1)).trans (hS.2.1 x h1 h2), hS.2.2⟩
theorem sx_nw_o : ∀ b, b < M.1 ∨ (sx_nw M).1 ≤ b → sx_same M (sx_nw M) b := fun b h => by
  have : b ≠ M.1 := by rcases h with h | h; · omega
                       · have : M.1 + 1 ≤ b := h; omega
  exact ⟨funext fun j => by simp [sx_nw, this], funext fun j => by simp [sx_nw, this], funext fun j => by simp [sx_nw, this]⟩
theorem sx_new {idx ci : Nat} {r : vw_C} (hd : decode q.2.1 pc = .ok (.new idx, 3)) (hK : sx_Kc ci r) (hw : Cond.classLink q.1.cls idx r.1 ∈ lw_good ∧ Cond.instantiable r.1 r.2.2 ∈ lw_good ∧ Cond.initialized r.1 ∈ lw_good) (hk : g.2.2.2.2.2 M.1 = .inl ci) (hm : M.1 < 1000) (kk : sx_J g q d (pc + 3) lo (.ref M.1 :: st) (sx_nw M) bc bs P) : sx_J g q d pc lo st M (bc + 1) (bs + r.2.2) P := by
  intro p e R s m args below meth c H locs cells slots mc ms ls C S Wd hS hl h1 h2
  obtain ⟨hr, hty, hnm, hin, hdecl⟩ := hK
  have hKn := S.1 ci _ hr
  have r1 := C.2.2.2.2.2.2.2.2.2.2.1
  have r2 := C.2.2.2.2.2.2.2.2.2.2.2
  have hh : H.size = sx_ad g M.1 := by rw [sx_ad_lt hm]; exact Wd.1
  refine W.newcK C.1 C.2.1 C.2.2.2.2.2.1 (C.2.2.2.2.1 _ hw.1) (C.2.2.2.2.1 _ hw.2.1) (C.2.2.2.2.1 _ hw.2.2) rfl hd (by omega) (by omega) hKn.2.1 hh fun H1 kC hkC e1 z1 o1 => ?_
  rw [← hh] at z1 o1
  refine kk p e R s m args below meth c H1 locs (cells + 1) (slots + r.2.2) mc ms ls C S (Wd.push (n := 1) rfl (by show M.1 + 1 ≤ 1000; omega) (by decide) sx_nw_o z1 o1 ?_) (sx_S_push hS (by omega) o1) hl (by omega) (by omega)
  intro b b1 b2
  have e0 : b = M.1 := by have : b < M.1 + 1 := b2; omega
  subst e0
  unfold sx_at
  simp only [hk]
  refine ⟨r, hr, (u_born (sx_ty ci) C.2.2.2.2.1 hin hKn hkC e1 hty).to (fun k _ => ?_)⟩
  cases sx_ty ci k <;> simp [sx_fv, sx_nw, sx_v, va_rf, defaultValue]
theorem sx_newa {t N : Nat} {n : Int32} {aty : ArrayType} (hd : decode q.2.1 pc = .ok (.newarray aty, 2)) (hty : newarray.typeOf aty = sx_tt t) (ht : t < 4) (hw : Cond.arrayClass (sx_tt t) ∈ lw_good) (hk : g.2.2.2.2.2 M.1 = .inr (t, N)) (hn0 : ¬ n < 0) (hn : n.toNatClampNeg = N) (hb : N ≤ 60000000) (hm : M.1 < 1000) (kk : sx_J g q d (pc + 2) lo (.ref M.1 :: st) (sx_nw M) bc bs P) : sx_J g q d pc lo (.int n :: st) M (bc + 1) (bs + N) P := by
  intro p e R s m args below meth c H locs cells slots mc ms ls C S Wd hS hl h1 h2
  have r1 := C.2.2.2.2.2.2.2.2.2.2.1
  have r2 := C.2.2.2.2.2.2.2.2.2.2.2
  have hh : H.size = sx_ad g M.1 := by rw [sx_ad_lt hm]; exact Wd.1
  have hcb : componentBytes (sx_tt t) ≤ 8 := by
    match t, ht with
    | 0, _ => decide
    | 1, _ => decide
    | 2, _ => decide
    | 3, _ => decide
  refine va_newaK C.1 C.2.1 (by rw [hty]; exact C.2.2.2.2.1 _ hw) rfl hd rfl hn0 hn (by rw [hty]; exact Nat.le_trans (Nat.mul_le_mul_left N hcb) (by omega)) (by omega) (by omega) hh fun H1 cA e1 z1 o1 hAr hNm => ?_
  rw [hty] at e1 hNm
  rw [← hh] at z1 o1
  have hcA : cA = g.2.2.1 t := by
    have := (S.2.1 t (by omega)).2
    match t, ht with
    | 0, _ => exact Option.some.inj (hNm.symm.trans this)
    | 1, _ => exact Option.some.inj (hNm.symm.trans this)
    | 2, _ => exact Option.some.inj (hNm.symm.trans this)
    | 3, _ => exact Option.some.inj (hNm.symm.trans this)
  subst hcA
  refine kk p e R s m args below meth c H1 locs (cells + 1) (slots + N) mc ms ls C S (Wd.push (n := 1) rfl (by show M.1 + 1 ≤ 1000; omega) (by decide) sx_nw_o z1 o1 ?_) (sx_S_push hS (by omega) o1) hl (by omega) (by omega)
  intro b b1 b2
  have e0 : b = M.1 := by have : b < M.1 + 1 := b2; omega
  subst e0
  unfold sx_at
  simp only [hk]
  rw [e1]
  congr 2
  funext j
  match t, ht with
  | 0, _ => simp [sx_av, sx_nw, sx_v, sx_tt, defaultValue]
  | 1, _ => simp [sx_av, sx_nw, sx_v, sx_tt, defaultValue]
  | 2, _ => simp [sx_av, sx_nw, sx_v, sx_tt, defaultValue]
  | 3, _ => simp [sx_av, sx_nw, sx_v, sx_tt, defaultValue]
theorem sx_newq {idx N : Nat} {n : Int32} (hd : decode q.2.1 pc = .ok (.anewarray idx, 3)) (hw : Cond.classLink q.1.cls idx "HintHouse$Points" ∈ lw_good) (hk : g.2.2.2.2.2 M.1 = .inr (5, N)) (hn0 : ¬ n < 0) (hn : n.toNatClampNeg = N) (hb : N ≤ 60000000) (hm : M.1 < 1000) (kk : sx_J g q d (pc + 3) lo (.ref M.1 :: st) (sx_nw M) bc bs P) : sx_J g q d pc lo (.int n :: st) M (bc + 1) (bs + N) P := by
  intro p e R s m args below meth c H locs cells slots mc ms ls C S Wd hS hl h1 h2
  have r1 := C.2.2.2.2.2.2.2.2.2.2.1
  have r2 := C.2.2.2.2.2.2.2.2.2.2.2
  have hh : H.size = sx_ad g M.1 := by rw [sx_ad_lt hm]; exact Wd.1
  subst hn
  refine W.anew C.1 C.2.1 C.2.2.2.2.2.1 (C.2.2.2.2.1 _ hw) (va_AO.use S.2.2.2.1) rfl hd rfl hn0 (by omega) (by omega) (by omega) fun cA kA comp f1 f2 f3 f4 => ?_
  generalize hH1 : H.push ({ cls := cA, slots := Array.replicate n.toNatClampNeg .null, vm := .none } : Cell) = H1
  have z1 : H1.size = H.size + 1 := by rw [← hH1, Array.size_push]
  have e1 : H1[H.size]? = some (arrV cA n.toNatClampNeg (fun _ => .null)) := by rw [← hH1, Array.getElem?_push_size, ← arrV_new]
  have o1 : ∀ q : Nat, q < H.size → H1[q]? = H[q]? := fun q hq => by rw [← hH1, Array.getElem?_push, if_neg (Nat.ne_of_lt hq)]
  have hcA : cA = g.2.2.1 5 := by
    obtain ⟨kB, comp2, g1, g2, g3, g4⟩ := (S.2.1 5 (by decide)).2
    exact Option.some.inj (f1.symm.trans g4)
  subst hcA
  show W p g.1 e R s m args below meth c H1 locs _ _ _ (F0 m (pc + 3) ls (.ref H.size :: st.map (sx_v g)))
  rw [hh]
  refine kk p e R s m args below meth c H1 locs (cells + 1) (slots + n.toNatClampNeg) mc ms ls C S (Wd.push (n := 1) rfl (by show M.1 + 1 ≤ 1000; omega) (by decide) sx_nw_o z1 o1 ?_) (sx_S_push hS (by omega) o1) hl (by omega) (by omega)
  intro b b1 b2
  have e0 : b = M.1 := by have : b < M.1 + 1 := b2; omega
  subst e0
  unfold sx_at
  simp only [hk]
  rw [← hh, e1]
  congr 2
  funext j
  simp [sx_av, sx_nw, sx_v, va_rf]
theorem sx_aast {a b n ci : Nat} {i : Int32} (hd : decode q.2.1 pc = .ok (.aastore, 1)) (hk : g.2.2.2.2.2 a = .inr (5, n)) (ha : a < M.1) (hi : sx_in i n = true) (hkb : g.2.2.2.2.2 b = .inl ci) (hc : ∀ r, vwCl[ci]? = some r → r.1 = "HintHouse$Points") (hb : b < M.1) (kk : sx_J g q d (pc + 1) lo st (sx_sR M a i.toNatClampNeg (some b)) bc bs P) : sx_J g q d pc lo (.ref b :: .int i :: .ref a :: st) M bc bs P := by
  intro p e R s m args below meth c H locs cells slots mc ms ls C S Wd hS hl h1 h2
  have hn := sx_in_n hi
  have hlt : i.toNatClampNeg < n := Nat.not_le.mp fun q => hn (Or.inr q)
  have h0 : ¬ i < 0 := fun q => hn (Or.inl q)
  have hat := Wd.2.2.1 b hb
  unfold sx_at at hat
  simp only [hkb] at hat
  obtain ⟨r, hr, cellV, g1, g2, g3, -⟩ := hat
  have hcls := (S.1 ci r hr).2
  obtain ⟨kA, comp, k1, k2, k3, -⟩ := (S.2.1 5 (by decide)).2
  rw [hc r hr] at hcls
  have hcomp : comp = g.2.1.1 ci := Option.some.inj (k3.symm.trans hcls.1)
  subst hcomp
  obtain ⟨kC, hkC, -⟩ := hcls.2
  refine W.aast C.1 C.2.1 (sx_arr Wd hk ha) (fun q h => by cases h) (fun h => by cases h) k1 k2 rfl hkC ⟨h0, by show _ < (arrV _ _ _).slots.size; rw [arrV_size]; exact hlt⟩ g1 (fun q h => by rw [g3] at h; cases h) (by rw [g2]; exact hkC) (by rw [g2]; exact va_assign hcls) rfl rfl hd fun H1 e1 e2 e3 => ?_
  exact kk p e R s m args below meth c H1 _ cells slots mc ms ls C S (Wd.store (v := .ref b) hk ha rfl sx_sR_o (fun j => by unfold sx_av sx_sR; by_cases z : j = i.toNatClampNeg <;> simp [z, va_rf]) e1 e2 e3) (hS.put e2 e3 (sx_A_in (Nat.lt_of_lt_of_le ha Wd.2.1))) hl h1 h2
theorem sx_nm_o {N : Nat} : ∀ b, b < M.1 ∨ (sx_nm M N).1 ≤ b → sx_same M (sx_nm M N) b := fun b h => by
  have h1 : ¬ (M.1 ≤ b ∧ b < M.1 + (1 + N)) := by
    rcases h with h | h
    · omega
    · have : M.1 + (1 + N) ≤ b := h
      omega
  have h2 : b ≠ M.1 := by omega
  exact ⟨funext fun j => by simp [sx_nm, h1], funext fun j => by simp [sx_nm, h1], funext fun j => by simp [sx_nm, h1, h2]⟩
theorem sx_mna {idx N K : Nat} {n k : Int32} (hd : decode q.2.1 pc = .ok (.multianewarray idx 2, 4)) (hw : Cond.classLink q.1.cls idx "[[I" ∈ lw_good ∧ Cond.arrayClass .int ∈ lw_good) (hk : g.2.2.2.2.2 M.1 = .inr (4, N)) (hki : ∀ j, j < N → g.2.2.2.2.2 (M.1 + 1 + j) = .inr (0, K)) (hn0 : ¬ n < 0) (hk0 : ¬ k < 0) (hn : n.toNatClampNeg = N) (hkk : k.toNatClampNeg = K) (hb : N ≤ 60000000 ∧ K ≤ 60000000) (hm : M.1 + (1 + N) ≤ 1000) (kk : sx_J g q d (pc + 4) lo (.ref M.1 :: st) (sx_nm M N) bc bs P) : sx_J g q d pc lo (.int k :: .int n :: st) M (bc + (1 + N)) (bs + (N + N * K)) P := by
  intro p e R s m args below meth c H locs cells slots mc ms ls C S Wd hS hl h1 h2 T hT X
  subst hn
  subst hkk
  have r1 := C.2.2.2.2.2.2.2.2.2.2.1
  have r2 := C.2.2.2.2.2.2.2.2.2.2.2
  have hh : H.size = sx_ad g M.1 := by rw [sx_ad_lt (by omega)]; exact Wd.1
  obtain ⟨vm₁, cA, comp, -, fA, fC, hO, -, X', step⟩ := X.multianewarray2F C.1 C.2.2.2.2.2.1 (C.2.2.2.2.1 _ hw.1) S.2.2.2.2 (C.2.2.2.2.1 _ hw.2) (g := F0 m pc ls (.int k :: .int n :: st.map (sx_v g))) rfl (by rw [C.2.1]; exact hd) rfl hn0 hk0 (by omega) (by show k.toNatClampNeg * 4 ≤ _; omega) (by omega) rfl rfl (by omega) (by omega)
  have ec : comp = g.2.2.1 0 := Option.some.inj (fC.symm.trans (S.2.1 0 (by decide)).2)
  have ea : cA = g.2.2.1 4 := Option.some.inj (fA.symm.trans (S.2.1 4 (by decide)).2)
  subst ec
  subst ea
  generalize hF : Jvm.Free.Multi.fill (T.setVm vm₁) (g.2.2.1 4) (g.2.2.1 0) n.toNatClampNeg k.toNatClampNeg (defaultValue .int) n.toNatClampNeg = F at X' step
  have hTh : (T.setVm vm₁).heap = H := hT
  obtain ⟨f1, f2, -, -⟩ := Jvm.Free.Multi.fill_facts (T.setVm vm₁) (g.2.2.1 4) (g.2.2.1 0) n.toNatClampNeg k.toNatClampNeg (defaultValue .int) n.toNatClampNeg
  rw [hF, hTh] at f1 f2
  have hold : ∀ x : Nat, x < H.size → F.heap[x]? = H[x]? := fun x hx => by
    have := Jvm.Free.Multi.fill_old (T.setVm vm₁) (g.2.2.1 4) (g.2.2.1 0) n.toNatClampNeg k.toNatClampNeg (defaultValue .int) (a := x) (by rw [hTh]; exact hx) n.toNatClampNeg
    rw [hF, hTh] at this
    exact this
  have hrow : ∀ j : Nat, j < n.toNatClampNeg → F.heap[H.size + 1 + j]? = some (Jvm.Free.Multi.innerC (g.2.2.1 0) k.toNatClampNeg (defaultValue .int)) := fun j hj => by
    have := Jvm.Free.Multi.fill_inner (T.setVm vm₁) (g.2.2.1 4) (g.2.2.1 0) n.toNatClampNeg k.toNatClampNeg (defaultValue .int) n.toNatClampNeg j hj
    rw [hF, hTh] at this
    exact this
  have hz : F.heap.size = H.size + (1 + n.toNatClampNeg) := by rw [f1]; omega
  rw [sx_outer] at f2
  have hT2 : T.heap.size = sx_ad g M.1 := by rw [hT]; exact hh
  rw [hT2] at step
  have fin := kk p e R s m args below meth c F.heap locs (cells + 1 + n.toNatClampNeg) (slots + n.toNatClampNeg + n.toNatClampNeg * k.toNatClampNeg) mc ms ls C S (Wd.push (n := 1 + n.toNatClampNeg) rfl hm (by omega) sx_nm_o hz hold ?_) (sx_S_push hS (by omega) hold) hl (by omega) (by omega) F rfl X'
  · obtain ⟨t, a1, b1⟩ := fin
    exact ⟨t, step t a1, b1⟩
  · intro b b1 b2
    have b3 : b < M.1 + (1 + n.toNatClampNeg) := b2
    have hbase := Wd.1
    by_cases e0 : b = M.1
    · subst e0
      unfold sx_at
      simp only [hk]
      rw [← hh, f2]
      congr 2
      funext j
      show va_rf (if j < n.toNatClampNeg then some (H.size + 1 + j) else none) = sx_v g (va_rf ((sx_nm M n.toNatClampNeg).2.2.2 M.1 j))
      rw [sx_v_rf]
      simp only [sx_nm, if_true]
      by_cases hj : j < n.toNatClampNeg
      · rw [if_pos hj, if_pos hj]
        show va_rf (some _) = va_rf (some (sx_ad g (M.1 + 1 + j)))
        rw [sx_ad_lt (by omega), hbase]
        congr 2
        omega
      · rw [if_neg hj, if_neg hj]; rfl
    · obtain ⟨j, hj, rfl⟩ : ∃ j, j < n.toNatClampNeg ∧ b = M.1 + 1 + j := ⟨b - (M.1 + 1), by omega, by omega⟩
      unfold sx_at
      simp only [hki j hj]
      have e2 : sx_ad g (M.1 + 1 + j) = H.size + 1 + j := by rw [sx_ad_lt (by omega), hbase]; omega
      rw [e2, hrow j hj]
      show some ({ cls := g.2.2.1 0, slots := Array.replicate k.toNatClampNeg (defaultValue .int), vm := .none } : Cell) = _
      rw [arrV_new]
      congr 2
      funext i
      have hle : M.1 ≤ M.1 + 1 + j ∧ M.1 + 1 + j < M.1 + (1 + n.toNatClampNeg) := by omega
      simp only [sx_av, sx_nm, if_pos hle]
      rfl
/-- a copy of n places of a to b -/
def sx_cp (M : sx_M) (a sp b dp n : Nat) : sx_M := (M.1, (fun c j => if c = b then va_cpy (M.2.1 a) (M.2.1 b) sp dp n j else M.2.1 c j), M.2.2)
theorem sx_cp_o {a sp b dp n : Nat} : ∀ c, c ≠ b → sx_same M (sx_cp M a sp b dp n) c := fun c h => ⟨funext fun j => by simp [sx_cp, h], rfl, rfl⟩
theorem sx_copy {idx a b n0 n1 t : Nat} {sp dp n : Int32} (hd : decode q.2.1 pc = .ok (.invokestatic idx, 3)) (hl0 : Cond.methodLink q.1.cls idx arraycopyName ∈ lw_good) (hw : Cond.native arraycopyName ∈ lw_good ∧ Cond.static arraycopyName ∈ lw_good ∧ Cond.initialized "java/lang/System" ∈ lw_good) (ht : t = 0 ∨ t = 1) (hka : g.2.2.2.2.2 a = .inr (t, n0)) (ha : a < M.1) (hkb : g.2.2.2.2.2 b = .inr (t, n1)) (hb : b < M.1) (p1 : ¬ sp < 0) (p2 : ¬ dp < 0) (p3 : ¬ n < 0) (p4 : sp.toNatClampNeg + n.toNatClampNeg ≤ n0) (p5 : dp.toNatClampNeg + n.toNatClampNeg ≤ n1) (hfit : ∀ i, i < n.toNatClampNeg → fits (sx_tt t) (.int (M.2.1 a (sp.toNatClampNeg + i))) = true) (hdd : 0 < d) (hst : (st.map fun v => v.category).sum ≤ 8)
    (kk : sx_J g q d (pc + 3) lo st (sx_cp M a sp.toNatClampNeg b dp.toNatClampNeg n.toNatClampNeg) bc bs P) : sx_J g q d pc lo (.int n :: .int dp :: .ref b :: .int sp :: .ref a :: st) M bc bs P := by
  have nn : ∀ z : Int32, ¬ z < 0 → z.toInt = (z.toNatClampNeg : Int) := by
    intro z hz
    have hz0 : (0 : Int) ≤ z.toInt := by
      have := Int32.not_lt.mp hz
      simpa using Int32.le_iff_toInt_le.mp this
    show z.toInt = ((z.toInt.toNat : Nat) : Int)
    omega
  intro p e R s m args below meth c H locs cells slots mc ms ls C S Wd hS hl h1 h2 T hT X
  have e0 : ∀ b, (fun j => sx_v g (sx_av t M b j)) = fun j => .int (M.2.1 b j) := fun b => by rcases ht with rfl | rfl <;> rfl
  have hc0 : H[sx_ad g a]? = some (vp_cell (g.2.2.1 t) (n0, .inl (M.2.1 a))) := by rw [sx_arr Wd hka ha, e0]; rfl
  have hc1 : H[sx_ad g b]? = some (vp_cell (g.2.2.1 t) (n1, .inl (M.2.1 b))) := by rw [sx_arr Wd hkb hb, e0]; rfl
  obtain ⟨-, k0, hk0, cm0, hkk0⟩ := (S.2.1 t (by omega)).1 n0 (fun j => .int (M.2.1 a j))
  have hprim : refKind (sx_tt t) = false := by rcases ht with rfl | rfl <;> rfl
  have r1 := C.2.2.2.2.2.2.2.2.1
  have r2 := C.2.2.2.2.2.2.2.2.2.1
  obtain ⟨vm', X', step⟩ := X.arraycopy C.1 C.2.2.2.2.2.1 (C.2.2.2.2.1 _ hl0) (C.2.2.2.2.1 _ hw.1) (C.2.2.2.2.1 _ hw.2.1) (C.2.2.2.2.1 _ hw.2.2) (src := sx_ad g a) (dst := sx_ad g b) (cs := vp_cell (g.2.2.1 t) (n0, .inl (M.2.1 a))) (cd := vp_cell (g.2.2.1 t) (n1, .inl (M.2.1 b))) (srcPos := sp) (destPos := dp) (n := n) (by rw [hT]; exact hc0) (by rw [hT]; exact hc1)
    (fun _ h => by cases h) (fun _ h => by cases h) (fun h => by cases h) (fun h => by cases h) hk0 hk0 hkk0 hkk0 (by simp [hprim]) p1 p2 p3
    (by rw [nn sp p1, nn n p3]; show ¬ _ > ((arrV (g.2.2.1 t) n0 (fun j => .int (M.2.1 a j))).slots.size : Int); rw [arrV_size]; omega)
    (by rw [nn dp p2, nn n p3]; show ¬ _ > ((arrV (g.2.2.1 t) n1 (fun j => .int (M.2.1 b j))).slots.size : Int); rw [arrV_size]; omega)
    (fun vm₁ _ i hi => by
      have e : (vp_cell (g.2.2.1 t) (n0, .inl (M.2.1 a))).slots.getD (sp.toNatClampNeg + i) .null = .int (M.2.1 a (sp.toNatClampNeg + i)) := by
        show (arrV (g.2.2.1 t) n0 (fun j => .int (M.2.1 a j))).slots.getD _ _ = _
        rw [Array.getD_eq_getD_getElem?, arrV_read _ _ (by omega)]
        rfl
      refine ⟨?_, ?_⟩
      · rw [e]
        exact hfit i hi
      · rw [e]
        exact trivial)
    (g := F0 m pc ls (.int n :: .int dp :: .ref (sx_ad g b) :: .int sp :: .ref (sx_ad g a) :: st.map (sx_v g))) rfl (by show ls.size = c.maxLocals; rw [hl.1, C.2.2.2.1]) (rest := st.map (sx_v g)) rfl (by rw [C.2.1]; exact hd) (by omega) (by show 2 * 0 + _ + (7 + 11) ≤ _; rw [sx_sum]; omega)
  have e1 : copied (vp_cell (g.2.2.1 t) (n0, .inl (M.2.1 a))) (vp_cell (g.2.2.1 t) (n1, .inl (M.2.1 b))) sp dp n = vp_cell (g.2.2.1 t) (n1, .inl (va_cpy (M.2.1 a) (M.2.1 b) sp.toNatClampNeg dp.toNatClampNeg n.toNatClampNeg)) := va_copied (fun z => .int z) (g.2.2.1 t) (g.2.2.1 t) (M.2.1 a) (M.2.1 b) p4
  rw [e1] at X' step
  have hlt : sx_ad g b < H.size := (Array.getElem?_eq_some_iff.mp hc1).1
  generalize hN : vp_cell (g.2.2.1 t) (n1, .inl (va_cpy (M.2.1 a) (M.2.1 b) sp.toNatClampNeg dp.toNatClampNeg n.toNatClampNeg)) = nc at X' step
  have hheap : ((T.setVm vm').setCell (sx_ad g b) nc).heap = H.setIfInBounds (sx_ad g b) nc := by rw [← hT]; rfl
  have oq : ∀ x : Nat, x ≠ sx_ad g b → (H.setIfInBounds (sx_ad g b) nc)[x]? = H[x]? := fun x hx => by simp [Array.getElem?_setIfInBounds, Ne.symm hx]
  have hself : (H.setIfInBounds (sx_ad g b) nc)[sx_ad g b]? = some nc := by simp [Array.getElem?_setIfInBounds, hlt]
  have hAb := sx_A_in (g := g) (Nat.lt_of_lt_of_le hb Wd.2.1)
  obtain ⟨t2, a1, b1⟩ := kk p e R s m args below meth c (H.setIfInBounds (sx_ad g b) nc) _ cells slots mc ms ls C S (Wd.upd hb rfl sx_cp_o (by simp) oq (by
      unfold sx_at
      simp only [hkb]
      rw [hself, ← hN]
      rw [vp_cell_i]
      congr 2
      funext j
      have e2 : sx_v g (sx_av t (sx_cp M a sp.toNatClampNeg b dp.toNatClampNeg n.toNatClampNeg) b j) = .int ((sx_cp M a sp.toNatClampNeg b dp.toNatClampNeg n.toNatClampNeg).2.1 b j) := by rcases ht with rfl | rfl <;> rfl
      rw [e2]
      simp [sx_cp])) ⟨by simp; exact hS.1, fun x g1 g2 => by
      rw [oq x (fun e => g2 (by rw [e]; exact hAb))]
      exact hS.2.1 x g1 g2, fun x hx => by
      rcases List.mem_append.mp hx with h | h
      · exact hS.2.2 x h
      · obtain ⟨z, -, hz⟩ := List.mem_map.mp h
        rw [← hz]
        exact hAb⟩ hl h1 h2 _ hheap X'
  exact ⟨t2, step t2 a1, b1⟩
theorem sx_copyX {idx a b n0 n1 : Nat} {sp dp n : Int32} (hd : decode q.2.1 pc = .ok (.invokestatic idx, 3)) (hl0 : Cond.methodLink q.1.cls idx arraycopyName ∈ lw_good) (hw : Cond.native arraycopyName ∈ lw_good ∧ Cond.static arraycopyName ∈ lw_good ∧ Cond.initialized "java/lang/System" ∈ lw_good) (hka : g.2.2.2.2.2 a = .inr (9, n0)) (hkb : g.2.2.2.2.2 b = .inr (0, n1)) (hb : b < M.1) (p1 : ¬ sp < 0) (p2 : ¬ dp < 0) (p3 : ¬ n < 0) (p4 : sp.toNatClampNeg + n.toNatClampNeg ≤ n0) (p5 : dp.toNatClampNeg + n.toNatClampNeg ≤ n1) (hdd : 0 < d) (hst : (st.map fun v => v.category).sum ≤ 8)
    (kk : sx_J g q d (pc + 3) lo st (sx_cp M a sp.toNatClampNeg b dp.toNatClampNeg n.toNatClampNeg) bc bs P) : sx_J g q d pc lo (.int n :: .int dp :: .ref b :: .int sp :: .ref a :: st) M bc bs P := by
  have nn : ∀ z : Int32, ¬ z < 0 → z.toInt = (z.toNatClampNeg : Int) := by
    intro z hz
    have hz0 : (0 : Int) ≤ z.toInt := by
      have := Int32.not_lt.mp hz
      simpa using Int32.le_iff_toInt_le.mp this
    show z.toInt = ((z.toInt.toNat : Nat) : Int)
    omega
  intro p e R s m args below meth c H locs cells slots mc ms ls C S Wd hS hl h1 h2 T hT X
  obtain ⟨-, -, scr, hc0, ⟨hs6, k1, hk1, cm1, hkk1⟩, hs3, hs4, -, hs5⟩ := Wd.2.2.2.1 a n0 hka
  have hc1 : H[sx_ad g b]? = some (vp_cell (g.2.2.1 0) (n1, .inl (M.2.1 b))) := by rw [sx_arr Wd hkb hb]; rfl
  obtain ⟨-, k0, hk0, cm0, hkk0⟩ := (S.2.1 0 (by omega)).1 n1 (fun j => .int (M.2.1 b j))
  have r1 := C.2.2.2.2.2.2.2.2.1
  have r2 := C.2.2.2.2.2.2.2.2.2.1
  obtain ⟨vm', X', step⟩ := X.arraycopy C.1 C.2.2.2.2.2.1 (C.2.2.2.2.1 _ hl0) (C.2.2.2.2.1 _ hw.1) (C.2.2.2.2.1 _ hw.2.1) (C.2.2.2.2.1 _ hw.2.2) (src := sx_ad g a) (dst := sx_ad g b) (cs := scr) (cd := vp_cell (g.2.2.1 0) (n1, .inl (M.2.1 b))) (srcPos := sp) (destPos := dp) (n := n) (by rw [hT]; exact hc0) (by rw [hT]; exact hc1)
    hs6 (fun _ h => by cases h) hs3 (fun h => by cases h) hk1 hk0 hkk1 hkk0 (by simp [refKind, sx_tt]) p1 p2 p3
    (by rw [nn sp p1, nn n p3]; omega)
    (by rw [nn dp p2, nn n p3]; show ¬ _ > ((arrV (g.2.2.1 0) n1 (fun j => .int (M.2.1 b j))).slots.size : Int); rw [arrV_size]; omega)
    (fun vm₁ _ i hi => by
      have e : scr.slots.getD (sp.toNatClampNeg + i) .null = .int (M.2.1 a (sp.toNatClampNeg + i)) := by
        rw [Array.getD_eq_getD_getElem?, hs5 _ (by omega)]
        rfl
      refine ⟨?_, ?_⟩
      · rw [e]
        rfl
      · rw [e]
        exact trivial)
    (g := F0 m pc ls (.int n :: .int dp :: .ref (sx_ad g b) :: .int sp :: .ref (sx_ad g a) :: st.map (sx_v g))) rfl (by show ls.size = c.maxLocals; rw [hl.1, C.2.2.2.1]) (rest := st.map (sx_v g)) rfl (by rw [C.2.1]; exact hd) (by omega) (by show 2 * 0 + _ + (7 + 11) ≤ _; rw [sx_sum]; omega)
  have e1 : copied scr (vp_cell (g.2.2.1 0) (n1, .inl (M.2.1 b))) sp dp n = vp_cell (g.2.2.1 0) (n1, .inl (va_cpy (M.2.1 a) (M.2.1 b) sp.toNatClampNeg dp.toNatClampNeg n.toNatClampNeg)) := va_copiedX (fun z => .int z) scr (g.2.2.1 0) (M.2.1 a) (M.2.1 b) hs5 p4
  rw [e1] at X' step
  have hlt : sx_ad g b < H.size := (Array.getElem?_eq_some_iff.mp hc1).1
  generalize hN : vp_cell (g.2.2.1 0) (n1, .inl (va_cpy (M.2.1 a) (M.2.1 b) sp.toNatClampNeg dp.toNatClampNeg n.toNatClampNeg)) = nc at X' step
  have hheap : ((T.setVm vm').setCell (sx_ad g b) nc).heap = H.setIfInBounds (sx_ad g b) nc := by rw [← hT]; rfl
  have oq : ∀ x : Nat, x ≠ sx_ad g b → (H.setIfInBounds (sx_ad g b) nc)[x]? = H[x]? := fun x hx => by simp [Array.getElem?_setIfInBounds, Ne.symm hx]
  have hself : (H.setIfInBounds (sx_ad g b) nc)[sx_ad g b]? = some nc := by simp [Array.getElem?_setIfInBounds, hlt]
  have hAb := sx_A_in (g := g) (Nat.lt_of_lt_of_le hb Wd.2.1)
  obtain ⟨t2, a1, b1⟩ := kk p e R s m args below meth c (H.setIfInBounds (sx_ad g b) nc) _ cells slots mc ms ls C S (Wd.upd hb rfl sx_cp_o (by simp) oq (by
      unfold sx_at
      simp only [hkb]
      rw [hself, ← hN]
      rw [vp_cell_i]
      congr 2
      funext j
      have e2 : sx_v g (sx_av 0 (sx_cp M a sp.toNatClampNeg b dp.toNatClampNeg n.toNatClampNeg) b j) = .int ((sx_cp M a sp.toNatClampNeg b dp.toNatClampNeg n.toNatClampNeg).2.1 b j) := rfl
      rw [e2]
      simp [sx_cp])) ⟨by simp; exact hS.1, fun x g1 g2 => by
      rw [oq x (fun e => g2 (by rw [e]; exact hAb))]
      exact hS.2.1 x g1 g2, fun x hx => by
      rcases List.mem_append.mp hx with h | h
      · exact hS.2.2 x h
      · obtain ⟨z, -, hz⟩ := List.mem_map.mp h
        rw [← hz]
        exact hAb⟩ hl h1 h2 _ hheap X'
  exact ⟨t2, step t2 a1, b1⟩
/-- two references compared: if_acmpne -/
theorem sx_acmp_ne {x y : Nat} {off : Int} {tgt : Nat} (hd : decode q.2.1 pc = .ok (.if_acmp .ne off, 3)) (ht : (pc : Int) + off = (tgt : Int)) (hx : x < 1000) (hy : y < 1000) (kt : ¬ x = y → sx_J g q d tgt lo st M bc bs P) (kf : x = y → sx_J g q d (pc + 3) lo st M bc bs P) : sx_J g q d pc lo (.ref y :: .ref x :: st) M bc bs P := by
  intro p e R s m args below meth c H locs cells slots mc ms ls C S Wd hS hl h1 h2
  have hinj : sx_ad g x = sx_ad g y → x = y := fun h => by rw [sx_ad_lt hx, sx_ad_lt hy] at h; omega
  exact lv_acmp_ne (rx := some (sx_ad g x)) (ry := some (sx_ad g y)) C.1 C.2.1 hd ht (fun hc => kt (fun h => hc (by rw [h])) p e R s m args below meth c H locs cells slots mc ms ls C S Wd hS hl h1 h2) (fun hc => kf (hinj (Option.some.inj hc)) p e R s m args below meth c H locs cells slots mc ms ls C S Wd hS hl h1 h2)
end SXN
