/-! calls of the judgement sx_J -/
theorem sx_la (g : sx_G) : ∀ (as : List Value) (i : Nat), lv_args i (as.map (sx_v g)) = sx_lo g (lv_args i as)
  | [], _ => rfl
  | v :: as, i => by
    show (i, sx_v g v) :: lv_args (if (sx_v g v).category = 2 then i + 2 else i + 1) (as.map (sx_v g)) = (i, sx_v g v) :: sx_lo g (lv_args (if v.category = 2 then i + 2 else i + 1) as)
    rw [sx_v_cat, sx_la g as]
theorem sx_sl (g : sx_G) (as : List Value) : (lg_sl (as.map (sx_v g))).length = (lg_sl as).length := by
  induction as with
  | nil => rfl
  | cons v as ih =>
    simp only [lg_sl, List.map_cons, List.flatMap_cons, List.length_append] at ih ⊢
    rw [ih, sx_v_cat]
    split <;> rfl
def sx_rm (d bc bs : Nat) : Room := { frames := d, cells := bc, slots := bs, locals := 100 * d }
def sx_Pc (g : sx_G) (as : List Value) (M : sx_M) : Array Value → State → Prop := va_Pc (as.map (sx_v g)) (fun U => sx_S g U ∧ sx_W g M U U.heap)
theorem sx_blind (g : sx_G) (as : List Value) (M : sx_M) : FrameBlind (sx_Pc g as M) := fun a U f mk h => ⟨h.1, h.2.1.call f mk a, sx_W.alike (s := U) (U := U.calling f mk a) (Vm.Alike.refl U.vm) h.2.2⟩
/-- what the tables say of a method that is called; n: its parameters -/
def sx_Y0 (y : sx_Y) (n : Nat) : Prop := Cond.code y.1 y.2.1 y.2.2.1 y.2.2.2 ∈ lw_good ∧ Cond.initialized y.1.cls ∈ lw_good ∧ plainFor y.1 = true ∧ (y.1.cls ≠ "java/lang/invoke/MethodHandle" ∧ y.1.cls ≠ "java/lang/invoke/VarHandle" ∧ (parseMethodDescriptor y.1.desc).map (fun d => d.parameters.length) = some n) ∧ y.2.2.1 ≤ 81
section SXC
variable {g : sx_G} {q : sx_Y} {d pc : Nat} {lo lo' : List (Nat × Value)} {st : List Value} {M M' : sx_M} {bc bs : Nat} {P P1 : Option Value → sx_M → Prop}
theorem sx_ofW {l : Launch} {y : MethodName} {ws ws' : List Cond} {rm : Room} {Pc : Array Value → State → Prop} {Qc : Array Value → State → Outcome → State → Prop} {mc ms : Nat} {free : Addr → Prop} {cc : ByteArray} {maxL : Nat} {ret : Option FieldType}
    (hy : plainFor y = true) (hw : ws = Cond.code y cc maxL ret :: ws')
    (body : ∀ p e s m args below meth c s₁, BodyLoose p l y (headSpec ws rm) cc maxL ret e s m args below meth c s₁ → c.maxLocals = maxL → Pc args s →
      W p l e (headSpec ws rm).room s m args below meth c s.heap [] 0 0 (MQ below Qc args s mc ms free) (entryFrame m args maxL)) : Met l y ws rm Pc Qc mc ms free := by
  refine MetFree.of_bodySF (code := cc) (maxLocals := maxL) (ret := ret) hy ?_ ?_
  · intro args s m h hn
    obtain ⟨meth, c, h1, h2, h3, h4, h5, h6, -, -⟩ := Cond.code_spec hn (atoms_spec (ws := ws) h _ (by rw [hw]; exact List.mem_cons_self))
    exact ⟨meth, c, h1, h2, h3, h4, h5, h6⟩
  · intro p e s m args below meth c s₁ B hml hP _
    have hh0 : s₁.heap = s.heap := by rw [B.state]; rfl
    obtain ⟨t, a1, o, b1, b2, b3⟩ := body p e s m args below meth c s₁ B hml hP s₁ hh0 (Stand.of_body B)
    exact ⟨t, o, a1, b1, b2, ⟨b3.1, b3.2⟩⟩
theorem sx_met {as : List Value} (hq : plainFor q.1 = true) (hfit : (lg_sl as).length ≤ q.2.2.1) (h : sx_J g q d 0 (lv_args 0 as) [] M bc bs P) : Met g.1 q.1 (Cond.code q.1 q.2.1 q.2.2.1 q.2.2.2 :: lw_good) (sx_rm d bc bs) (sx_Pc g as M) (sx_Q g P) bc bs (sx_A g) := by
  refine sx_ofW (cc := q.2.1) (maxL := q.2.2.1) (ret := q.2.2.2) hq rfl ?_
  intro p e s m args below meth c s₁ B hml hv
  obtain ⟨rfl, hS, hW⟩ := hv
  have hts := atoms_spec (ws := Cond.code q.1 q.2.1 q.2.2.1 q.2.2.2 :: lw_good) B.pre
  rw [lg_entry_eq]
  have hl := lv_entry (as.map (sx_v g)) (n := q.2.2.1) (by rw [sx_sl]; exact hfit)
  rw [sx_la] at hl
  exact h p e _ s m _ below meth c s.heap [] 0 0 bc bs _ ⟨B.exec, B.bytes, B.returns, hml, fun w hw => hts w (List.mem_cons_of_mem _ hw), findClass_of_methodNamed B.named, B.notSynchronized, (fun h => (name_of_methodNamed B.named B.method).1.trans h), Nat.le_refl _, Nat.le_refl _, Nat.le_refl _, Nat.le_refl _⟩ hS hW va_S.rf hl (by omega) (by omega)
theorem sx_back {p : Program} {e : Env} {R : Room} {s : State} {m : MethodId} {args : Array Value} {below : List Frame} {meth : Method} {c : Code} {H : Heap} {locs : List Loc} {cells slots mc ms mc' ms' : Nat} {ls : Array Slot} {stk : List Value} {a0 : Array Value}
    (hrun : va_Run p g.1 e R s m args below meth c H locs cells slots mc' ms' (F0 m pc ls stk) (st.map (sx_v g)) (sx_Q g P1 a0) (sx_A g)) (C : sx_C q d p R s m args meth c mc ms) (S : sx_S g s) (hS : va_S (sx_A g) s.heap H locs) (hl : lv_has ls q.2.2.1 (sx_lo g lo)) (h1 : cells + (bc + mc') ≤ mc) (h2 : slots + (bs + ms') ≤ ms)
    (kk : ∀ r M1, P1 r M1 → sx_J g q d (pc + 3) lo (r.toList ++ st) M1 bc bs P) : W p g.1 e R s m args below meth c H locs cells slots (MQ below (sx_Q g P) args s mc ms (sx_A g)) (F0 m pc ls stk) := by
  intro T hT X
  obtain ⟨v, st₀, t, T', L, h0, X', hL, e1, e2, ⟨⟨r, M1, ho, hP, hW1⟩, hF⟩, hgo⟩ := hrun T hT X
  have hv : v = r.map (sx_v g) := by cases ho; rfl
  subst hv
  have hA : s.vm.Alike t.vm := by rw [← e2]; exact X'.warmed.alike
  have hW2 : sx_W g M1 s T'.heap := by rw [e1]; exact hW1.alike hA.symm
  have hS2 : va_S (sx_A g) s.heap T'.heap (locs ++ L) := ⟨Nat.le_trans hS.1 (by rw [e1, ← h0]; exact hF.1), fun x hx hn => by rw [e1, hF.2 x (by rw [h0]; exact Nat.lt_of_lt_of_le hx hS.1) hn, h0]; exact hS.2.1 x hx hn, fun z hz => (List.mem_append.mp hz).elim (hS.2.2 z) (hL z)⟩
  obtain ⟨t2, a1, b1⟩ := kk r M1 hP p e R s m args below meth c T'.heap (locs ++ L) (cells + mc') (slots + ms') mc ms ls C S hW2 hS2 hl (by omega) (by omega) T' rfl X'
  have e3 : (r.toList ++ st).map (sx_v g) = (r.map (sx_v g)).toList ++ st.map (sx_v g) := by cases r <;> simp
  rw [e3] at a1
  exact ⟨t2, hgo t2 a1, b1⟩
theorem sx_goodc {y : sx_Y} {n : Nat} (hy : sx_Y0 y n) : GoodIn lw_good (Cond.code y.1 y.2.1 y.2.2.1 y.2.2.2 :: lw_good) := fun w h => (List.mem_cons.mp h).elim (fun e => by rw [e]; exact lw_good_ok _ hy.1) (lw_good_ok w)
theorem sx_obj {a ci : Nat} {s : State} {H : Heap} {y : String} (S : sx_S g s) (Wd : sx_W g M s H) (hk : g.2.2.2.2.2 a = .inl ci) (hc : ∀ r, vwCl[ci]? = some r → r.1 = y) (ha : a < M.1) : ∃ cell : Cell, H[sx_ad g a]? = some cell ∧ cell.vm.isStatics = false ∧ s.vm.findClass y = some cell.cls := by
  have hat := Wd.2.2.1 a ha
  unfold sx_at at hat
  simp only [hk] at hat
  obtain ⟨r, hr, cell, q1, q2, q3, q4⟩ := hat
  exact ⟨cell, q1, by rw [q3]; rfl, by rw [q2, ← hc r hr]; exact (S.1 ci r hr).2.1⟩
theorem sx_sum (st : List Value) : ((st.map (sx_v g)).map fun v => v.category).sum = (st.map fun v => v.category).sum := by
  rw [List.map_map]
  congr 1
  exact List.map_congr_left (fun v _ => sx_v_cat g v)
/-- a call of a method of an object -/
theorem sx_callV {idx n d' a ci mc' ms' : Nat} {y : sx_Y} {as stk : List Value} (hd : decode q.2.1 pc = .ok (.invokevirtual idx, 3)) (hl0 : Cond.methodLink q.1.cls idx y.1 ∈ lw_good) (hy : sx_Y0 y n) (hv : Cond.instanceMethod y.1 ∈ lw_good ∧ Cond.selects y.1.cls y.1 y.1 ∈ lw_good) (hn : as.length = n) (hfit : (lg_sl (.ref a :: as)).length ≤ y.2.2.1) (hk : g.2.2.2.2.2 a = .inl ci) (hc : ∀ r, vwCl[ci]? = some r → r.1 = y.1.cls) (ha : a < M.1) (hdd : d' < d) (hst : (st.map fun v => v.category).sum ≤ 8) (hstk : stk = as.reverse ++ .ref a :: st)
    (hM : sx_J g y d' 0 (lv_args 0 (.ref a :: as)) [] M mc' ms' P1) (kk : ∀ r M1, P1 r M1 → sx_J g q d (pc + 3) lo (r.toList ++ st) M1 bc bs P) : sx_J g q d pc lo stk M (bc + mc') (bs + ms') P := by
  intro p e R s m args below meth c H locs cells slots mc ms ls C S Wd hS hl h1 h2
  subst hstk
  refine sx_back (a0 := _) (P1 := P1) (va_runV (As := as.map (sx_v g)) (b := sx_ad g a) (C := y.1.cls) (n := n) (ret := y.2.2.2) ⟨C.1, C.2.1, C.2.2.2.1, C.2.2.2.2.2.1, C.2.2.2.2.1⟩ (sx_met hy.2.2.1 hfit hM) ⟨callB_of n C.2.2.2.2.1 (sx_goodc hy) rfl rfl rfl (C.2.2.2.2.1 _ hy.2.1) (C.2.2.2.2.1 _ hl0) hy.2.2.2.1 ⟨?_, ?_⟩, C.2.2.2.2.1 _ hv.1, C.2.2.2.2.1 _ hv.2⟩ ⟨sx_blind g _ M, sx_obj S Wd hk hc ha, fun U hU hW => ⟨by simp [sx_v], S.warm hW, by rw [hU]; exact Wd.alike hW.alike⟩⟩ rfl (by simp [hn]) hl.1 (by simp [sx_v]) (lv_room (by rw [sx_sum]; exact hst)) hd ⟨?_, ?_⟩) C S hS hl h1 h2 kk
  · show d' + 1 ≤ R.frames
    have := C.2.2.2.2.2.2.2.2.1
    omega
  · show 8 + (y.2.2.1 + 11) + 100 * d' ≤ R.locals
    have := C.2.2.2.2.2.2.2.2.2.1
    have := hy.2.2.2.2
    omega
  · have := C.2.2.2.2.2.2.2.2.2.2.1
    omega
  · have := C.2.2.2.2.2.2.2.2.2.2.2
    omega
/-- a call of a static method -/
theorem sx_callS {idx n d' mc' ms' : Nat} {y : sx_Y} {as stk : List Value} (hd : decode q.2.1 pc = .ok (.invokestatic idx, 3)) (hl0 : Cond.methodLink q.1.cls idx y.1 ∈ lw_good) (hy : sx_Y0 y n) (hv : Cond.static y.1 ∈ lw_good) (hn : as.length = n) (hfit : (lg_sl as).length ≤ y.2.2.1) (hdd : d' < d) (hst : (st.map fun v => v.category).sum ≤ 8) (hstk : stk = as.reverse ++ st)
    (hM : sx_J g y d' 0 (lv_args 0 as) [] M mc' ms' P1) (kk : ∀ r M1, P1 r M1 → sx_J g q d (pc + 3) lo (r.toList ++ st) M1 bc bs P) : sx_J g q d pc lo stk M (bc + mc') (bs + ms') P := by
  intro p e R s m args below meth c H locs cells slots mc ms ls C S Wd hS hl h1 h2
  subst hstk
  refine sx_back (a0 := _) (P1 := P1) (va_runS (As := as.map (sx_v g)) (n := n) (ret := y.2.2.2) ⟨C.1, C.2.1, C.2.2.2.1, C.2.2.2.2.2.1, C.2.2.2.2.1⟩ (sx_met hy.2.2.1 hfit hM) ⟨callB_of n C.2.2.2.2.1 (sx_goodc hy) rfl rfl rfl (C.2.2.2.2.1 _ hy.2.1) (C.2.2.2.2.1 _ hl0) hy.2.2.2.1 ⟨?_, ?_⟩, C.2.2.2.2.1 _ hv⟩ ⟨sx_blind g _ M, fun U hU hW => ⟨by simp, S.warm hW, by rw [hU]; exact Wd.alike hW.alike⟩⟩ rfl (by simp [hn]) hl.1 (by simp) (lv_room (by rw [sx_sum]; exact hst)) hd ⟨?_, ?_⟩) C S hS hl h1 h2 kk
  · show d' + 1 ≤ R.frames
    have := C.2.2.2.2.2.2.2.2.1
    omega
  · show 8 + (y.2.2.1 + 11) + 100 * d' ≤ R.locals
    have := C.2.2.2.2.2.2.2.2.2.1
    have := hy.2.2.2.2
    omega
  · have := C.2.2.2.2.2.2.2.2.2.2.1
    omega
  · have := C.2.2.2.2.2.2.2.2.2.2.2
    omega
/-- a call of a static method of a nest mate -/
theorem sx_callSN {idx n d' mc' ms' : Nat} {y : sx_Y} {host : String} {as stk : List Value} (hd : decode q.2.1 pc = .ok (.invokestatic idx, 3)) (hl0 : Cond.methodLinkNest q.1.cls idx y.1 host ∈ lw_nest) (hy : sx_Y0 y n) (hv : Cond.static y.1 ∈ lw_good) (hn : as.length = n) (hfit : (lg_sl as).length ≤ y.2.2.1) (hdd : d' < d) (hst : (st.map fun v => v.category).sum ≤ 8) (hstk : stk = as.reverse ++ st)
    (hM : sx_J g y d' 0 (lv_args 0 as) [] M mc' ms' P1) (kk : ∀ r M1, P1 r M1 → sx_J g q d (pc + 3) lo (r.toList ++ st) M1 bc bs P) : sx_J g q d pc lo stk M (bc + mc') (bs + ms') P := by
  intro p e R s m args below meth c H locs cells slots mc ms ls C S Wd hS hl h1 h2
  subst hstk
  refine sx_back (a0 := _) (P1 := P1) (va_runSN (As := as.map (sx_v g)) (n := n) (host := host) (ret := y.2.2.2) ⟨C.1, C.2.1, C.2.2.2.1, C.2.2.2.2.2.1, C.2.2.2.2.1⟩ (sx_met hy.2.2.1 hfit hM) ⟨va_cnB n C.2.2.2.2.1 (sx_goodc hy) rfl rfl rfl (S.2.2.1 _ hl0) (C.2.2.2.2.1 _ hy.2.1) hy.2.2.2.1 ⟨?_, ?_⟩, C.2.2.2.2.1 _ hv, trivial⟩ ⟨sx_blind g _ M, fun U hU hW => ⟨by simp, S.warm hW, by rw [hU]; exact Wd.alike hW.alike⟩⟩ rfl (by simp [hn]) hl.1 (by simp) (lv_room (by rw [sx_sum]; exact hst)) hd ⟨?_, ?_⟩) C S hS hl h1 h2 kk
  · show d' + 1 ≤ R.frames
    have := C.2.2.2.2.2.2.2.2.1
    omega
  · show 8 + (y.2.2.1 + 11) + 100 * d' ≤ R.locals
    have := C.2.2.2.2.2.2.2.2.2.1
    have := hy.2.2.2.2
    omega
  · have := C.2.2.2.2.2.2.2.2.2.2.1
    omega
  · have := C.2.2.2.2.2.2.2.2.2.2.2
    omega
/-- a constructor -/
theorem sx_callI {idx n d' a mc' ms' : Nat} {y : sx_Y} {as stk : List Value} (hd : decode q.2.1 pc = .ok (.invokespecial idx, 3)) (hl0 : Cond.methodLink q.1.cls idx y.1 ∈ lw_good) (hy : sx_Y0 y n) (hr : y.2.2.2 = none) (hi : y.1.name = "<init>") (hv : Cond.instanceMethod y.1 ∈ lw_good) (hn : as.length = n) (hfit : (lg_sl (.ref a :: as)).length ≤ y.2.2.1) (hdd : d' < d) (hst : (st.map fun v => v.category).sum ≤ 8) (hstk : stk = as.reverse ++ .ref a :: st)
    (hM : sx_J g y d' 0 (lv_args 0 (.ref a :: as)) [] M mc' ms' P1) (kk : ∀ r M1, P1 r M1 → sx_J g q d (pc + 3) lo (r.toList ++ st) M1 bc bs P) : sx_J g q d pc lo stk M (bc + mc') (bs + ms') P := by
  intro p e R s m args below meth c H locs cells slots mc ms ls C S Wd hS hl h1 h2
  subst hstk
  obtain ⟨y1, y2, y3, y4⟩ := y
  cases hr
  refine sx_back (a0 := _) (P1 := P1) (va_runI (As := as.map (sx_v g)) (b := sx_ad g a) (n := n) ⟨C.1, C.2.1, C.2.2.2.1, C.2.2.2.2.2.1, C.2.2.2.2.1⟩ (sx_met hy.2.2.1 hfit hM) ⟨callB_of n C.2.2.2.2.1 (sx_goodc hy) rfl rfl rfl (C.2.2.2.2.1 _ hy.2.1) (C.2.2.2.2.1 _ hl0) hy.2.2.2.1 ⟨?_, ?_⟩, hi, C.2.2.2.2.1 _ hv⟩ ⟨sx_blind g _ M, fun U hU hW => ⟨by simp [sx_v], S.warm hW, by rw [hU]; exact Wd.alike hW.alike⟩⟩ rfl (by simp [hn]) hl.1 (by simp [sx_v]) (lv_room (by rw [sx_sum]; exact hst)) hd ⟨?_, ?_⟩) C S hS hl h1 h2 kk
  · show d' + 1 ≤ R.frames
    have := C.2.2.2.2.2.2.2.2.1
    omega
  · show 8 + (y3 + 11) + 100 * d' ≤ R.locals
    have := C.2.2.2.2.2.2.2.2.2.1
    have : y3 ≤ 81 := hy.2.2.2.2
    omega
  · have := C.2.2.2.2.2.2.2.2.2.2.1
    omega
  · have := C.2.2.2.2.2.2.2.2.2.2.2
    omega
/-- a private constructor of a nest mate -/
theorem sx_callIN {idx n d' a mc' ms' : Nat} {y : sx_Y} {host : String} {as stk : List Value} (hd : decode q.2.1 pc = .ok (.invokespecial idx, 3)) (hl0 : Cond.methodLinkNest q.1.cls idx y.1 host ∈ lw_nest) (hy : sx_Y0 y n) (hr : y.2.2.2 = none) (hi : y.1.name = "<init>") (hv : Cond.instanceMethod y.1 ∈ lw_good) (hn : as.length = n) (hfit : (lg_sl (.ref a :: as)).length ≤ y.2.2.1) (hdd : d' < d) (hst : (st.map fun v => v.category).sum ≤ 8) (hstk : stk = as.reverse ++ .ref a :: st)
    (hM : sx_J g y d' 0 (lv_args 0 (.ref a :: as)) [] M mc' ms' P1) (kk : ∀ r M1, P1 r M1 → sx_J g q d (pc + 3) lo (r.toList ++ st) M1 bc bs P) : sx_J g q d pc lo stk M (bc + mc') (bs + ms') P := by
  intro p e R s m args below meth c H locs cells slots mc ms ls C S Wd hS hl h1 h2
  subst hstk
  obtain ⟨y1, y2, y3, y4⟩ := y
  cases hr
  refine sx_back (a0 := _) (P1 := P1) (va_runIN (As := as.map (sx_v g)) (b := sx_ad g a) (n := n) (host := host) ⟨C.1, C.2.1, C.2.2.2.1, C.2.2.2.2.2.1, C.2.2.2.2.1⟩ (sx_met hy.2.2.1 hfit hM) ⟨va_cnB n C.2.2.2.2.1 (sx_goodc hy) rfl rfl rfl (S.2.2.1 _ hl0) (C.2.2.2.2.1 _ hy.2.1) hy.2.2.2.1 ⟨?_, ?_⟩, hi, C.2.2.2.2.1 _ hv⟩ ⟨sx_blind g _ M, fun U hU hW => ⟨by simp [sx_v], S.warm hW, by rw [hU]; exact Wd.alike hW.alike⟩⟩ rfl (by simp [hn]) hl.1 (by simp [sx_v]) (lv_room (by rw [sx_sum]; exact hst)) hd ⟨?_, ?_⟩) C S hS hl h1 h2 kk
  · show d' + 1 ≤ R.frames
    have := C.2.2.2.2.2.2.2.2.1
    omega
  · show 8 + (y3 + 11) + 100 * d' ≤ R.locals
    have := C.2.2.2.2.2.2.2.2.2.1
    have : y3 ≤ 81 := hy.2.2.2.2
    omega
  · have := C.2.2.2.2.2.2.2.2.2.2.1
    omega
  · have := C.2.2.2.2.2.2.2.2.2.2.2
    omega
/-- Object's constructor -/
theorem sx_objInit {idx a : Nat} (hd : decode q.2.1 pc = .ok (.invokespecial idx, 3)) (hl0 : Cond.methodLink q.1.cls idx Lib.objectInit ∈ lw_good) (hi : Cond.instanceMethod Lib.objectInit ∈ lw_good) (hc : Cond.code Lib.objectInit ⟨#[0xb1]⟩ 1 none ∈ lw_good) (hdd : 0 < d) (hst : (st.map fun v => v.category).sum ≤ 8) (kk : sx_J g q d (pc + 3) lo st M bc bs P) : sx_J g q d pc lo (.ref a :: st) M bc bs P := by
  intro p e R s m args below meth c H locs cells slots mc ms ls C S Wd hS hl h1 h2
  refine W.objInit C.1 C.2.1 C.2.2.2.2.2.1 (C.2.2.2.2.1 _ hl0) (C.2.2.2.2.1 _ hi) (C.2.2.2.2.1 _ hc) rfl (hl.1.trans C.2.2.2.1.symm) (rest := st.map (sx_v g)) rfl hd ?_ ?_ (kk p e R s m args below meth c H locs cells slots mc ms ls C S Wd hS hl h1 h2)
  · have := C.2.2.2.2.2.2.2.2.1
    omega
  · have := C.2.2.2.2.2.2.2.2.2.1
    rw [sx_sum]
    show 2 * 0 + _ + 12 ≤ R.locals
    omega
/-- a static array of HintHouse, read by a nest mate -/
theorem sx_getSN {idx j : Nat} {z : String × String × String} {host : String} (hd : decode q.2.1 pc = .ok (.getstatic idx, 3)) (hz : sx_st[j]? = some z) (hl0 : Cond.fieldLinkNest q.1.cls idx z.1 z.2.1 z.2.2 host ∈ lw_nest) (kk : sx_J g q d (pc + 3) lo (.ref (1001 + j) :: st) M bc bs P) : sx_J g q d pc lo st M bc bs P := by
  intro p e R s m args below meth c H locs cells slots mc ms ls C S Wd hS hl h1 h2
  obtain ⟨cf, kf, fi, f, a, cell, z1, z2, z3, z4, z5, z6, z7, z8⟩ := Wd.2.2.2.2 j z hz
  exact va_WgetsN C.1 C.2.1 C.2.2.2.2.2.1 (va_Nw.use rfl (S.2.2.1 _ hl0)) z1 z2 z3 z4 z5 (fun e => by rw [e] at z6; cases z6) z7 rfl hd (kk p e R s m args below meth c H locs cells slots mc ms ls C S Wd hS hl h1 h2)
/-! switches, and references compared -/
theorem sx_tabO {dflt low hig : Int} {offs : Array Int} {len : Nat} {x : Int32} {tgt : Nat} (hd : decode q.2.1 pc = .ok (.tableswitch dflt low hig offs, len)) (h : x.toInt < low ∨ hig < x.toInt) (ht : (pc : Int) + dflt = (tgt : Int)) (k : sx_J g q d tgt lo st M bc bs P) : sx_J g q d pc lo (.int x :: st) M bc bs P := by
  intro p e R s m args below meth c H locs cells slots mc ms ls C S Wd hS hl h1 h2
  exact lv_tableOut C.1 C.2.1 hd h ht (k p e R s m args below meth c H locs cells slots mc ms ls C S Wd hS hl h1 h2)
theorem sx_tabI {dflt low hig : Int} {offs : Array Int} {len : Nat} {x : Int32} {off : Int} {tgt : Nat} (hd : decode q.2.1 pc = .ok (.tableswitch dflt low hig offs, len)) (ha : ¬ x.toInt < low) (hb : ¬ hig < x.toInt) (ho : offs[(x.toInt - low).toNat]? = some off) (ht : (pc : Int) + off = (tgt : Int)) (k : sx_J g q d tgt lo st M bc bs P) : sx_J g q d pc lo (.int x :: st) M bc bs P := by
  intro p e R s m args below meth c H locs cells slots mc ms ls C S Wd hS hl h1 h2
  exact lv_tableIn C.1 C.2.1 hd ha hb ho ht (k p e R s m args below meth c H locs cells slots mc ms ls C S Wd hS hl h1 h2)
theorem sx_look {dflt : Int} {ps : Array (Int × Int)} {len : Nat} {x : Int32} {off : Int} {tgt : Nat} (hd : decode q.2.1 pc = .ok (.lookupswitch dflt ps, len)) (hp : (ps.toList.zip (ps.toList.drop 1)).all (fun (a, next) => a.1 < next.1) = true) (ho : Op.lookupswitch.offset ps.toList dflt x.toInt = off) (ht : (pc : Int) + off = (tgt : Int)) (k : sx_J g q d tgt lo st M bc bs P) : sx_J g q d pc lo (.int x :: st) M bc bs P := by
  intro p e R s m args below meth c H locs cells slots mc ms ls C S Wd hS hl h1 h2
  exact lv_lookup C.1 C.2.1 hd hp ho ht (k p e R s m args below meth c H locs cells slots mc ms ls C S Wd hS hl h1 h2)
end SXC
