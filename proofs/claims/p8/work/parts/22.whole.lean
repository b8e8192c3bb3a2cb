/-! FROM THE FUNCTION OF THE LAW TO THE CLAIM (the middle and the end of the skeleton are its own rows) -/
def R_law : String := "HintHouseLaw"
def lw_P (b : Addr) (xs : List Int32) (args : Array Value) (s : State) : Prop := args = #[.ref b] ∧ s.IntsAt b xs ∧ xs.length ≤ 2048 ∧ (Jvm.Cond.and given_1 narrow_1).before args s = true
def lw_Q (_ : Array Value) (s : State) (o : Outcome) (t : State) : Prop := o = .returned (some (.int 1)) ∧ Framed s o t [] 600000 7302250
def lw_Z (below : List Frame) (a : Array Value) (s : State) : State → Prop := fun t => ∃ o, t.status = .running ∧ Ended t below o ∧ lw_Q a s o t
/-- the law's own end, with 1 on the stack, nothing written that was there before, its room as the claim has it -/
theorem lw_ret {p : Program} {l : Launch} {e : Env} {s : State} {m : MethodId} {below : List Frame} {meth : Method} {c : Code} {b : Nat} (hx : p.tables.exec = Jvm.exec) (hb : c.code = code) (hr : meth.sig.returnType = ret) (hlocks : meth.locks = false) {pc : Nat} {H : Heap} {ls : Array Slot} (hdg : decode code pc = .ok (.ireturn, 1)) : W p l e room_1 s m #[Value.ref b] below meth c H [] 600000 7302250 (lw_Z below #[Value.ref b] s) (F0 m pc ls [.int 1]) := by
  intro T hT X
  obtain ⟨fs, hret, hrun, hended, hW, hframe⟩ := X.leave (v := some (.int 1)) (hlocks := hlocks) (fun h => by rw [hr] at h; cases h)
  have hmeth' : T.vm.method? m = some meth := X.method'
  refine ⟨T.setFrames fs, ?_, .returned (some (.int 1)), hrun, hended, rfl, ⟨_, rfl⟩, hW, hframe⟩
  jvm_step X.here [X.here.top, hx, hb, hdg, hmeth', hr, ret, narrow_b1]
  (try refine ⟨rfl, ?_⟩); (try refine ⟨rfl, ?_⟩)
  first | (intro acts; rw [hret _ acts rfl rfl rfl]) | rw [hret _ _ rfl rfl rfl]
  exact Steps.refl _
/-- what holds at the law's entry: the machine, the code, the tables' words (any of lw_tbl by 'hts w (by decide +kernel)'), the script of L ints xs at the cell b, what the Statement gives of the start (any of its parts by flat_of_before) -/
def lw_At (p : Program) (s : State) (m : MethodId) (meth : Method) (c : Code) (b L : Nat) (xs : Nat → Int32) : Prop :=
  p.tables.exec = Jvm.exec ∧ c.code = code ∧ meth.sig.returnType = ret ∧ c.maxLocals = 4 ∧ s.vm.findClass R_law = some m.cls ∧ (∀ w ∈ lw_tbl, w.before #[Value.ref b] s = true) ∧ va_X b L xs s s.heap ∧ b < s.heap.size ∧ meth.locks = false ∧ (Jvm.Cond.and given_1 narrow_1).before #[Value.ref b] s = true
def lw_stat : List (List Int32) := [[1668112752, 1735162214, 1751474532, 1751672161, 1752003704, 1819239265, 1835104368, 1801810542, 1668707360, 1718642541, 1886545264], [14, 16, 18, 20, 22, 24, 30], [68, 0, 0, 64, 1, 9, 3, 0, 0], [1, 0, 0, 0, 0, 0, 0], [2, 64, 64, 64, 16, 256, 4], [0, 0, 0, 0, 0, 0, 2, 2, 2, 2, 2, 2, 0, 0, 0, (-1), 1, 1, 1, 1, 1, 1, 1, 1, 0, 0, 1, 0, 1, 1, 1, 1, 1, 1, 0, 2, 0, 1, 1, 2, (-1), 1, 2, 1, 1, 0, 1, 1, 0, 0, (-2), (-2), 1, 1, 1, 1, (-3), (-2), 2, 2, (-2), 0, 2, 2, 0, 0, 2, 1, 2, 1, 1, 1, 2, 2, 2, 0, 0, 0, 0, (-1), 2, 2, 2, 2, 2, 2, 1, 1, 1, 0, 2, 2, 1, 1, 1, 1, 2, 2, 2, 2, 1, 1, 1, 1, 1, 1, 1, 1, 1, 1, 1, 1, 2, 1, 1, 1, 1, 1, 1, 1, 2, 2, 0, (-1), 0, 0, (-1), (-1), (-2), 2, 2, (-1), (-1), 1, 2, 2, 1, 1, 3, 2, 2, 1, (-1), (-1), (-1), (-1), (-1), (-1), (-1), (-1), (-1), (-1), (-1), (-1), (-1), (-1), (-1), (-1), (-1), (-1), (-1), (-1), (-1), (-1), (-1), (-1), (-1), (-1), (-1), (-1), (-1), (-1), (-1), (-1), (-1), (-1), 0, 0, 0, 0, 0, 0, 0, 0, 0, 0, 0, 0, 0, 0, 0, 0, 1, 1, 1, 1, 1, 1, 1, 1, 1, 1, 1, 1, 1, 1, 1, 1, 1, 1, 1, 1, 1, 1, 1, 1, 1, 1, 1, 1, 1, 1, 1, 1, 2, 2, 2, 2, 2, 2, 2, 2, 2, 2, 2, 2, 2, 2, 2, 2, 2, 2, 2, 2, 2, 2, 2, 2, 2, 2, 2, 2, 2, 2, 2, 2], [1, 1, 1, 1, 1, 1, 1, 1, 1, 1, 1, 1, 1, 1, 1, 0, 2, 2, 2, 2, 2, 2, 2, 2, 2, 2, 2, 3, 3, 2, 2, 2, 4, 4, 4, 4, 4, 4, 4, 8, 0, 8, 3, 3, 3, 3, 8, 8, 8, 8, 12, 12, 12, 12, 12, 12, 9, 9, 10, 10, 9, 2, 10, 10, 4, 4, 5, 5, 5, 5, 8, 8, 8, 8, 8, 5, 5, 2, 2, 0, 6, 6, 6, 6, 6, 6, 6, 6, 3, 3, 6, 6, 6, 11, 2, 2, 7, 7, 7, 7, 7, 7, 7, 7, 7, 7, 7, 7, 7, 7, 7, 7, 5, 11, 11, 11, 11, 11, 2, 2, 3, 3, 2, 0, 2, 2, 0, 0, 9, 8, 8, 0, 0, 2, 1, 1, 5, 3, 4, 7, 7, 2, 0, 0, 0, 0, 0, 0, 0, 0, 0, 0, 0, 0, 0, 0, 0, 0, 0, 0, 0, 0, 0, 0, 0, 0, 0, 0, 0, 0, 0, 0, 0, 0, 0, 0, 4, 4, 4, 4, 4, 4, 4, 4, 4, 4, 4, 4, 4, 4, 4, 4, 10, 10, 10, 10, 10, 10, 10, 10, 10, 10, 10, 10, 10, 10, 10, 10, 10, 10, 10, 10, 10, 10, 10, 10, 10, 10, 10, 10, 10, 10, 10, 10, 10, 10, 10, 10, 10, 10, 10, 10, 10, 10, 10, 10, 10, 10, 10, 10, 10, 10, 10, 10, 10, 10, 10, 10, 10, 10, 10, 10, 10, 10, 10, 10]]
def lw_M0 (xs : Nat → Int32) : sx_M := (0, (fun a j => if a = 1000 then xs j else if 1001 ≤ a then (lw_stat.getD (a - 1001) []).getD j 0 else 0), (fun _ _ => 0), fun _ _ => none)
def lw_Me (xs : Nat → Int32) : sx_M := e_21 (sx_nw (e_20 (sx_nw (lw_M0 xs))))
def lw_V0 (xs : Nat → Int32) : sv_V := ((lw_Me xs).2.1, (lw_Me xs).2.2.1, (lw_Me xs).2.2.2)
def crT : List (Nat × Nat × Nat) := [(0, 0, 1), (0, 2, 2), (0, 3, 29), (0, 4, 30), (0, 5, 143), (0, 6, 145), (2, 0, 3), (2, 3, 4), (2, 4, 5), (2, 10, 6), (2, 16, 7), (7, 0, 8), (7, 1, 9), (7, 2, 10), (7, 3, 11), (7, 4, 12), (7, 5, 13), (7, 6, 14), (7, 7, 15), (16, 0, 2), (16, 1, 17), (16, 2, 27), (16, 3, 28), (17, 0, 21), (17, 1, 22), (17, 2, 23), (17, 3, 24), (17, 4, 25), (17, 5, 26), (17, 6, 18), (17, 7, 19), (17, 8, 20), (29, 0, 2), (29, 1, 16), (30, 0, 2), (30, 1, 16), (30, 2, 69), (30, 3, 31), (30, 4, 45), (30, 5, 59), (30, 6, 60), (31, 0, 32), (31, 2, 33), (31, 4, 34), (31, 5, 44), (34, 0, 38), (34, 1, 39), (34, 2, 40), (34, 3, 41), (34, 4, 42), (34, 5, 43), (34, 6, 35), (34, 7, 36), (34, 8, 37), (45, 0, 46), (45, 2, 47), (45, 4, 48), (45, 5, 58), (48, 0, 52), (48, 1, 53), (48, 2, 54), (48, 3, 55), (48, 4, 56), (48, 5, 57), (48, 6, 49), (48, 7, 50), (48, 8, 51), (59, 0, 93), (59, 1, 103), (59, 2, 113), (59, 3, 123), (59, 4, 133), (60, 0, 61), (60, 1, 62), (60, 2, 63), (60, 3, 64), (60, 4, 65), (60, 5, 66), (60, 6, 67), (60, 8, 68), (69, 0, 2), (69, 1, 70), (69, 2, 73), (69, 3, 82), (69, 4, 92), (70, 6, 71), (70, 7, 72), (73, 0, 74), (73, 1, 75), (73, 2, 76), (73, 4, 77), (73, 5, 78), (73, 6, 79), (73, 7, 80), (73, 8, 81), (82, 0, 86), (82, 1, 87), (82, 2, 88), (82, 3, 89), (82, 4, 90), (82, 5, 91), (82, 6, 83), (82, 7, 84), (82, 8, 85), (93, 0, 97), (93, 1, 98), (93, 2, 99), (93, 3, 100), (93, 4, 101), (93, 5, 102), (93, 6, 94), (93, 7, 95), (93, 8, 96), (103, 0, 107), (103, 1, 108), (103, 2, 109), (103, 3, 110), (103, 4, 111), (103, 5, 112), (103, 6, 104), (103, 7, 105), (103, 8, 106), (113, 0, 117), (113, 1, 118), (113, 2, 119), (113, 3, 120), (113, 4, 121), (113, 5, 122), (113, 6, 114), (113, 7, 115), (113, 8, 116), (123, 0, 127), (123, 1, 128), (123, 2, 129), (123, 3, 130), (123, 4, 131), (123, 5, 132), (123, 6, 124), (123, 7, 125), (123, 8, 126), (133, 0, 137), (133, 1, 138), (133, 2, 139), (133, 3, 140), (133, 4, 141), (133, 5, 142), (133, 6, 134), (133, 7, 135), (133, 8, 136), (143, 0, 144), (146, 0, 147), (146, 2, 148), (146, 6, 149), (146, 7, 150), (146, 8, 151), (146, 9, 152), (146, 33, 153), (146, 34, 154), (146, 35, 155), (146, 36, 156), (146, 37, 157), (146, 38, 158), (146, 39, 159), (146, 40, 160), (146, 41, 161), (146, 42, 162), (146, 43, 163), (146, 44, 164), (146, 45, 165), (146, 46, 166), (146, 47, 167), (146, 48, 168), (146, 49, 169), (146, 50, 170), (146, 51, 171), (146, 54, 172), (146, 55, 173), (146, 89, 174), (146, 90, 175), (146, 94, 176), (146, 95, 177), (146, 96, 178), (146, 97, 179), (146, 100, 180), (146, 101, 181), (146, 102, 182), (146, 103, 183), (146, 104, 184), (146, 113, 185), (146, 114, 186), (146, 115, 187), (146, 116, 188), (146, 117, 189), (146, 118, 190), (146, 119, 191), (146, 120, 192), (146, 121, 193), (146, 122, 194), (146, 123, 195), (146, 124, 196), (146, 130, 197), (146, 131, 198), (146, 132, 199), (146, 133, 200), (146, 136, 201), (146, 137, 202), (146, 138, 203), (146, 143, 204), (146, 145, 205)]
theorem crT_all : (List.range 206).all (fun a => (List.range (crL.getD a []).length).all fun k => (crL.getD a []).getD k 0 == 0 || crT.contains (a, k, (crL.getD a []).getD k 0 - 1)) = true := by decide +kernel
theorem crT_in {a k b : Nat} (h : cr a k = some b) : (a, k, b) ∈ crT := by
  unfold cr at h
  have hv : (crL.getD a []).getD k 0 = b + 1 := by
    cases e : (crL.getD a []).getD k 0 with
    | zero => rw [e] at h; cases h
    | succ n => rw [e] at h; cases h; rfl
  have hk : k < (crL.getD a []).length := by
    rcases Nat.lt_or_ge k (crL.getD a []).length with q | q
    · exact q
    · rw [List.getD_eq_getElem?_getD, List.getElem?_eq_none q] at hv; cases hv
  have ha : a < 206 := by
    rcases Nat.lt_or_ge a 206 with q | q
    · exact q
    · have : crL.getD a [] = [] := by rw [List.getD_eq_getElem?_getD, List.getElem?_eq_none (by show crL.length ≤ a; exact q)]; rfl
      rw [this] at hk; cases hk
  have h1 := List.all_eq_true.mp (List.all_eq_true.mp crT_all a (List.mem_range.mpr ha)) k (List.mem_range.mpr hk)
  rw [hv] at h1
  simpa using h1
theorem lw_rq (xs ys : Nat → Int32) : rq (lw_Me xs) (lw_Me ys) := e_21_R (rq_nw (e_20_R (rq_nw ⟨rfl, rfl⟩)))
set_option maxRecDepth 100000 in
theorem crT_chk : crT.all (fun q => (lw_Me (fun _ => 0)).2.2.2 q.1 q.2.1 == some q.2.2) = true := by decide +kernel
theorem crT_me (xs : Nat → Int32) : ∀ q ∈ crT, (lw_Me xs).2.2.2 q.1 q.2.1 = some q.2.2 := by
  intro q hq
  rw [(lw_rq xs (fun _ => 0)).2]
  exact beq_iff_eq.mp (List.all_eq_true.mp crT_chk q hq)
theorem cr_fix (R : Nat → Nat → Option Nat) (h : ∀ q ∈ crT, R q.1 q.2.1 = some q.2.2) : R = fun a k => match cr a k with
    | some b => some b
    | none => R a k := by
  funext a k
  cases e : cr a k with
  | none => rfl
  | some b => exact h (a, k, b) (crT_in e)
theorem sv_f_of (M : sx_M) (hn : M.1 = 206) (h : ∀ q ∈ crT, M.2.2.2 q.1 q.2.1 = some q.2.2) : M = sv_f (M.2.1, M.2.2.1, M.2.2.2) := by
  obtain ⟨n, I, Lo, R⟩ := M
  have hn : n = 206 := hn
  subst hn
  have hR := cr_fix R h
  show (206, I, Lo, R) = (206, I, Lo, fun a k => match cr a k with
    | some b => some b
    | none => R a k)
  rw [← hR]
theorem lw_n (xs : Nat → Int32) : (lw_Me xs).1 = 206 := by rw [(lw_rq xs (fun _ => 0)).1]; decide +kernel
theorem lw_me (xs : Nat → Int32) : lw_Me xs = sv_f (lw_V0 xs) := sv_f_of _ (lw_n xs) (crT_me xs)
set_option maxRecDepth 100000 in
theorem lw_el_0 {args : Array Value} {s : State} (hs : ∀ c ∈ flatC (Jvm.Cond.and given_1 narrow_1), c.before args s = true) : ∀ j, j < 11 → (Term.elem (.static "HintHouse" "TAGS" "[I") (.int (Int32.ofNat j))).eval args s none [] s = some (.int ((lw_stat.getD 0 []).getD j 0)) := by
  intro j hj
  refine va_eqt (hs _ ?_)
  have h : ((flatC (Jvm.Cond.and given_1 narrow_1)).drop 7).take 11 = (List.range 11).map (fun j => Cond.eq (.elem (.static "HintHouse" "TAGS" "[I") (.int (Int32.ofNat j))) (.int ((lw_stat.getD 0 []).getD j 0))) := by decide +kernel
  have hm : Cond.eq (.elem (.static "HintHouse" "TAGS" "[I") (.int (Int32.ofNat j))) (.int ((lw_stat.getD 0 []).getD j 0)) ∈ (List.range 11).map (fun j => Cond.eq (.elem (.static "HintHouse" "TAGS" "[I") (.int (Int32.ofNat j))) (.int ((lw_stat.getD 0 []).getD j 0))) := List.mem_map.mpr ⟨j, List.mem_range.mpr hj, rfl⟩
  rw [← h] at hm
  exact List.mem_of_mem_drop (List.mem_of_mem_take hm)
theorem lw_st_0 {args : Array Value} {s : State} (hs : ∀ c ∈ flatC (Jvm.Cond.and given_1 narrow_1), c.before args s = true) {A : Nat → Prop} (hA : ∀ a : Nat, a < s.heap.size → ¬ A a) : ∃ t : Nat, (Term.static "HintHouse" "TAGS" "[I").eval args s none [] s = some (.ref t) ∧ va_T .int t 11 (fun j => .int ((lw_stat.getD 0 []).getD j 0)) A s s.heap :=
  va_Tof (by decide) (hs _ (List.mem_of_getElem? (i := 5) rfl)) (va_eqt (z := 11) (hs _ (List.mem_of_getElem? (i := 6) rfl))) (lw_el_0 hs) hA
theorem ls_0 : Cond.laysStatic "HintHouse" "TAGS" "[I" ∈ lw_tbl := (List.mem_append_right _ (tk_1 (List.mem_of_getElem? (i := 32) rfl)))
set_option maxRecDepth 100000 in
theorem lw_el_1 {args : Array Value} {s : State} (hs : ∀ c ∈ flatC (Jvm.Cond.and given_1 narrow_1), c.before args s = true) : ∀ j, j < 7 → (Term.elem (.static "HintHouse" "LIMIT_PLACES" "[I") (.int (Int32.ofNat j))).eval args s none [] s = some (.int ((lw_stat.getD 1 []).getD j 0)) := by
  intro j hj
  refine va_eqt (hs _ ?_)
  have h : ((flatC (Jvm.Cond.and given_1 narrow_1)).drop 21).take 7 = (List.range 7).map (fun j => Cond.eq (.elem (.static "HintHouse" "LIMIT_PLACES" "[I") (.int (Int32.ofNat j))) (.int ((lw_stat.getD 1 []).getD j 0))) := by decide +kernel
  have hm : Cond.eq (.elem (.static "HintHouse" "LIMIT_PLACES" "[I") (.int (Int32.ofNat j))) (.int ((lw_stat.getD 1 []).getD j 0)) ∈ (List.range 7).map (fun j => Cond.eq (.elem (.static "HintHouse" "LIMIT_PLACES" "[I") (.int (Int32.ofNat j))) (.int ((lw_stat.getD 1 []).getD j 0))) := List.mem_map.mpr ⟨j, List.mem_range.mpr hj, rfl⟩
  rw [← h] at hm
  exact List.mem_of_mem_drop (List.mem_of_mem_take hm)
theorem lw_st_1 {args : Array Value} {s : State} (hs : ∀ c ∈ flatC (Jvm.Cond.and given_1 narrow_1), c.before args s = true) {A : Nat → Prop} (hA : ∀ a : Nat, a < s.heap.size → ¬ A a) : ∃ t : Nat, (Term.static "HintHouse" "LIMIT_PLACES" "[I").eval args s none [] s = some (.ref t) ∧ va_T .int t 7 (fun j => .int ((lw_stat.getD 1 []).getD j 0)) A s s.heap :=
  va_Tof (by decide) (hs _ (List.mem_of_getElem? (i := 19) rfl)) (va_eqt (z := 7) (hs _ (List.mem_of_getElem? (i := 20) rfl))) (lw_el_1 hs) hA
theorem ls_1 : Cond.laysStatic "HintHouse" "LIMIT_PLACES" "[I" ∈ lw_tbl := (List.mem_append_right _ (tk_1 (List.mem_of_getElem? (i := 34) rfl)))
set_option maxRecDepth 100000 in
theorem lw_el_2 {args : Array Value} {s : State} (hs : ∀ c ∈ flatC (Jvm.Cond.and given_1 narrow_1), c.before args s = true) : ∀ j, j < 9 → (Term.elem (.static "HintHouse" "KEPT_AT_FIRST" "[I") (.int (Int32.ofNat j))).eval args s none [] s = some (.int ((lw_stat.getD 2 []).getD j 0)) := by
  intro j hj
  refine va_eqt (hs _ ?_)
  have h : ((flatC (Jvm.Cond.and given_1 narrow_1)).drop 31).take 9 = (List.range 9).map (fun j => Cond.eq (.elem (.static "HintHouse" "KEPT_AT_FIRST" "[I") (.int (Int32.ofNat j))) (.int ((lw_stat.getD 2 []).getD j 0))) := by decide +kernel
  have hm : Cond.eq (.elem (.static "HintHouse" "KEPT_AT_FIRST" "[I") (.int (Int32.ofNat j))) (.int ((lw_stat.getD 2 []).getD j 0)) ∈ (List.range 9).map (fun j => Cond.eq (.elem (.static "HintHouse" "KEPT_AT_FIRST" "[I") (.int (Int32.ofNat j))) (.int ((lw_stat.getD 2 []).getD j 0))) := List.mem_map.mpr ⟨j, List.mem_range.mpr hj, rfl⟩
  rw [← h] at hm
  exact List.mem_of_mem_drop (List.mem_of_mem_take hm)
theorem lw_st_2 {args : Array Value} {s : State} (hs : ∀ c ∈ flatC (Jvm.Cond.and given_1 narrow_1), c.before args s = true) {A : Nat → Prop} (hA : ∀ a : Nat, a < s.heap.size → ¬ A a) : ∃ t : Nat, (Term.static "HintHouse" "KEPT_AT_FIRST" "[I").eval args s none [] s = some (.ref t) ∧ va_T .int t 9 (fun j => .int ((lw_stat.getD 2 []).getD j 0)) A s s.heap :=
  va_Tof (by decide) (hs _ (List.mem_of_getElem? (i := 29) rfl)) (va_eqt (z := 9) (hs _ (List.mem_of_getElem? (i := 30) rfl))) (lw_el_2 hs) hA
theorem ls_2 : Cond.laysStatic "HintHouse" "KEPT_AT_FIRST" "[I" ∈ lw_tbl := (List.mem_append_right _ (tk_2 (List.mem_of_getElem? (i := 54) rfl)))
set_option maxRecDepth 100000 in
theorem lw_el_3 {args : Array Value} {s : State} (hs : ∀ c ∈ flatC (Jvm.Cond.and given_1 narrow_1), c.before args s = true) : ∀ j, j < 7 → (Term.elem (.static "HintHouse" "LIMIT_LEASTS" "[I") (.int (Int32.ofNat j))).eval args s none [] s = some (.int ((lw_stat.getD 3 []).getD j 0)) := by
  intro j hj
  refine va_eqt (hs _ ?_)
  have h : ((flatC (Jvm.Cond.and given_1 narrow_1)).drop 43).take 7 = (List.range 7).map (fun j => Cond.eq (.elem (.static "HintHouse" "LIMIT_LEASTS" "[I") (.int (Int32.ofNat j))) (.int ((lw_stat.getD 3 []).getD j 0))) := by decide +kernel
  have hm : Cond.eq (.elem (.static "HintHouse" "LIMIT_LEASTS" "[I") (.int (Int32.ofNat j))) (.int ((lw_stat.getD 3 []).getD j 0)) ∈ (List.range 7).map (fun j => Cond.eq (.elem (.static "HintHouse" "LIMIT_LEASTS" "[I") (.int (Int32.ofNat j))) (.int ((lw_stat.getD 3 []).getD j 0))) := List.mem_map.mpr ⟨j, List.mem_range.mpr hj, rfl⟩
  rw [← h] at hm
  exact List.mem_of_mem_drop (List.mem_of_mem_take hm)
theorem lw_st_3 {args : Array Value} {s : State} (hs : ∀ c ∈ flatC (Jvm.Cond.and given_1 narrow_1), c.before args s = true) {A : Nat → Prop} (hA : ∀ a : Nat, a < s.heap.size → ¬ A a) : ∃ t : Nat, (Term.static "HintHouse" "LIMIT_LEASTS" "[I").eval args s none [] s = some (.ref t) ∧ va_T .int t 7 (fun j => .int ((lw_stat.getD 3 []).getD j 0)) A s s.heap :=
  va_Tof (by decide) (hs _ (List.mem_of_getElem? (i := 41) rfl)) (va_eqt (z := 7) (hs _ (List.mem_of_getElem? (i := 42) rfl))) (lw_el_3 hs) hA
theorem ls_3 : Cond.laysStatic "HintHouse" "LIMIT_LEASTS" "[I" ∈ lw_tbl := (List.mem_append_right _ (tk_4 (List.mem_of_getElem? (i := 22) rfl)))
set_option maxRecDepth 100000 in
theorem lw_el_4 {args : Array Value} {s : State} (hs : ∀ c ∈ flatC (Jvm.Cond.and given_1 narrow_1), c.before args s = true) : ∀ j, j < 7 → (Term.elem (.static "HintHouse" "LIMIT_MOSTS" "[I") (.int (Int32.ofNat j))).eval args s none [] s = some (.int ((lw_stat.getD 4 []).getD j 0)) := by
  intro j hj
  refine va_eqt (hs _ ?_)
  have h : ((flatC (Jvm.Cond.and given_1 narrow_1)).drop 53).take 7 = (List.range 7).map (fun j => Cond.eq (.elem (.static "HintHouse" "LIMIT_MOSTS" "[I") (.int (Int32.ofNat j))) (.int ((lw_stat.getD 4 []).getD j 0))) := by decide +kernel
  have hm : Cond.eq (.elem (.static "HintHouse" "LIMIT_MOSTS" "[I") (.int (Int32.ofNat j))) (.int ((lw_stat.getD 4 []).getD j 0)) ∈ (List.range 7).map (fun j => Cond.eq (.elem (.static "HintHouse" "LIMIT_MOSTS" "[I") (.int (Int32.ofNat j))) (.int ((lw_stat.getD 4 []).getD j 0))) := List.mem_map.mpr ⟨j, List.mem_range.mpr hj, rfl⟩
  rw [← h] at hm
  exact List.mem_of_mem_drop (List.mem_of_mem_take hm)
theorem lw_st_4 {args : Array Value} {s : State} (hs : ∀ c ∈ flatC (Jvm.Cond.and given_1 narrow_1), c.before args s = true) {A : Nat → Prop} (hA : ∀ a : Nat, a < s.heap.size → ¬ A a) : ∃ t : Nat, (Term.static "HintHouse" "LIMIT_MOSTS" "[I").eval args s none [] s = some (.ref t) ∧ va_T .int t 7 (fun j => .int ((lw_stat.getD 4 []).getD j 0)) A s s.heap :=
  va_Tof (by decide) (hs _ (List.mem_of_getElem? (i := 51) rfl)) (va_eqt (z := 7) (hs _ (List.mem_of_getElem? (i := 52) rfl))) (lw_el_4 hs) hA
theorem ls_4 : Cond.laysStatic "HintHouse" "LIMIT_MOSTS" "[I" ∈ lw_tbl := (List.mem_append_right _ (tk_4 (List.mem_of_getElem? (i := 24) rfl)))
set_option maxRecDepth 100000 in
theorem lw_el_5 {args : Array Value} {s : State} (hs : ∀ c ∈ flatC (Jvm.Cond.and given_1 narrow_1), c.before args s = true) : ∀ j, j < 256 → (Term.elem (.static "HintHouse" "TAKES" "[I") (.int (Int32.ofNat j))).eval args s none [] s = some (.int ((lw_stat.getD 5 []).getD j 0)) := by
  intro j hj
  refine va_eqt (hs _ ?_)
  have h : ((flatC (Jvm.Cond.and given_1 narrow_1)).drop 63).take 256 = (List.range 256).map (fun j => Cond.eq (.elem (.static "HintHouse" "TAKES" "[I") (.int (Int32.ofNat j))) (.int ((lw_stat.getD 5 []).getD j 0))) := by decide +kernel
  have hm : Cond.eq (.elem (.static "HintHouse" "TAKES" "[I") (.int (Int32.ofNat j))) (.int ((lw_stat.getD 5 []).getD j 0)) ∈ (List.range 256).map (fun j => Cond.eq (.elem (.static "HintHouse" "TAKES" "[I") (.int (Int32.ofNat j))) (.int ((lw_stat.getD 5 []).getD j 0))) := List.mem_map.mpr ⟨j, List.mem_range.mpr hj, rfl⟩
  rw [← h] at hm
  exact List.mem_of_mem_drop (List.mem_of_mem_take hm)
theorem lw_st_5 {args : Array Value} {s : State} (hs : ∀ c ∈ flatC (Jvm.Cond.and given_1 narrow_1), c.before args s = true) {A : Nat → Prop} (hA : ∀ a : Nat, a < s.heap.size → ¬ A a) : ∃ t : Nat, (Term.static "HintHouse" "TAKES" "[I").eval args s none [] s = some (.ref t) ∧ va_T .int t 256 (fun j => .int ((lw_stat.getD 5 []).getD j 0)) A s s.heap :=
  va_Tof (by decide) (hs _ (List.mem_of_getElem? (i := 61) rfl)) (va_eqt (z := 256) (hs _ (List.mem_of_getElem? (i := 62) rfl))) (lw_el_5 hs) hA
theorem ls_5 : Cond.laysStatic "HintHouse" "TAKES" "[I" ∈ lw_tbl := (List.mem_append_right _ (tk_5 (List.mem_of_getElem? (i := 46) rfl)))
set_option maxRecDepth 100000 in
theorem lw_el_6 {args : Array Value} {s : State} (hs : ∀ c ∈ flatC (Jvm.Cond.and given_1 narrow_1), c.before args s = true) : ∀ j, j < 256 → (Term.elem (.static "HintHouse" "GROUPS" "[I") (.int (Int32.ofNat j))).eval args s none [] s = some (.int ((lw_stat.getD 6 []).getD j 0)) := by
  intro j hj
  refine va_eqt (hs _ ?_)
  have h : ((flatC (Jvm.Cond.and given_1 narrow_1)).drop 322).take 256 = (List.range 256).map (fun j => Cond.eq (.elem (.static "HintHouse" "GROUPS" "[I") (.int (Int32.ofNat j))) (.int ((lw_stat.getD 6 []).getD j 0))) := by decide +kernel
  have hm : Cond.eq (.elem (.static "HintHouse" "GROUPS" "[I") (.int (Int32.ofNat j))) (.int ((lw_stat.getD 6 []).getD j 0)) ∈ (List.range 256).map (fun j => Cond.eq (.elem (.static "HintHouse" "GROUPS" "[I") (.int (Int32.ofNat j))) (.int ((lw_stat.getD 6 []).getD j 0))) := List.mem_map.mpr ⟨j, List.mem_range.mpr hj, rfl⟩
  rw [← h] at hm
  exact List.mem_of_mem_drop (List.mem_of_mem_take hm)
theorem lw_st_6 {args : Array Value} {s : State} (hs : ∀ c ∈ flatC (Jvm.Cond.and given_1 narrow_1), c.before args s = true) {A : Nat → Prop} (hA : ∀ a : Nat, a < s.heap.size → ¬ A a) : ∃ t : Nat, (Term.static "HintHouse" "GROUPS" "[I").eval args s none [] s = some (.ref t) ∧ va_T .int t 256 (fun j => .int ((lw_stat.getD 6 []).getD j 0)) A s s.heap :=
  va_Tof (by decide) (hs _ (List.mem_of_getElem? (i := 320) rfl)) (va_eqt (z := 256) (hs _ (List.mem_of_getElem? (i := 321) rfl))) (lw_el_6 hs) hA
theorem ls_6 : Cond.laysStatic "HintHouse" "GROUPS" "[I" ∈ lw_tbl := (List.mem_append_right _ (tk_5 (List.mem_of_getElem? (i := 48) rfl)))
theorem inst_0 : Cond.instantiable RX0 10 ∈ lw_good := (lw_in (tk_2 (List.mem_of_getElem? (i := 200) rfl)) rfl)
theorem inst_1 : Cond.instantiable RX1 3 ∈ lw_good := (lw_in (tk_3 (List.mem_of_getElem? (i := 117) rfl)) rfl)
theorem inst_2 : Cond.instantiable RX2 17 ∈ lw_good := (lw_in (tk_1 (List.mem_of_getElem? (i := 26) rfl)) rfl)
theorem inst_3 : Cond.instantiable RX3 15 ∈ lw_good := (lw_in (tk_1 (List.mem_of_getElem? (i := 128) rfl)) rfl)
theorem inst_4 : Cond.instantiable RX4 2 ∈ lw_good := (lw_in (tk_2 (List.mem_of_getElem? (i := 27) rfl)) rfl)
theorem inst_5 : Cond.instantiable RX5 17 ∈ lw_good := (lw_in (tk_2 (List.mem_of_getElem? (i := 134) rfl)) rfl)
theorem inst_6 : Cond.instantiable RX6 13 ∈ lw_good := (lw_in (tk_2 (List.mem_of_getElem? (i := 40) rfl)) rfl)
theorem inst_7 : Cond.instantiable RX7 6 ∈ lw_good := (lw_in (tk_2 (List.mem_of_getElem? (i := 46) rfl)) rfl)
theorem inst_8 : Cond.instantiable RX8 12 ∈ lw_good := (lw_in (tk_1 (List.mem_of_getElem? (i := 134) rfl)) rfl)
theorem inst_9 : Cond.instantiable RX9 14 ∈ lw_good := (lw_in (tk_2 (List.mem_of_getElem? (i := 140) rfl)) rfl)
theorem inst_10 : Cond.instantiable RX10 13 ∈ lw_good := (lw_in (tk_2 (List.mem_of_getElem? (i := 87) rfl)) rfl)
theorem inst_11 : Cond.instantiable RX11 8 ∈ lw_good := (lw_in (tk_1 (List.mem_of_getElem? (i := 18) rfl)) rfl)
theorem inst_12 : Cond.instantiable RX12 146 ∈ lw_good := (lw_in (tk_7 (List.mem_of_getElem? (i := 156) rfl)) rfl)
theorem lw_nest_in : ∀ w ∈ lw_nest, w ∈ lw_tbl := List.forall_mem_cons.mpr ⟨(List.mem_append_right _ (tk_1 (List.mem_of_getElem? (i := 27) rfl))), List.forall_mem_cons.mpr ⟨(List.mem_append_right _ (tk_1 (List.mem_of_getElem? (i := 31) rfl))), List.forall_mem_cons.mpr ⟨(List.mem_append_right _ (tk_1 (List.mem_of_getElem? (i := 33) rfl))), List.forall_mem_cons.mpr ⟨(List.mem_append_right _ (tk_2 (List.mem_of_getElem? (i := 47) rfl))), List.forall_mem_cons.mpr ⟨(List.mem_append_right _ (tk_2 (List.mem_of_getElem? (i := 53) rfl))), List.forall_mem_cons.mpr ⟨(List.mem_append_right _ (tk_2 (List.mem_of_getElem? (i := 88) rfl))), List.forall_mem_cons.mpr ⟨(List.mem_append_right _ (tk_2 (List.mem_of_getElem? (i := 141) rfl))), List.forall_mem_cons.mpr ⟨(List.mem_append_right _ (tk_2 (List.mem_of_getElem? (i := 201) rfl))), List.forall_mem_cons.mpr ⟨(List.mem_append_right _ (tk_3 (List.mem_of_getElem? (i := 118) rfl))), List.forall_mem_cons.mpr ⟨(List.mem_append_right _ (tk_3 (List.mem_of_getElem? (i := 228) rfl))), List.forall_mem_cons.mpr ⟨(List.mem_append_right _ (tk_4 (List.mem_of_getElem? (i := 20) rfl))), List.forall_mem_cons.mpr ⟨(List.mem_append_right _ (tk_4 (List.mem_of_getElem? (i := 21) rfl))), List.forall_mem_cons.mpr ⟨(List.mem_append_right _ (tk_4 (List.mem_of_getElem? (i := 23) rfl))), List.forall_mem_cons.mpr ⟨(List.mem_append_right _ (tk_4 (List.mem_of_getElem? (i := 224) rfl))), List.forall_mem_cons.mpr ⟨(List.mem_append_right _ (tk_5 (List.mem_of_getElem? (i := 45) rfl))), List.forall_mem_cons.mpr ⟨(List.mem_append_right _ (tk_5 (List.mem_of_getElem? (i := 47) rfl))), List.forall_mem_cons.mpr ⟨(List.mem_append_right _ (tk_5 (List.mem_of_getElem? (i := 77) rfl))), List.forall_mem_cons.mpr ⟨(List.mem_append_right _ (tk_5 (List.mem_of_getElem? (i := 126) rfl))), List.forall_mem_cons.mpr ⟨(List.mem_append_right _ (tk_6 (List.mem_of_getElem? (i := 235) rfl))), List.forall_mem_cons.mpr ⟨(List.mem_append_right _ (tk_7 (List.mem_of_getElem? (i := 0) rfl))), List.forall_mem_cons.mpr ⟨(List.mem_append_right _ (tk_7 (List.mem_of_getElem? (i := 25) rfl))), List.forall_mem_cons.mpr ⟨(List.mem_append_right _ (tk_7 (List.mem_of_getElem? (i := 39) rfl))), fun _ h => absurd h List.not_mem_nil⟩⟩⟩⟩⟩⟩⟩⟩⟩⟩⟩⟩⟩⟩⟩⟩⟩⟩⟩⟩⟩⟩
theorem W_mono {p : Program} {l : Launch} {e : Env} {R : Room} {s : State} {m : MethodId} {args : Array Value} {below : List Frame} {meth : Method} {c : Code} {H : Heap} {locs : List Loc} {cells slots : Nat} {Q Q' : State → Prop} {f : JFrame} (h : ∀ t, Q t → Q' t) (k : W p l e R s m args below meth c H locs cells slots Q f) : W p l e R s m args below meth c H locs cells slots Q' f := fun T hT X => by
  obtain ⟨t, a, b⟩ := k T hT X
  exact ⟨t, a, h t b⟩
/-- the kinds of cells, the script among them -/
def lw_kd (L : Nat) (a : Nat) : Nat ⊕ (Nat × Nat) := if a = 1000 then .inr (9, L) else lay a
theorem layL_9 : (List.range 206).all (fun a => match layL.getD a (.inr (8, 0)) with | .inl _ => true | .inr x => x.1 != 9) = true := by decide +kernel
theorem lay_s {a n : Nat} (h : lay a = .inr (9, n)) : ∃ j, j < 7 ∧ a = 1001 + j ∧ n = layS.getD j 0 := by
  unfold lay at h
  split at h
  · rename_i ha
    have h1 := List.all_eq_true.mp layL_9 a (List.mem_range.mpr ha)
    rw [h] at h1
    exact absurd h1 (by simp)
  · split at h
    · rename_i h1
      exact ⟨a - 1001, by omega, by omega, (Prod.mk.inj (Sum.inr.inj h)).2.symm⟩
    · exact absurd (Prod.mk.inj (Sum.inr.inj h)).1 (by decide)
theorem dL_law_0 : decode cL_law 0 = .ok (.new 7, 3) := by decide +kernel
theorem dL_law_3 : decode cL_law 3 = .ok (.dup, 1) := by decide +kernel
theorem dL_law_4 : decode cL_law 4 = .ok (.invokespecial 9, 3) := by decide +kernel
theorem dL_law_7 : decode cL_law 7 = .ok (.astore_n 1, 1) := by decide +kernel
theorem dL_law_8 : decode cL_law 8 = .ok (.new 10, 3) := by decide +kernel
theorem dL_law_11 : decode cL_law 11 = .ok (.dup, 1) := by decide +kernel
theorem dL_law_12 : decode cL_law 12 = .ok (.invokespecial 12, 3) := by decide +kernel
theorem dL_law_15 : decode cL_law 15 = .ok (.astore_n 2, 1) := by decide +kernel
theorem sx_mono {g : sx_G} {q : sx_Y} {d pc : Nat} {lo : List (Nat × Value)} {st : List Value} {M : sx_M} {bc bs : Nat} {P P' : Option Value → sx_M → Prop} (h : ∀ r M, P r M → P' r M) (k : sx_J g q d pc lo st M bc bs P) : sx_J g q d pc lo st M bc bs P' := by
  intro p e R s m args below meth c H locs cells slots mc ms ls C S Wd hS hl h1 h2
  refine W_mono (fun t ht => ?_) (k p e R s m args below meth c H locs cells slots mc ms ls C S Wd hS hl h1 h2)
  obtain ⟨o, g1, g2, ⟨⟨r, M', x1, x2, x3⟩, x4⟩, x5⟩ := ht
  exact ⟨o, g1, g2, ⟨⟨r, M', x1, h r M' x2, x3⟩, x4⟩, x5⟩
set_option maxRecDepth 20000 in
set_option maxHeartbeats 4000000 in
/-- the law from its entry: the two objects are made, then its loop is the function F_L_law -/
theorem lw_16 {g : sx_G} (hG : sx_Go g) {L N : Nat} (hL : g.2.2.2.2.2 1000 = .inr (9, L)) {xs : Nat → Int32} {Vr : sv_V} (h : F_L_law N L (lw_V0 xs) = some (1, Vr)) : sx_J g qL_law 49 0 [(0, .ref 1000)] [] (lw_M0 xs) 206 97757 (fun r _ => r = some (.int 1)) := by
  have nM : (lw_M0 xs).1 = 0 := rfl
  refine sc_new (pc := 0) (bc := 205) (bs := 97749) nM dL_law_0 kc_11 c_L_7 ((hG 0 (by decide)).trans lay_0) (by decide) (fun M1 hM1 nM1 => ?_) (by decide +kernel) (by decide +kernel)
  refine sx_dup (pc := 3) dL_law_3 rfl ?_
  refine sc_callI (pc := 4) (bc := 60) (bs := 47615) (y := qX11_init) (as := []) (e := e_20 M1) dL_law_4 l_L_9 y0X11_init rfl rfl yiX11_init rfl (Nat.le_of_ble_eq_true rfl) (by decide) (Nat.le_of_ble_eq_true rfl) rfl rfl (ct_20 hG nM1 ⟨rfl, rfl⟩) (fun M2 hM2 => ?_) (by decide +kernel) (by decide +kernel)
  have nM2 : M2.1 = 146 := by rw [hM2]; exact e_20_n nM1
  refine sx_astore_n (pc := 7) (lo' := [(1, .ref 0), (0, .ref 1000)]) dL_law_7 (by decide) rfl ?_
  refine sc_new (pc := 8) (bc := 59) (bs := 47469) nM2 dL_law_8 kc_12 c_L_10 ((hG 146 (by decide)).trans lay_146) (by decide) (fun M3 hM3 nM3 => ?_) (by decide +kernel) (by decide +kernel)
  refine sx_dup (pc := 11) dL_law_11 rfl ?_
  refine sc_callI (pc := 12) (bc := 0) (bs := 0) (y := qX12_init) (as := []) (e := e_21 M3) dL_law_12 l_L_12 y0X12_init rfl rfl yiX12_init rfl (Nat.le_of_ble_eq_true rfl) (by decide) (Nat.le_of_ble_eq_true rfl) rfl rfl (ct_21 hG nM3 ⟨rfl, rfl⟩) (fun M4 hM4 => ?_) (by decide +kernel) (by decide +kernel)
  have nM4 : M4.1 = 206 := by rw [hM4]; exact e_21_n nM3
  refine sx_astore_n (pc := 15) (lo' := [(2, .ref 146), (1, .ref 0), (0, .ref 1000)]) dL_law_15 (by decide) rfl ?_
  have e : M4 = sv_f (lw_V0 xs) := by rw [hM4, hM3, hM2, hM1]; exact lw_me xs
  rw [e]
  refine sx_wk (sx_s1 sx_m2 (sx_s1 sx_m1 (sx_s1 sx_m0 sx_s0))) ?_
  exact sx_mono (fun r M' hp => by obtain ⟨_, -, hp⟩ := hp; exact hp) (t_L_law hG (P := fun r _ => r = some (.int 1)) rfl hL h)
/-- the claim's one walk, out of what the function of the law answers -/
theorem whole_start_open (hF : ∀ (L : Nat) (xs : Nat → Int32), L ≤ 2048 → ∃ N Vr, F_L_law N L (lw_V0 xs) = some (1, Vr)) {p : Program} {e : Env} {s : State} {m : MethodId} {below : List Frame} {meth : Method} {c : Code} (l : Launch) {b L : Nat} {xs : Nat → Int32} (hL : L ≤ 2048) (C0 : lw_At p s m meth c b L xs) : W p l e room_1 s m #[Value.ref b] below meth c s.heap [] 0 0 (lw_Z below #[Value.ref b] s) (entryFrame m ([Value.ref b] : List Value).toArray 4) := by
  obtain ⟨hx, hb, hr, hml, hown, hts0, hX, hbl, hlocks, hgv⟩ := id C0
  obtain ⟨N, Vr, hN⟩ := hF L xs hL
  have hts : ∀ w ∈ lw_good, w.before #[Value.ref b] s = true := fun w hw => hts0 w (List.mem_filter.mp hw).1
  have hs := flat_of_before _ hgv
  have hA : ∀ a : Nat, a < s.heap.size → ¬ (fun q : Nat => s.heap.size ≤ q) a := fun a h => Nat.not_le.mpr h
  obtain ⟨t0, ev0, T0⟩ := lw_st_0 hs hA
  obtain ⟨t1, ev1, T1⟩ := lw_st_1 hs hA
  obtain ⟨t2, ev2, T2⟩ := lw_st_2 hs hA
  obtain ⟨t3, ev3, T3⟩ := lw_st_3 hs hA
  obtain ⟨t4, ev4, T4⟩ := lw_st_4 hs hA
  obtain ⟨t5, ev5, T5⟩ := lw_st_5 hs hA
  obtain ⟨t6, ev6, T6⟩ := lw_st_6 hs hA
  obtain ⟨c0, iS0, hK0⟩ := u_known (C := RX0) (T := TX0) (N := 10) (n := 10) hts iw_0 (hts _ inst_0)
  obtain ⟨c1, iS1, hK1⟩ := u_known (C := RX1) (T := TX1) (N := 3) (n := 3) hts iw_1 (hts _ inst_1)
  obtain ⟨c2, iS2, hK2⟩ := u_known (C := RX2) (T := TX2) (N := 17) (n := 17) hts iw_2 (hts _ inst_2)
  obtain ⟨c3, iS3, hK3⟩ := u_known (C := RX3) (T := TX3) (N := 15) (n := 15) hts iw_3 (hts _ inst_3)
  obtain ⟨c4, iS4, hK4⟩ := u_known (C := RX4) (T := TX4) (N := 2) (n := 2) hts iw_4 (hts _ inst_4)
  obtain ⟨c5, iS5, hK5⟩ := u_known (C := RX5) (T := TX5) (N := 17) (n := 17) hts iw_5 (hts _ inst_5)
  obtain ⟨c6, iS6, hK6⟩ := u_known (C := RX6) (T := TX6) (N := 13) (n := 13) hts iw_6 (hts _ inst_6)
  obtain ⟨c7, iS7, hK7⟩ := u_known (C := RX7) (T := TX7) (N := 6) (n := 6) hts iw_7 (hts _ inst_7)
  obtain ⟨c8, iS8, hK8⟩ := u_known (C := RX8) (T := TX8) (N := 12) (n := 12) hts iw_8 (hts _ inst_8)
  obtain ⟨c9, iS9, hK9⟩ := u_known (C := RX9) (T := TX9) (N := 14) (n := 14) hts iw_9 (hts _ inst_9)
  obtain ⟨c10, iS10, hK10⟩ := u_known (C := RX10) (T := TX10) (N := 13) (n := 13) hts iw_10 (hts _ inst_10)
  obtain ⟨c11, iS11, hK11⟩ := u_known (C := RX11) (T := TX11) (N := 8) (n := 8) hts iw_11 (hts _ inst_11)
  obtain ⟨c12, iS12, hK12⟩ := u_known (C := RX12) (T := TX12) (N := 146) (n := 146) hts iw_12 (hts _ inst_12)
  obtain ⟨aI, kI, mI, fI, gI, jI⟩ := Cond.arrayClass_spec (hts _ ac_int)
  obtain ⟨aB, kB, mB, fB, gB, jB⟩ := Cond.arrayClass_spec (hts _ ac_byte)
  obtain ⟨aZ, kZ, mZ, fZ, gZ, jZ⟩ := Cond.arrayClass_spec (hts _ ac_boolean)
  obtain ⟨aJ, kJ, mJ, fJ, gJ, jJ⟩ := Cond.arrayClass_spec (hts _ ac_long)
  have hO : va_AO "HintHouse$Points" s := va_AO.of (hts0 _ (List.mem_append_right _ (tk_2 (List.mem_of_getElem? (i := 85) rfl))))
  have hOA : sx_AOA s := hts0 _ (List.mem_append_right _ (tk_1 (List.mem_of_getElem? (i := 36) rfl)))
  obtain ⟨mP, aP, kP, o1, o2, o3, o4, o5⟩ := Cond.arrayOver_spec hO
  obtain ⟨mQ, aQ, kQ, q1, q2, q3, q4, q5⟩ := arrayOverA_spec hOA
  have arr : ∀ {cA : ClassId} {kA : Class} {mA : ClassId} {ty : FieldType}, s.vm.classes[cA]? = some kA → kA.kind = .array mA ty → ArrOfT s cA ty := fun h1 h2 n z => ⟨fun k h => (by cases h), _, h1, _, h2⟩
  let g : sx_G := (l, ((fun k => [c0, c1, c2, c3, c4, c5, c6, c7, c8, c9, c10, c11, c12].getD k 0), fun k => [iS0, iS1, iS2, iS3, iS4, iS5, iS6, iS7, iS8, iS9, iS10, iS11, iS12].getD k (fun _ => 0)), (fun t => [aI, aB, aZ, aJ, aQ, aP].getD t 0), s.heap.size, (fun a => if a = 1000 then b else [t0, t1, t2, t3, t4, t5, t6].getD (a - 1001) 0), lw_kd L)
  have hG : sx_Go g := fun a ha => show lw_kd L a = _ from if_neg ha
  have hLk : g.2.2.2.2.2 1000 = .inr (9, L) := show lw_kd L 1000 = _ from if_pos rfl
  have hS : sx_S g s := by
    refine ⟨fun c r hr => ?_, fun t ht => ?_, fun w hw => va_Nw.of (lw_nest_tab w hw) (hts0 w (lw_nest_in w hw)), hO, hOA⟩
    · match c, hr with
      | 0, hr => cases hr; exact hK0
      | 1, hr => cases hr; exact hK1
      | 2, hr => cases hr; exact hK2
      | 3, hr => cases hr; exact hK3
      | 4, hr => cases hr; exact hK4
      | 5, hr => cases hr; exact hK5
      | 6, hr => cases hr; exact hK6
      | 7, hr => cases hr; exact hK7
      | 8, hr => cases hr; exact hK8
      | 9, hr => cases hr; exact hK9
      | 10, hr => cases hr; exact hK10
      | 11, hr => cases hr; exact hK11
      | 12, hr => cases hr; exact hK12
      | n + 13, hr => simp [vwCl] at hr
    · match t, ht with
      | 0, _ => exact ⟨arr gI jI, fI⟩
      | 1, _ => exact ⟨arr gB jB, fB⟩
      | 2, _ => exact ⟨arr gZ jZ, fZ⟩
      | 3, _ => exact ⟨arr gJ jJ, fJ⟩
      | 4, _ => exact ⟨arr q3 q4, q5⟩
      | 5, _ => exact ⟨arr o3 o4, ⟨kP, mP, o3, o4, o1, o5⟩⟩
      | n + 6, h => omega
  have hW : sx_W g (lw_M0 xs) s s.heap := by
    refine ⟨rfl, Nat.zero_le _, fun a ha => absurd ha (Nat.not_lt_zero a), fun a n ha => ?_, fun j z hz => ?_⟩
    · by_cases e0 : a = 1000
      · subst e0
        have hn : L = n := by rw [hLk] at ha; cases ha; rfl
        subst hn
        obtain ⟨scr, x1, x2, x3, x4, x5⟩ := hX
        exact ⟨by decide, hbl, scr, x1, x2, x3, by omega, by rw [x4], x5⟩
      · have ha2 : lay a = .inr (9, n) := (hG a e0).symm.trans ha
        obtain ⟨j, hj, rfl, rfl⟩ := lay_s ha2
        match j, hj with
        | 0, _ =>
          obtain ⟨cell, x1, x2, x3, x4, x5, x6, x7⟩ := T0
          exact ⟨by decide, Nat.not_le.mp x7, cell, x1, x2, x3, x4, x5, x6⟩
        | 1, _ =>
          obtain ⟨cell, x1, x2, x3, x4, x5, x6, x7⟩ := T1
          exact ⟨by decide, Nat.not_le.mp x7, cell, x1, x2, x3, x4, x5, x6⟩
        | 2, _ =>
          obtain ⟨cell, x1, x2, x3, x4, x5, x6, x7⟩ := T2
          exact ⟨by decide, Nat.not_le.mp x7, cell, x1, x2, x3, x4, x5, x6⟩
        | 3, _ =>
          obtain ⟨cell, x1, x2, x3, x4, x5, x6, x7⟩ := T3
          exact ⟨by decide, Nat.not_le.mp x7, cell, x1, x2, x3, x4, x5, x6⟩
        | 4, _ =>
          obtain ⟨cell, x1, x2, x3, x4, x5, x6, x7⟩ := T4
          exact ⟨by decide, Nat.not_le.mp x7, cell, x1, x2, x3, x4, x5, x6⟩
        | 5, _ =>
          obtain ⟨cell, x1, x2, x3, x4, x5, x6, x7⟩ := T5
          exact ⟨by decide, Nat.not_le.mp x7, cell, x1, x2, x3, x4, x5, x6⟩
        | 6, _ =>
          obtain ⟨cell, x1, x2, x3, x4, x5, x6, x7⟩ := T6
          exact ⟨by decide, Nat.not_le.mp x7, cell, x1, x2, x3, x4, x5, x6⟩
        | n + 7, h => omega
    · match j, hz with
      | 0, hz => cases hz; exact va_Zof (hts0 _ ls_0) (hts _ in_X11) ev0 hA
      | 1, hz => cases hz; exact va_Zof (hts0 _ ls_1) (hts _ in_X11) ev1 hA
      | 2, hz => cases hz; exact va_Zof (hts0 _ ls_2) (hts _ in_X11) ev2 hA
      | 3, hz => cases hz; exact va_Zof (hts0 _ ls_3) (hts _ in_X11) ev3 hA
      | 4, hz => cases hz; exact va_Zof (hts0 _ ls_4) (hts _ in_X11) ev4 hA
      | 5, hz => cases hz; exact va_Zof (hts0 _ ls_5) (hts _ in_X11) ev5 hA
      | 6, hz => cases hz; exact va_Zof (hts0 _ ls_6) (hts _ in_X11) ev6 hA
      | n + 7, hz => simp [sx_st] at hz
  have hl := lv_entry ([.ref b]) (n := 4) (Nat.le_of_ble_eq_true rfl)
  rw [lg_entry_eq]
  have J := lw_16 hG hLk hN p e room_1 s m #[Value.ref b] below meth c s.heap [] 0 0 600000 7302250 _ ⟨hx, hb, hr, hml, hts, hown, hlocks, (fun h => absurd h (by decide)), by decide, by decide, Nat.le_refl _, Nat.le_refl _⟩ hS hW va_S.rf hl (by decide) (by decide)
  refine W_mono (fun t ht => ?_) J
  obtain ⟨o, g1, g2, ⟨⟨r, M', x1, x2, x3⟩, x4⟩, Lc, ⟨y1, y2, y3⟩, y4⟩ := ht
  subst x2
  refine ⟨o, g1, g2, x1, y1, y2, y3.weaken (fun y hy hlt => absurd hlt (Nat.not_lt.mpr (y4 y hy))) (Nat.le_refl _) (Nat.le_refl _)⟩
