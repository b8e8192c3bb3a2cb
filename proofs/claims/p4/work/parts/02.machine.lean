/-! THE JUDGEMENT sx_J: a frame of numbers (locals lo, stack st, memory M) of the method q comes to its end, and P holds of the answer and of the memory. It hides the machine: the kit's W, the heap, the tables' words. -/
/-- a method: name, code, number of locals, type of the answer -/
abbrev sx_Y : Type := MethodName × ByteArray × Nat × Option FieldType
/-- memory: number of cells; ints, longs, references by cell and place -/
abbrev sx_M : Type := Nat × (Nat → Nat → Int32) × (Nat → Nat → Int64) × (Nat → Nat → Option Nat)
/-- launch; class numbers and slots; array classes; the first cell of ours; the outer cells; what each cell is -/
abbrev sx_G : Type := Launch × va_G × (Nat → ClassId) × Nat × (Nat → Nat) × (Nat → Nat ⊕ (Nat × Nat))
def sx_ad (g : sx_G) (a : Nat) : Nat := if a < 1000 then g.2.2.2.1 + a else g.2.2.2.2.1 a
def sx_v (g : sx_G) (v : Value) : Value := match v with
  | .ref a => .ref (sx_ad g a)
  | .int x => .int x
  | .long x => .long x
  | .float x => .float x
  | .double x => .double x
  | .null => .null
  | .retAddr x => .retAddr x
theorem sx_v_cat (g : sx_G) (v : Value) : (sx_v g v).category = v.category := by cases v <;> rfl
theorem sx_v_rf (g : sx_G) (r : Option Nat) : sx_v g (va_rf r) = va_rf (r.map (sx_ad g)) := by cases r <;> rfl
def sx_ty (ci : Nat) : Nat → FieldType := match ci with
  | 0 => tyX0
  | 1 => tyX1
  | 2 => tyX2
  | 3 => tyX3
  | 4 => tyX4
  | 5 => tyX5
  | 6 => tyX6
  | 7 => tyX7
  | 8 => tyX8
  | 9 => tyX9
  | 10 => tyX10
  | 11 => tyX11
  | 12 => tyX12
  | _ => fun _ => .int
def sx_fv (ty : FieldType) (M : sx_M) (a k : Nat) : Value := match ty with
  | .long => .long (M.2.2.1 a k)
  | .array _ => va_rf (M.2.2.2 a k)
  | .object _ => va_rf (M.2.2.2 a k)
  | .float => .float 0
  | .double => .double 0
  | _ => .int (M.2.1 a k)
def sx_av (t : Nat) (M : sx_M) (a j : Nat) : Value := match t with
  | 3 => .long (M.2.2.1 a j)
  | 4 => va_rf (M.2.2.2 a j)
  | 5 => va_rf (M.2.2.2 a j)
  | _ => .int (M.2.1 a j)
def sx_tt (t : Nat) : FieldType := match t with
  | 0 => .int
  | 1 => .byte
  | 2 => .boolean
  | 3 => .long
  | 4 => .array .int
  | _ => .object "HintHouse$Points"
def sx_at (g : sx_G) (M : sx_M) (a : Nat) (H : Heap) : Prop := match g.2.2.2.2.2 a with
  | .inl ci => ∃ r : vw_C, vwCl[ci]? = some r ∧ t_OB (sx_ad g a) (g.2.1.1 ci) r.2.2 (g.2.1.2 ci) H (fun k => sx_v g (sx_fv (sx_ty ci k) M a k))
  | .inr x => H[sx_ad g a]? = some (arrV (g.2.2.1 x.1) x.2 (fun j => sx_v g (sx_av x.1 M a j)))
def sx_A (g : sx_G) : Nat → Prop := fun q => g.2.2.2.1 ≤ q
/-- the static arrays: class, name, descriptor -/
def sx_st : List (String × String × String) := [("HintHouse", "TAGS", "[I"), ("HintHouse", "LIMIT_PLACES", "[I"), ("HintHouse", "KEPT_AT_FIRST", "[I"), ("HintHouse", "LIMIT_LEASTS", "[I"), ("HintHouse", "LIMIT_MOSTS", "[I"), ("HintHouse", "TAKES", "[I"), ("HintHouse", "GROUPS", "[I")]
def sx_X (g : sx_G) (M : sx_M) (s : State) (H : Heap) : Prop :=
  (∀ a n, g.2.2.2.2.2 a = .inr (9, n) → 1000 ≤ a ∧ sx_ad g a < g.2.2.2.1 ∧ ∃ cell : Cell, H[sx_ad g a]? = some cell ∧ s.isArrayOf cell .int ∧ cell.vm ≠ .unknown ∧ n ≤ cell.slots.size ∧ cell.slots.size.toInt32 = Int32.ofNat n ∧ ∀ j, j < n → cell.slots[j]? = some (.int (M.2.1 a j))) ∧
  ∀ j z, sx_st[j]? = some z → va_Z z.1 z.2.1 z.2.2 (.ref (sx_ad g (1001 + j))) (sx_A g) s H
def sx_W (g : sx_G) (M : sx_M) (s : State) (H : Heap) : Prop :=
  H.size = g.2.2.2.1 + M.1 ∧ M.1 ≤ 1000 ∧ (∀ a, a < M.1 → sx_at g M a H) ∧ sx_X g M s H
def sx_AOA (U : State) : Prop := (Cond.arrayOver (.array .int)).before #[] U = true
theorem sx_AOA.moved {u U : State} (hvm : u.vm.Alike U.vm) (h : sx_AOA u) : sx_AOA U := by
  obtain ⟨comp, c, k, h1, h2, h3, h4, h5⟩ := arrayOverA_spec h
  obtain ⟨k', hk', he⟩ := hvm.2.2 _ _ h3
  have hi : (U.vm.classes.findIdx? fun (x : Class) => match x.kind with | .array component _ => component == comp | _ => false) = some c := by
    rw [hvm.findIdx?_eq _ (fun _ => rfl)]
    exact h2
  have hkind : k'.kind = .array comp (.array .int) := by rw [he]; exact h4
  have f1 : U.vm.findClass (FieldType.array .int).toString = some comp := by rw [hvm.findClass]; exact h1
  have f2 : U.vm.findClass ("[" ++ (FieldType.array .int).toString) = some c := by rw [hvm.findClass]; exact h5
  unfold sx_AOA Cond.before Cond.holds
  simp only [Cond.value]
  rw [f1, Option.bind_some]
  refine (congrArg (fun o : Option Nat => (o.bind (fun c => (U.vm.classes[c]?).map fun (k : Class) => match k.kind with | .array _ ty => decide (ty = FieldType.array .int) && decide (U.vm.findClass ("[" ++ (FieldType.array .int).toString) = some c) | _ => false) == some true)) hi).trans ?_
  simp [hk', hkind, f2]
def sx_S (g : sx_G) (s : State) : Prop :=
  (∀ (c : Nat) (r : vw_C), vwCl[c]? = some r → u_Kn s r.1 r.2.1 r.2.2 (g.2.1.1 c) (g.2.1.2 c)) ∧ (∀ t, t < 6 → ArrOfT s (g.2.2.1 t) (sx_tt t) ∧ va_RA s (g.2.2.1 t) (sx_tt t)) ∧ (∀ w ∈ lw_nest, va_Nw w s) ∧ va_AO "HintHouse$Points" s ∧ sx_AOA s
theorem lw_nest_warm {s U : State} (hW : s.WarmedH U.vm) : ∀ w ∈ lw_nest, va_Nw w s → va_Nw w U := by
  intro w hw
  simp only [lw_nest, List.mem_cons, List.not_mem_nil, or_false] at hw
  rcases hw with rfl | rfl | rfl | rfl | rfl | rfl | rfl | rfl | rfl | rfl | rfl | rfl | rfl | rfl | rfl | rfl | rfl | rfl | rfl | rfl | rfl | rfl <;> intro h <;> first | exact va_Nw.warmF hW h | exact va_Nw.warmM hW h
theorem lw_nest_tab : ∀ w ∈ lw_nest, w.onTables = true := by
  intro w hw
  simp only [lw_nest, List.mem_cons, List.not_mem_nil, or_false] at hw
  rcases hw with rfl | rfl | rfl | rfl | rfl | rfl | rfl | rfl | rfl | rfl | rfl | rfl | rfl | rfl | rfl | rfl | rfl | rfl | rfl | rfl | rfl | rfl <;> rfl
theorem sx_S.warm {g : sx_G} {s U : State} (hW : s.WarmedH U.vm) (h : sx_S g s) : sx_S g U :=
  ⟨fun c r hr => u_Kn_moved hW.alike (h.1 c r hr), fun t ht => ⟨arrOfT_moved hW.alike (h.2.1 t ht).1, (h.2.1 t ht).2.moved hW.alike⟩, fun w hw => lw_nest_warm hW w hw (h.2.2.1 w hw), h.2.2.2.1.moved hW.alike, h.2.2.2.2.moved hW.alike⟩
theorem sx_S.call {g : sx_G} {U : State} (f : JFrame) (mk : MethodId) (a : Array Value) (h : sx_S g U) : sx_S g (U.calling f mk a) :=
  ⟨fun c r hr => u_Kn_moved (Vm.Alike.refl U.vm) (h.1 c r hr), fun t ht => ⟨arrOfT_moved (u := U) (E := U.calling f mk a) (Vm.Alike.refl U.vm) (h.2.1 t ht).1, va_RA.moved (u := U) (U := U.calling f mk a) (Vm.Alike.refl U.vm) (h.2.1 t ht).2⟩, fun w hw => va_Nw.same (lw_nest_tab w hw) (u := U) (U := U.calling f mk a) rfl (h.2.2.1 w hw), va_AO.moved (u := U) (U := U.calling f mk a) (Vm.Alike.refl U.vm) h.2.2.2.1, sx_AOA.moved (u := U) (U := U.calling f mk a) (Vm.Alike.refl U.vm) h.2.2.2.2⟩
theorem sx_W.alike {g : sx_G} {M : sx_M} {s U : State} {H : Heap} (hvm : s.vm.Alike U.vm) (h : sx_W g M s H) : sx_W g M U H := by
  obtain ⟨h1, h2, h3, h4, h5⟩ := h
  refine ⟨h1, h2, h3, fun a n ha => ?_, fun j z hz => (h5 j z hz).moved hvm⟩
  obtain ⟨b1, b2, cell, c1, c2, c3⟩ := h4 a n ha
  exact ⟨b1, b2, cell, c1, State.isArrayOf_alike hvm c2, c3⟩
def sx_C (q : sx_Y) (d : Nat) (p : Program) (R : Room) (s : State) (m : MethodId) (args : Array Value) (meth : Method) (c : Code) (mc ms : Nat) : Prop :=
  p.tables.exec = Jvm.exec ∧ c.code = q.2.1 ∧ meth.sig.returnType = q.2.2.2 ∧ c.maxLocals = q.2.2.1 ∧ (∀ w ∈ lw_good, w.before args s = true) ∧ s.vm.findClass q.1.cls = some m.cls ∧ meth.locks = false ∧ (q.1.name = "<init>" → meth.name = "<init>") ∧ d ≤ R.frames ∧ 100 * d ≤ R.locals ∧ mc ≤ R.cells ∧ ms ≤ R.slots
def sx_Q (g : sx_G) (P : Option Value → sx_M → Prop) : Array Value → State → Outcome → State → Prop := fun _ st o t =>
  (∃ (r : Option Value) (M' : sx_M), o = .returned (r.map (sx_v g)) ∧ P r M' ∧ sx_W g M' t t.heap) ∧ va_F (sx_A g) st t
def sx_lo (g : sx_G) (lo : List (Nat × Value)) : List (Nat × Value) := lo.map fun x => (x.1, sx_v g x.2)
def sx_J (g : sx_G) (q : sx_Y) (d pc : Nat) (lo : List (Nat × Value)) (st : List Value) (M : sx_M) (bc bs : Nat) (P : Option Value → sx_M → Prop) : Prop :=
  ∀ (p : Program) (e : Env) (R : Room) (s : State) (m : MethodId) (args : Array Value) (below : List Frame) (meth : Method) (c : Code) (H : Heap) (locs : List Loc) (cells slots mc ms : Nat) (ls : Array Slot),
    sx_C q d p R s m args meth c mc ms → sx_S g s → sx_W g M s H → va_S (sx_A g) s.heap H locs → lv_has ls q.2.2.1 (sx_lo g lo) → cells + bc ≤ mc → slots + bs ≤ ms →
      W p g.1 e R s m args below meth c H locs cells slots (MQ below (sx_Q g P) args s mc ms (sx_A g)) (F0 m pc ls (st.map (sx_v g)))
section SX
variable {g : sx_G} {q : sx_Y} {d pc : Nat} {lo lo' : List (Nat × Value)} {st : List Value} {M : sx_M} {bc bs : Nat} {P : Option Value → sx_M → Prop}
/-- a local's value -/
theorem sx_ld {ls : Array Slot} {n i : Nat} {v : Value} (h : lv_has ls n (sx_lo g lo)) (hi : (i, v) ∈ lo) : ls[i]? = some (.val (sx_v g v)) :=
  h.2.2 (i, sx_v g v) (List.mem_map.mpr ⟨(i, v), hi, rfl⟩)
def sx_d1 (i : Nat) (x : Nat × Value) : Bool := !(x.1 == i) && !(x.1 + 1 == i && x.2.category == 2)
def sx_d2 (i : Nat) (x : Nat × Value) : Bool := !(x.1 == i) && (!(x.1 == i + 1) && !(x.1 + 1 == i && x.2.category == 2))
theorem sx_f1 (i : Nat) (v : Value) : (i, sx_v g v) :: (sx_lo g lo).filter (fun q => !(q.1 == i) && !(q.1 + 1 == i && q.2.category == 2)) = sx_lo g ((i, v) :: lo.filter (sx_d1 i)) := by
  unfold sx_lo
  rw [List.map_cons, List.filter_map]
  congr 2
  refine List.filter_congr fun x _ => ?_
  simp [Function.comp, sx_d1, sx_v_cat]
theorem sx_f2 (i : Nat) (v : Value) : (i, sx_v g v) :: (sx_lo g lo).filter (fun q => !(q.1 == i) && (!(q.1 == i + 1) && !(q.1 + 1 == i && q.2.category == 2))) = sx_lo g ((i, v) :: lo.filter (sx_d2 i)) := by
  unfold sx_lo
  rw [List.map_cons, List.filter_map]
  congr 2
  refine List.filter_congr fun x _ => ?_
  simp [Function.comp, sx_d2, sx_v_cat]
theorem sx_iconst {n : Int} {v : Int32} (hd : decode q.2.1 pc = .ok (.iconst n, 1)) (hv : Int32.ofInt n = v) (k : sx_J g q d (pc + 1) lo (.int v :: st) M bc bs P) : sx_J g q d (pc) lo (st) M bc bs P := by
  intro p e R s m args below meth c H locs cells slots mc ms ls C S Wd hS hl h1 h2
  exact lv_iconst C.1 C.2.1 hd hv (k p e R s m args below meth c H locs cells slots mc ms ls C S Wd hS hl h1 h2)
theorem sx_bipush {n : Int} {v : Int32} (hd : decode q.2.1 pc = .ok (.bipush n, 2)) (hv : (Int8.ofInt n).toInt32 = v) (k : sx_J g q d (pc + 2) lo (.int v :: st) M bc bs P) : sx_J g q d (pc) lo (st) M bc bs P := by
  intro p e R s m args below meth c H locs cells slots mc ms ls C S Wd hS hl h1 h2
  exact lv_bipush C.1 C.2.1 hd hv (k p e R s m args below meth c H locs cells slots mc ms ls C S Wd hS hl h1 h2)
theorem sx_sipush {n : Int} {v : Int32} (hd : decode q.2.1 pc = .ok (.sipush n, 3)) (hv : (Int16.ofInt n).toInt32 = v) (k : sx_J g q d (pc + 3) lo (.int v :: st) M bc bs P) : sx_J g q d (pc) lo (st) M bc bs P := by
  intro p e R s m args below meth c H locs cells slots mc ms ls C S Wd hS hl h1 h2
  exact lv_sipush C.1 C.2.1 hd hv (k p e R s m args below meth c H locs cells slots mc ms ls C S Wd hS hl h1 h2)
theorem sx_lconst {n : Fin 2} {v : Int64} (hd : decode q.2.1 pc = .ok (.lconst n, 1)) (hv : Int64.ofNat (n : Nat) = v) (k : sx_J g q d (pc + 1) lo (.long v :: st) M bc bs P) : sx_J g q d (pc) lo (st) M bc bs P := by
  intro p e R s m args below meth c H locs cells slots mc ms ls C S Wd hS hl h1 h2
  exact lv_lconst C.1 C.2.1 hd hv (k p e R s m args below meth c H locs cells slots mc ms ls C S Wd hS hl h1 h2)
theorem sx_ldc {idx : Nat} {v : Int32} (hd : decode q.2.1 pc = .ok (.ldc idx, 2)) (hw : Cond.constant q.1.cls idx v ∈ lw_good) (k : sx_J g q d (pc + 2) lo (.int v :: st) M bc bs P) : sx_J g q d (pc) lo (st) M bc bs P := by
  intro p e R s m args below meth c H locs cells slots mc ms ls C S Wd hS hl h1 h2
  exact lv_ldc C.1 C.2.1 C.2.2.2.2.2.1 (C.2.2.2.2.1 _ hw) hd (k p e R s m args below meth c H locs cells slots mc ms ls C S Wd hS hl h1 h2)
theorem sx_ldcw {idx : Nat} {v : Int32} (hd : decode q.2.1 pc = .ok (.ldc_w idx, 3)) (hw : Cond.constant q.1.cls idx v ∈ lw_good) (k : sx_J g q d (pc + 3) lo (.int v :: st) M bc bs P) : sx_J g q d (pc) lo (st) M bc bs P := by
  intro p e R s m args below meth c H locs cells slots mc ms ls C S Wd hS hl h1 h2
  exact lv_ldcw C.1 C.2.1 C.2.2.2.2.2.1 (C.2.2.2.2.1 _ hw) hd (k p e R s m args below meth c H locs cells slots mc ms ls C S Wd hS hl h1 h2)
theorem sx_ldc2 {idx : Nat} {v : Int64} (hd : decode q.2.1 pc = .ok (.ldc2_w idx, 3)) (hw : Cond.constantLong q.1.cls idx v ∈ lw_good) (k : sx_J g q d (pc + 3) lo (.long v :: st) M bc bs P) : sx_J g q d (pc) lo (st) M bc bs P := by
  intro p e R s m args below meth c H locs cells slots mc ms ls C S Wd hS hl h1 h2
  exact lv_ldc2 C.1 C.2.1 C.2.2.2.2.2.1 (C.2.2.2.2.1 _ hw) hd (k p e R s m args below meth c H locs cells slots mc ms ls C S Wd hS hl h1 h2)
theorem sx_iload_n {i : Fin 4} {x : Int32} (hd : decode q.2.1 pc = .ok (.iload_n i, 1)) (hi : ((i : Nat), Value.int x) ∈ lo) (k : sx_J g q d (pc + 1) lo (.int x :: st) M bc bs P) : sx_J g q d (pc) lo (st) M bc bs P := by
  intro p e R s m args below meth c H locs cells slots mc ms ls C S Wd hS hl h1 h2
  exact lv_iload_n C.1 C.2.1 hd rfl (sx_ld hl hi) (k p e R s m args below meth c H locs cells slots mc ms ls C S Wd hS hl h1 h2)
theorem sx_iload {i : Nat} {x : Int32} (hd : decode q.2.1 pc = .ok (.iload i, 2)) (hi : (i, Value.int x) ∈ lo) (k : sx_J g q d (pc + 2) lo (.int x :: st) M bc bs P) : sx_J g q d (pc) lo (st) M bc bs P := by
  intro p e R s m args below meth c H locs cells slots mc ms ls C S Wd hS hl h1 h2
  exact lv_iload C.1 C.2.1 hd (sx_ld hl hi) (k p e R s m args below meth c H locs cells slots mc ms ls C S Wd hS hl h1 h2)
theorem sx_lload_n {i : Fin 4} {x : Int64} (hd : decode q.2.1 pc = .ok (.lload_n i, 1)) (hi : ((i : Nat), Value.long x) ∈ lo) (k : sx_J g q d (pc + 1) lo (.long x :: st) M bc bs P) : sx_J g q d (pc) lo (st) M bc bs P := by
  intro p e R s m args below meth c H locs cells slots mc ms ls C S Wd hS hl h1 h2
  exact lv_lload_n C.1 C.2.1 hd rfl (sx_ld hl hi) (k p e R s m args below meth c H locs cells slots mc ms ls C S Wd hS hl h1 h2)
theorem sx_lload {i : Nat} {x : Int64} (hd : decode q.2.1 pc = .ok (.lload i, 2)) (hi : (i, Value.long x) ∈ lo) (k : sx_J g q d (pc + 2) lo (.long x :: st) M bc bs P) : sx_J g q d (pc) lo (st) M bc bs P := by
  intro p e R s m args below meth c H locs cells slots mc ms ls C S Wd hS hl h1 h2
  exact lv_lload C.1 C.2.1 hd (sx_ld hl hi) (k p e R s m args below meth c H locs cells slots mc ms ls C S Wd hS hl h1 h2)
theorem sx_aload_n {i : Fin 4} {x : Nat} (hd : decode q.2.1 pc = .ok (.aload_n i, 1)) (hi : ((i : Nat), Value.ref x) ∈ lo) (k : sx_J g q d (pc + 1) lo (.ref x :: st) M bc bs P) : sx_J g q d (pc) lo (st) M bc bs P := by
  intro p e R s m args below meth c H locs cells slots mc ms ls C S Wd hS hl h1 h2
  exact lv_aload_n C.1 C.2.1 hd rfl (sx_ld hl hi) (k p e R s m args below meth c H locs cells slots mc ms ls C S Wd hS hl h1 h2)
theorem sx_aload {i : Nat} {x : Nat} (hd : decode q.2.1 pc = .ok (.aload i, 2)) (hi : (i, Value.ref x) ∈ lo) (k : sx_J g q d (pc + 2) lo (.ref x :: st) M bc bs P) : sx_J g q d (pc) lo (st) M bc bs P := by
  intro p e R s m args below meth c H locs cells slots mc ms ls C S Wd hS hl h1 h2
  exact lv_aload C.1 C.2.1 hd (sx_ld hl hi) (k p e R s m args below meth c H locs cells slots mc ms ls C S Wd hS hl h1 h2)
theorem sx_istore_n {i : Fin 4} {x : Int32} (hd : decode q.2.1 pc = .ok (.istore_n i, 1)) (hn : (i : Nat) < q.2.2.1) (hl0 : ((i : Nat), Value.int x) :: lo.filter (sx_d1 (i : Nat)) = lo') (k : sx_J g q d (pc + 1) lo' (st) M bc bs P) : sx_J g q d (pc) lo (.int x :: st) M bc bs P := by
  intro p e R s m args below meth c H locs cells slots mc ms ls C S Wd hS hl h1 h2
  subst hl0
  exact lv_istore_n C.1 C.2.1 hd rfl hl hn (sx_f1 (i : Nat) (.int x)) (fun ls hl => k p e R s m args below meth c H locs cells slots mc ms ls C S Wd hS hl h1 h2)
theorem sx_istore {i : Nat} {x : Int32} (hd : decode q.2.1 pc = .ok (.istore i, 2)) (hn : i < q.2.2.1) (hl0 : (i, Value.int x) :: lo.filter (sx_d1 i) = lo') (k : sx_J g q d (pc + 2) lo' (st) M bc bs P) : sx_J g q d (pc) lo (.int x :: st) M bc bs P := by
  intro p e R s m args below meth c H locs cells slots mc ms ls C S Wd hS hl h1 h2
  subst hl0
  exact lv_istore C.1 C.2.1 hd hl hn (sx_f1 i (.int x)) (fun ls hl => k p e R s m args below meth c H locs cells slots mc ms ls C S Wd hS hl h1 h2)
theorem sx_lstore_n {i : Fin 4} {x : Int64} (hd : decode q.2.1 pc = .ok (.lstore_n i, 1)) (hn : (i : Nat) + 1 < q.2.2.1) (hl0 : ((i : Nat), Value.long x) :: lo.filter (sx_d2 (i : Nat)) = lo') (k : sx_J g q d (pc + 1) lo' (st) M bc bs P) : sx_J g q d (pc) lo (.long x :: st) M bc bs P := by
  intro p e R s m args below meth c H locs cells slots mc ms ls C S Wd hS hl h1 h2
  subst hl0
  exact lv_lstore_n C.1 C.2.1 hd rfl hl hn (sx_f2 (i : Nat) (.long x)) (fun ls hl => k p e R s m args below meth c H locs cells slots mc ms ls C S Wd hS hl h1 h2)
theorem sx_lstore {i : Nat} {x : Int64} (hd : decode q.2.1 pc = .ok (.lstore i, 2)) (hn : i + 1 < q.2.2.1) (hl0 : (i, Value.long x) :: lo.filter (sx_d2 i) = lo') (k : sx_J g q d (pc + 2) lo' (st) M bc bs P) : sx_J g q d (pc) lo (.long x :: st) M bc bs P := by
  intro p e R s m args below meth c H locs cells slots mc ms ls C S Wd hS hl h1 h2
  subst hl0
  exact lv_lstore C.1 C.2.1 hd hl hn (sx_f2 i (.long x)) (fun ls hl => k p e R s m args below meth c H locs cells slots mc ms ls C S Wd hS hl h1 h2)
theorem sx_astore_n {i : Fin 4} {x : Nat} (hd : decode q.2.1 pc = .ok (.astore_n i, 1)) (hn : (i : Nat) < q.2.2.1) (hl0 : ((i : Nat), Value.ref x) :: lo.filter (sx_d1 (i : Nat)) = lo') (k : sx_J g q d (pc + 1) lo' (st) M bc bs P) : sx_J g q d (pc) lo (.ref x :: st) M bc bs P := by
  intro p e R s m args below meth c H locs cells slots mc ms ls C S Wd hS hl h1 h2
  subst hl0
  exact lv_astore_n C.1 C.2.1 hd rfl hl hn (sx_f1 (i : Nat) (.ref x)) (fun ls hl => k p e R s m args below meth c H locs cells slots mc ms ls C S Wd hS hl h1 h2)
theorem sx_astore {i : Nat} {x : Nat} (hd : decode q.2.1 pc = .ok (.astore i, 2)) (hn : i < q.2.2.1) (hl0 : (i, Value.ref x) :: lo.filter (sx_d1 i) = lo') (k : sx_J g q d (pc + 2) lo' (st) M bc bs P) : sx_J g q d (pc) lo (.ref x :: st) M bc bs P := by
  intro p e R s m args below meth c H locs cells slots mc ms ls C S Wd hS hl h1 h2
  subst hl0
  exact lv_astore C.1 C.2.1 hd hl hn (sx_f1 i (.ref x)) (fun ls hl => k p e R s m args below meth c H locs cells slots mc ms ls C S Wd hS hl h1 h2)
theorem sx_iinc {i : Nat} {n : Int} {x v : Int32} (hd : decode q.2.1 pc = .ok (.iinc i n, 3)) (hi : (i, Value.int x) ∈ lo) (hv : x + Int32.ofInt n = v) (hn : i < q.2.2.1) (hl0 : (i, Value.int v) :: lo.filter (sx_d1 i) = lo') (k : sx_J g q d (pc + 3) lo' (st) M bc bs P) : sx_J g q d (pc) lo (st) M bc bs P := by
  intro p e R s m args below meth c H locs cells slots mc ms ls C S Wd hS hl h1 h2
  subst hl0
  obtain ⟨j, hj⟩ := List.getElem?_of_mem (List.mem_map.mpr ⟨(i, Value.int x), hi, rfl⟩ : (i, sx_v g (.int x)) ∈ sx_lo g lo)
  exact lv_iinc C.1 C.2.1 hd hl hj hv hn (sx_f1 i (.int v)) (fun ls hl => k p e R s m args below meth c H locs cells slots mc ms ls C S Wd hS hl h1 h2)
theorem sx_iadd {x y : Int32} (hd : decode q.2.1 pc = .ok (.iadd, 1))  (k : sx_J g q d (pc + 1) lo (.int (x + y) :: st) M bc bs P) : sx_J g q d (pc) lo (.int y :: .int x :: st) M bc bs P := by
  intro p e R s m args below meth c H locs cells slots mc ms ls C S Wd hS hl h1 h2
  exact lv_iadd C.1 C.2.1 hd (k p e R s m args below meth c H locs cells slots mc ms ls C S Wd hS hl h1 h2)
theorem sx_isub {x y : Int32} (hd : decode q.2.1 pc = .ok (.isub, 1))  (k : sx_J g q d (pc + 1) lo (.int (x - y) :: st) M bc bs P) : sx_J g q d (pc) lo (.int y :: .int x :: st) M bc bs P := by
  intro p e R s m args below meth c H locs cells slots mc ms ls C S Wd hS hl h1 h2
  exact lv_isub C.1 C.2.1 hd (k p e R s m args below meth c H locs cells slots mc ms ls C S Wd hS hl h1 h2)
theorem sx_imul {x y : Int32} (hd : decode q.2.1 pc = .ok (.imul, 1))  (k : sx_J g q d (pc + 1) lo (.int (x * y) :: st) M bc bs P) : sx_J g q d (pc) lo (.int y :: .int x :: st) M bc bs P := by
  intro p e R s m args below meth c H locs cells slots mc ms ls C S Wd hS hl h1 h2
  exact lv_imul C.1 C.2.1 hd (k p e R s m args below meth c H locs cells slots mc ms ls C S Wd hS hl h1 h2)
theorem sx_iand {x y : Int32} (hd : decode q.2.1 pc = .ok (.iand, 1))  (k : sx_J g q d (pc + 1) lo (.int (x &&& y) :: st) M bc bs P) : sx_J g q d (pc) lo (.int y :: .int x :: st) M bc bs P := by
  intro p e R s m args below meth c H locs cells slots mc ms ls C S Wd hS hl h1 h2
  exact lv_iand C.1 C.2.1 hd (k p e R s m args below meth c H locs cells slots mc ms ls C S Wd hS hl h1 h2)
theorem sx_ior {x y : Int32} (hd : decode q.2.1 pc = .ok (.ior, 1))  (k : sx_J g q d (pc + 1) lo (.int (x ||| y) :: st) M bc bs P) : sx_J g q d (pc) lo (.int y :: .int x :: st) M bc bs P := by
  intro p e R s m args below meth c H locs cells slots mc ms ls C S Wd hS hl h1 h2
  exact lv_ior C.1 C.2.1 hd (k p e R s m args below meth c H locs cells slots mc ms ls C S Wd hS hl h1 h2)
theorem sx_ixor {x y : Int32} (hd : decode q.2.1 pc = .ok (.ixor, 1))  (k : sx_J g q d (pc + 1) lo (.int (x ^^^ y) :: st) M bc bs P) : sx_J g q d (pc) lo (.int y :: .int x :: st) M bc bs P := by
  intro p e R s m args below meth c H locs cells slots mc ms ls C S Wd hS hl h1 h2
  exact lv_ixor C.1 C.2.1 hd (k p e R s m args below meth c H locs cells slots mc ms ls C S Wd hS hl h1 h2)
theorem sx_ishl {x y : Int32} (hd : decode q.2.1 pc = .ok (.ishl, 1))  (k : sx_J g q d (pc + 1) lo (.int (x <<< (y &&& 31)) :: st) M bc bs P) : sx_J g q d (pc) lo (.int y :: .int x :: st) M bc bs P := by
  intro p e R s m args below meth c H locs cells slots mc ms ls C S Wd hS hl h1 h2
  exact lv_ishl C.1 C.2.1 hd (k p e R s m args below meth c H locs cells slots mc ms ls C S Wd hS hl h1 h2)
theorem sx_ishr {x y : Int32} (hd : decode q.2.1 pc = .ok (.ishr, 1))  (k : sx_J g q d (pc + 1) lo (.int (x >>> (y &&& 31)) :: st) M bc bs P) : sx_J g q d (pc) lo (.int y :: .int x :: st) M bc bs P := by
  intro p e R s m args below meth c H locs cells slots mc ms ls C S Wd hS hl h1 h2
  exact lv_ishr C.1 C.2.1 hd (k p e R s m args below meth c H locs cells slots mc ms ls C S Wd hS hl h1 h2)
theorem sx_idiv {x y : Int32} (hd : decode q.2.1 pc = .ok (.idiv, 1)) (hne : ¬ y = 0) (k : sx_J g q d (pc + 1) lo (.int (x / y) :: st) M bc bs P) : sx_J g q d (pc) lo (.int y :: .int x :: st) M bc bs P := by
  intro p e R s m args below meth c H locs cells slots mc ms ls C S Wd hS hl h1 h2
  exact lv_idiv C.1 C.2.1 hd hne (k p e R s m args below meth c H locs cells slots mc ms ls C S Wd hS hl h1 h2)
theorem sx_irem {x y : Int32} (hd : decode q.2.1 pc = .ok (.irem, 1)) (hne : ¬ y = 0) (k : sx_J g q d (pc + 1) lo (.int (x - x / y * y) :: st) M bc bs P) : sx_J g q d (pc) lo (.int y :: .int x :: st) M bc bs P := by
  intro p e R s m args below meth c H locs cells slots mc ms ls C S Wd hS hl h1 h2
  exact lv_irem C.1 C.2.1 hd hne (k p e R s m args below meth c H locs cells slots mc ms ls C S Wd hS hl h1 h2)
theorem sx_ineg {x : Int32} (hd : decode q.2.1 pc = .ok (.ineg, 1))  (k : sx_J g q d (pc + 1) lo (.int (-x) :: st) M bc bs P) : sx_J g q d (pc) lo (.int x :: st) M bc bs P := by
  intro p e R s m args below meth c H locs cells slots mc ms ls C S Wd hS hl h1 h2
  exact lv_ineg C.1 C.2.1 hd (k p e R s m args below meth c H locs cells slots mc ms ls C S Wd hS hl h1 h2)
theorem sx_ladd {x y : Int64} (hd : decode q.2.1 pc = .ok (.ladd, 1))  (k : sx_J g q d (pc + 1) lo (.long (x + y) :: st) M bc bs P) : sx_J g q d (pc) lo (.long y :: .long x :: st) M bc bs P := by
  intro p e R s m args below meth c H locs cells slots mc ms ls C S Wd hS hl h1 h2
  exact lv_ladd C.1 C.2.1 hd (k p e R s m args below meth c H locs cells slots mc ms ls C S Wd hS hl h1 h2)
theorem sx_lsub {x y : Int64} (hd : decode q.2.1 pc = .ok (.lsub, 1))  (k : sx_J g q d (pc + 1) lo (.long (x - y) :: st) M bc bs P) : sx_J g q d (pc) lo (.long y :: .long x :: st) M bc bs P := by
  intro p e R s m args below meth c H locs cells slots mc ms ls C S Wd hS hl h1 h2
  exact lv_lsub C.1 C.2.1 hd (k p e R s m args below meth c H locs cells slots mc ms ls C S Wd hS hl h1 h2)
theorem sx_lmul {x y : Int64} (hd : decode q.2.1 pc = .ok (.lmul, 1))  (k : sx_J g q d (pc + 1) lo (.long (x * y) :: st) M bc bs P) : sx_J g q d (pc) lo (.long y :: .long x :: st) M bc bs P := by
  intro p e R s m args below meth c H locs cells slots mc ms ls C S Wd hS hl h1 h2
  exact lv_lmul C.1 C.2.1 hd (k p e R s m args below meth c H locs cells slots mc ms ls C S Wd hS hl h1 h2)
theorem sx_land {x y : Int64} (hd : decode q.2.1 pc = .ok (.land, 1))  (k : sx_J g q d (pc + 1) lo (.long (x &&& y) :: st) M bc bs P) : sx_J g q d (pc) lo (.long y :: .long x :: st) M bc bs P := by
  intro p e R s m args below meth c H locs cells slots mc ms ls C S Wd hS hl h1 h2
  exact lv_land C.1 C.2.1 hd (k p e R s m args below meth c H locs cells slots mc ms ls C S Wd hS hl h1 h2)
theorem sx_lor {x y : Int64} (hd : decode q.2.1 pc = .ok (.lor, 1))  (k : sx_J g q d (pc + 1) lo (.long (x ||| y) :: st) M bc bs P) : sx_J g q d (pc) lo (.long y :: .long x :: st) M bc bs P := by
  intro p e R s m args below meth c H locs cells slots mc ms ls C S Wd hS hl h1 h2
  exact lv_lor C.1 C.2.1 hd (k p e R s m args below meth c H locs cells slots mc ms ls C S Wd hS hl h1 h2)
theorem sx_lxor {x y : Int64} (hd : decode q.2.1 pc = .ok (.lxor, 1))  (k : sx_J g q d (pc + 1) lo (.long (x ^^^ y) :: st) M bc bs P) : sx_J g q d (pc) lo (.long y :: .long x :: st) M bc bs P := by
  intro p e R s m args below meth c H locs cells slots mc ms ls C S Wd hS hl h1 h2
  exact lv_lxor C.1 C.2.1 hd (k p e R s m args below meth c H locs cells slots mc ms ls C S Wd hS hl h1 h2)
theorem sx_ldiv {x y : Int64} (hd : decode q.2.1 pc = .ok (.ldiv, 1)) (hne : ¬ y = 0) (k : sx_J g q d (pc + 1) lo (.long (x / y) :: st) M bc bs P) : sx_J g q d (pc) lo (.long y :: .long x :: st) M bc bs P := by
  intro p e R s m args below meth c H locs cells slots mc ms ls C S Wd hS hl h1 h2
  exact lv_ldiv C.1 C.2.1 hd hne (k p e R s m args below meth c H locs cells slots mc ms ls C S Wd hS hl h1 h2)
theorem sx_lrem {x y : Int64} (hd : decode q.2.1 pc = .ok (.lrem, 1)) (hne : ¬ y = 0) (k : sx_J g q d (pc + 1) lo (.long (x - x / y * y) :: st) M bc bs P) : sx_J g q d (pc) lo (.long y :: .long x :: st) M bc bs P := by
  intro p e R s m args below meth c H locs cells slots mc ms ls C S Wd hS hl h1 h2
  exact lv_lrem C.1 C.2.1 hd hne (k p e R s m args below meth c H locs cells slots mc ms ls C S Wd hS hl h1 h2)
theorem sx_lneg {x : Int64} (hd : decode q.2.1 pc = .ok (.lneg, 1))  (k : sx_J g q d (pc + 1) lo (.long (-x) :: st) M bc bs P) : sx_J g q d (pc) lo (.long x :: st) M bc bs P := by
  intro p e R s m args below meth c H locs cells slots mc ms ls C S Wd hS hl h1 h2
  exact lv_lneg C.1 C.2.1 hd (k p e R s m args below meth c H locs cells slots mc ms ls C S Wd hS hl h1 h2)
theorem sx_lshl {x : Int64} {y : Int32} (hd : decode q.2.1 pc = .ok (.lshl, 1))  (k : sx_J g q d (pc + 1) lo (.long (x <<< (y.toInt64 &&& 63)) :: st) M bc bs P) : sx_J g q d (pc) lo (.int y :: .long x :: st) M bc bs P := by
  intro p e R s m args below meth c H locs cells slots mc ms ls C S Wd hS hl h1 h2
  exact lv_lshl C.1 C.2.1 hd rfl (k p e R s m args below meth c H locs cells slots mc ms ls C S Wd hS hl h1 h2)
theorem sx_lshr {x : Int64} {y : Int32} (hd : decode q.2.1 pc = .ok (.lshr, 1))  (k : sx_J g q d (pc + 1) lo (.long (x >>> (y.toInt64 &&& 63)) :: st) M bc bs P) : sx_J g q d (pc) lo (.int y :: .long x :: st) M bc bs P := by
  intro p e R s m args below meth c H locs cells slots mc ms ls C S Wd hS hl h1 h2
  exact lv_lshr C.1 C.2.1 hd rfl (k p e R s m args below meth c H locs cells slots mc ms ls C S Wd hS hl h1 h2)
theorem sx_i2l {x : Int32} (hd : decode q.2.1 pc = .ok (.i2l, 1))  (k : sx_J g q d (pc + 1) lo (.long x.toInt64 :: st) M bc bs P) : sx_J g q d (pc) lo (.int x :: st) M bc bs P := by
  intro p e R s m args below meth c H locs cells slots mc ms ls C S Wd hS hl h1 h2
  exact lv_i2l C.1 C.2.1 hd rfl (k p e R s m args below meth c H locs cells slots mc ms ls C S Wd hS hl h1 h2)
theorem sx_l2i {x : Int64} (hd : decode q.2.1 pc = .ok (.l2i, 1))  (k : sx_J g q d (pc + 1) lo (.int x.toInt32 :: st) M bc bs P) : sx_J g q d (pc) lo (.long x :: st) M bc bs P := by
  intro p e R s m args below meth c H locs cells slots mc ms ls C S Wd hS hl h1 h2
  exact lv_l2i C.1 C.2.1 hd rfl (k p e R s m args below meth c H locs cells slots mc ms ls C S Wd hS hl h1 h2)
theorem sx_i2b {x : Int32} (hd : decode q.2.1 pc = .ok (.i2b, 1))  (k : sx_J g q d (pc + 1) lo (.int x.toInt8.toInt32 :: st) M bc bs P) : sx_J g q d (pc) lo (.int x :: st) M bc bs P := by
  intro p e R s m args below meth c H locs cells slots mc ms ls C S Wd hS hl h1 h2
  exact lv_i2b C.1 C.2.1 hd rfl (k p e R s m args below meth c H locs cells slots mc ms ls C S Wd hS hl h1 h2)
theorem sx_i2s {x : Int32} (hd : decode q.2.1 pc = .ok (.i2s, 1))  (k : sx_J g q d (pc + 1) lo (.int x.toInt16.toInt32 :: st) M bc bs P) : sx_J g q d (pc) lo (.int x :: st) M bc bs P := by
  intro p e R s m args below meth c H locs cells slots mc ms ls C S Wd hS hl h1 h2
  exact lv_i2s C.1 C.2.1 hd rfl (k p e R s m args below meth c H locs cells slots mc ms ls C S Wd hS hl h1 h2)
theorem sx_lcmp {x y : Int64} (hd : decode q.2.1 pc = .ok (.lcmp, 1))  (k : sx_J g q d (pc + 1) lo (.int (lg_cmp x y) :: st) M bc bs P) : sx_J g q d (pc) lo (.long y :: .long x :: st) M bc bs P := by
  intro p e R s m args below meth c H locs cells slots mc ms ls C S Wd hS hl h1 h2
  exact W.lcmp C.1 C.2.1 hd (k p e R s m args below meth c H locs cells slots mc ms ls C S Wd hS hl h1 h2)
theorem sx_dup {v : Value} (hd : decode q.2.1 pc = .ok (.dup, 1)) (hc : v.category = 1) (k : sx_J g q d (pc + 1) lo (v :: v :: st) M bc bs P) : sx_J g q d (pc) lo (v :: st) M bc bs P := by
  intro p e R s m args below meth c H locs cells slots mc ms ls C S Wd hS hl h1 h2
  exact lv_dup C.1 C.2.1 hd ((sx_v_cat g v).trans hc) (k p e R s m args below meth c H locs cells slots mc ms ls C S Wd hS hl h1 h2)
theorem sx_pop {v : Value} (hd : decode q.2.1 pc = .ok (.pop, 1)) (hc : v.category = 1) (k : sx_J g q d (pc + 1) lo (st) M bc bs P) : sx_J g q d (pc) lo (v :: st) M bc bs P := by
  intro p e R s m args below meth c H locs cells slots mc ms ls C S Wd hS hl h1 h2
  exact lv_pop C.1 C.2.1 hd ((sx_v_cat g v).trans hc) (k p e R s m args below meth c H locs cells slots mc ms ls C S Wd hS hl h1 h2)
theorem sx_pop22 {v : Value} (hd : decode q.2.1 pc = .ok (.pop2, 1)) (hc : v.category = 2) (k : sx_J g q d (pc + 1) lo (st) M bc bs P) : sx_J g q d (pc) lo (v :: st) M bc bs P := by
  intro p e R s m args below meth c H locs cells slots mc ms ls C S Wd hS hl h1 h2
  exact lv_pop2_2 C.1 C.2.1 hd ((sx_v_cat g v).trans hc) (k p e R s m args below meth c H locs cells slots mc ms ls C S Wd hS hl h1 h2)
theorem sx_dup2 {v w : Value} (hd : decode q.2.1 pc = .ok (.dup2, 1)) (hc : v.category = 1) (hc2 : w.category = 1) (k : sx_J g q d (pc + 1) lo (v :: w :: v :: w :: st) M bc bs P) : sx_J g q d (pc) lo (v :: w :: st) M bc bs P := by
  intro p e R s m args below meth c H locs cells slots mc ms ls C S Wd hS hl h1 h2
  exact lv_dup2_11 C.1 C.2.1 hd ((sx_v_cat g v).trans hc) ((sx_v_cat g w).trans hc2) (k p e R s m args below meth c H locs cells slots mc ms ls C S Wd hS hl h1 h2)
theorem sx_dup22 {v : Value} (hd : decode q.2.1 pc = .ok (.dup2, 1)) (hc : v.category = 2) (k : sx_J g q d (pc + 1) lo (v :: v :: st) M bc bs P) : sx_J g q d (pc) lo (v :: st) M bc bs P := by
  intro p e R s m args below meth c H locs cells slots mc ms ls C S Wd hS hl h1 h2
  exact lv_dup2_2 C.1 C.2.1 hd ((sx_v_cat g v).trans hc) (k p e R s m args below meth c H locs cells slots mc ms ls C S Wd hS hl h1 h2)
theorem sx_if_eq {x : Int32} {off : Int} {tgt : Nat} (hd : decode q.2.1 pc = .ok (.ifCond .eq off, 3)) (ht : (pc : Int) + off = (tgt : Int)) (kt : x = 0 → sx_J g q d (tgt) lo (st) M bc bs P) (kf : ¬ x = 0 → sx_J g q d (pc + 3) lo (st) M bc bs P) : sx_J g q d (pc) lo (.int x :: st) M bc bs P := by
  intro p e R s m args below meth c H locs cells slots mc ms ls C S Wd hS hl h1 h2
  exact lv_if_eq C.1 C.2.1 hd ht (fun hc => kt hc p e R s m args below meth c H locs cells slots mc ms ls C S Wd hS hl h1 h2) (fun hc => kf hc p e R s m args below meth c H locs cells slots mc ms ls C S Wd hS hl h1 h2)
theorem sx_if_ne {x : Int32} {off : Int} {tgt : Nat} (hd : decode q.2.1 pc = .ok (.ifCond .ne off, 3)) (ht : (pc : Int) + off = (tgt : Int)) (kt : ¬ x = 0 → sx_J g q d (tgt) lo (st) M bc bs P) (kf : x = 0 → sx_J g q d (pc + 3) lo (st) M bc bs P) : sx_J g q d (pc) lo (.int x :: st) M bc bs P := by
  intro p e R s m args below meth c H locs cells slots mc ms ls C S Wd hS hl h1 h2
  exact lv_if_ne C.1 C.2.1 hd ht (fun hc => kt hc p e R s m args below meth c H locs cells slots mc ms ls C S Wd hS hl h1 h2) (fun hc => kf hc p e R s m args below meth c H locs cells slots mc ms ls C S Wd hS hl h1 h2)
theorem sx_if_lt {x : Int32} {off : Int} {tgt : Nat} (hd : decode q.2.1 pc = .ok (.ifCond .lt off, 3)) (ht : (pc : Int) + off = (tgt : Int)) (kt : x < 0 → sx_J g q d (tgt) lo (st) M bc bs P) (kf : ¬ x < 0 → sx_J g q d (pc + 3) lo (st) M bc bs P) : sx_J g q d (pc) lo (.int x :: st) M bc bs P := by
  intro p e R s m args below meth c H locs cells slots mc ms ls C S Wd hS hl h1 h2
  exact lv_if_lt C.1 C.2.1 hd ht (fun hc => kt hc p e R s m args below meth c H locs cells slots mc ms ls C S Wd hS hl h1 h2) (fun hc => kf hc p e R s m args below meth c H locs cells slots mc ms ls C S Wd hS hl h1 h2)
theorem sx_if_ge {x : Int32} {off : Int} {tgt : Nat} (hd : decode q.2.1 pc = .ok (.ifCond .ge off, 3)) (ht : (pc : Int) + off = (tgt : Int)) (kt : 0 ≤ x → sx_J g q d (tgt) lo (st) M bc bs P) (kf : ¬ 0 ≤ x → sx_J g q d (pc + 3) lo (st) M bc bs P) : sx_J g q d (pc) lo (.int x :: st) M bc bs P := by
  intro p e R s m args below meth c H locs cells slots mc ms ls C S Wd hS hl h1 h2
  exact lv_if_ge C.1 C.2.1 hd ht (fun hc => kt hc p e R s m args below meth c H locs cells slots mc ms ls C S Wd hS hl h1 h2) (fun hc => kf hc p e R s m args below meth c H locs cells slots mc ms ls C S Wd hS hl h1 h2)
theorem sx_if_gt {x : Int32} {off : Int} {tgt : Nat} (hd : decode q.2.1 pc = .ok (.ifCond .gt off, 3)) (ht : (pc : Int) + off = (tgt : Int)) (kt : 0 < x → sx_J g q d (tgt) lo (st) M bc bs P) (kf : ¬ 0 < x → sx_J g q d (pc + 3) lo (st) M bc bs P) : sx_J g q d (pc) lo (.int x :: st) M bc bs P := by
  intro p e R s m args below meth c H locs cells slots mc ms ls C S Wd hS hl h1 h2
  exact lv_if_gt C.1 C.2.1 hd ht (fun hc => kt hc p e R s m args below meth c H locs cells slots mc ms ls C S Wd hS hl h1 h2) (fun hc => kf hc p e R s m args below meth c H locs cells slots mc ms ls C S Wd hS hl h1 h2)
theorem sx_if_le {x : Int32} {off : Int} {tgt : Nat} (hd : decode q.2.1 pc = .ok (.ifCond .le off, 3)) (ht : (pc : Int) + off = (tgt : Int)) (kt : x ≤ 0 → sx_J g q d (tgt) lo (st) M bc bs P) (kf : ¬ x ≤ 0 → sx_J g q d (pc + 3) lo (st) M bc bs P) : sx_J g q d (pc) lo (.int x :: st) M bc bs P := by
  intro p e R s m args below meth c H locs cells slots mc ms ls C S Wd hS hl h1 h2
  exact lv_if_le C.1 C.2.1 hd ht (fun hc => kt hc p e R s m args below meth c H locs cells slots mc ms ls C S Wd hS hl h1 h2) (fun hc => kf hc p e R s m args below meth c H locs cells slots mc ms ls C S Wd hS hl h1 h2)
theorem sx_icmp_eq {x y : Int32} {off : Int} {tgt : Nat} (hd : decode q.2.1 pc = .ok (.if_icmp .eq off, 3)) (ht : (pc : Int) + off = (tgt : Int)) (kt : x = y → sx_J g q d (tgt) lo (st) M bc bs P) (kf : ¬ x = y → sx_J g q d (pc + 3) lo (st) M bc bs P) : sx_J g q d (pc) lo (.int y :: .int x :: st) M bc bs P := by
  intro p e R s m args below meth c H locs cells slots mc ms ls C S Wd hS hl h1 h2
  exact lv_icmp_eq C.1 C.2.1 hd ht (fun hc => kt hc p e R s m args below meth c H locs cells slots mc ms ls C S Wd hS hl h1 h2) (fun hc => kf hc p e R s m args below meth c H locs cells slots mc ms ls C S Wd hS hl h1 h2)
theorem sx_icmp_ne {x y : Int32} {off : Int} {tgt : Nat} (hd : decode q.2.1 pc = .ok (.if_icmp .ne off, 3)) (ht : (pc : Int) + off = (tgt : Int)) (kt : ¬ x = y → sx_J g q d (tgt) lo (st) M bc bs P) (kf : x = y → sx_J g q d (pc + 3) lo (st) M bc bs P) : sx_J g q d (pc) lo (.int y :: .int x :: st) M bc bs P := by
  intro p e R s m args below meth c H locs cells slots mc ms ls C S Wd hS hl h1 h2
  exact lv_icmp_ne C.1 C.2.1 hd ht (fun hc => kt hc p e R s m args below meth c H locs cells slots mc ms ls C S Wd hS hl h1 h2) (fun hc => kf hc p e R s m args below meth c H locs cells slots mc ms ls C S Wd hS hl h1 h2)
theorem sx_icmp_lt {x y : Int32} {off : Int} {tgt : Nat} (hd : decode q.2.1 pc = .ok (.if_icmp .lt off, 3)) (ht : (pc : Int) + off = (tgt : Int)) (kt : x < y → sx_J g q d (tgt) lo (st) M bc bs P) (kf : ¬ x < y → sx_J g q d (pc + 3) lo (st) M bc bs P) : sx_J g q d (pc) lo (.int y :: .int x :: st) M bc bs P := by
  intro p e R s m args below meth c H locs cells slots mc ms ls C S Wd hS hl h1 h2
  exact lv_icmp_lt C.1 C.2.1 hd ht (fun hc => kt hc p e R s m args below meth c H locs cells slots mc ms ls C S Wd hS hl h1 h2) (fun hc => kf hc p e R s m args below meth c H locs cells slots mc ms ls C S Wd hS hl h1 h2)
theorem sx_icmp_ge {x y : Int32} {off : Int} {tgt : Nat} (hd : decode q.2.1 pc = .ok (.if_icmp .ge off, 3)) (ht : (pc : Int) + off = (tgt : Int)) (kt : y ≤ x → sx_J g q d (tgt) lo (st) M bc bs P) (kf : ¬ y ≤ x → sx_J g q d (pc + 3) lo (st) M bc bs P) : sx_J g q d (pc) lo (.int y :: .int x :: st) M bc bs P := by
  intro p e R s m args below meth c H locs cells slots mc ms ls C S Wd hS hl h1 h2
  exact lv_icmp_ge C.1 C.2.1 hd ht (fun hc => kt hc p e R s m args below meth c H locs cells slots mc ms ls C S Wd hS hl h1 h2) (fun hc => kf hc p e R s m args below meth c H locs cells slots mc ms ls C S Wd hS hl h1 h2)
theorem sx_icmp_gt {x y : Int32} {off : Int} {tgt : Nat} (hd : decode q.2.1 pc = .ok (.if_icmp .gt off, 3)) (ht : (pc : Int) + off = (tgt : Int)) (kt : y < x → sx_J g q d (tgt) lo (st) M bc bs P) (kf : ¬ y < x → sx_J g q d (pc + 3) lo (st) M bc bs P) : sx_J g q d (pc) lo (.int y :: .int x :: st) M bc bs P := by
  intro p e R s m args below meth c H locs cells slots mc ms ls C S Wd hS hl h1 h2
  exact lv_icmp_gt C.1 C.2.1 hd ht (fun hc => kt hc p e R s m args below meth c H locs cells slots mc ms ls C S Wd hS hl h1 h2) (fun hc => kf hc p e R s m args below meth c H locs cells slots mc ms ls C S Wd hS hl h1 h2)
theorem sx_icmp_le {x y : Int32} {off : Int} {tgt : Nat} (hd : decode q.2.1 pc = .ok (.if_icmp .le off, 3)) (ht : (pc : Int) + off = (tgt : Int)) (kt : x ≤ y → sx_J g q d (tgt) lo (st) M bc bs P) (kf : ¬ x ≤ y → sx_J g q d (pc + 3) lo (st) M bc bs P) : sx_J g q d (pc) lo (.int y :: .int x :: st) M bc bs P := by
  intro p e R s m args below meth c H locs cells slots mc ms ls C S Wd hS hl h1 h2
  exact lv_icmp_le C.1 C.2.1 hd ht (fun hc => kt hc p e R s m args below meth c H locs cells slots mc ms ls C S Wd hS hl h1 h2) (fun hc => kf hc p e R s m args below meth c H locs cells slots mc ms ls C S Wd hS hl h1 h2)
theorem sx_goto {off : Int} {tgt : Nat} (hd : decode q.2.1 pc = .ok (.goto off, 3)) (ht : (pc : Int) + off = (tgt : Int)) (k : sx_J g q d (tgt) lo (st) M bc bs P) : sx_J g q d (pc) lo (st) M bc bs P := by
  intro p e R s m args below meth c H locs cells slots mc ms ls C S Wd hS hl h1 h2
  exact lv_goto C.1 C.2.1 hd ht (k p e R s m args below meth c H locs cells slots mc ms ls C S Wd hS hl h1 h2)
theorem sx_iret {x : Int32} (hd : decode q.2.1 pc = .ok (.ireturn, 1)) (hr : q.2.2.2 = some .int) (h : P (some (.int x)) M) : sx_J g q d (pc) lo (.int x :: []) M bc bs P := by
  intro p e R s m args below meth c H locs cells slots mc ms ls C S Wd hS hl h1 h2
  refine W.widen (k := mc) (n := ms) (by omega) (by omega) ?_
  exact W.iret C.1 C.2.1 (C.2.2.1.trans hr) (fun t ht hw => ⟨⟨some (.int x), M, rfl, h, by rw [ht]; exact Wd.alike hw.alike⟩, hS.F ht⟩) hS.2.2 hd C.2.2.2.2.2.2.1
theorem sx_zret {x : Int32} {ty : FieldType} (hd : decode q.2.1 pc = .ok (.ireturn, 1)) (hr : q.2.2.2 = some ty) (hn : narrow ty (.int x) = .int x) (h : P (some (.int x)) M) : sx_J g q d (pc) lo (.int x :: []) M bc bs P := by
  intro p e R s m args below meth c H locs cells slots mc ms ls C S Wd hS hl h1 h2
  refine W.widen (k := mc) (n := ms) (by omega) (by omega) ?_
  exact W.zret C.1 C.2.1 (C.2.2.1.trans hr) hn (fun t ht hw => ⟨⟨some (.int x), M, rfl, h, by rw [ht]; exact Wd.alike hw.alike⟩, hS.F ht⟩) hS.2.2 hd C.2.2.2.2.2.2.1
theorem sx_lret {x : Int64} (hd : decode q.2.1 pc = .ok (.lreturn, 1)) (hr : q.2.2.2 = some .long) (h : P (some (.long x)) M) : sx_J g q d (pc) lo (.long x :: []) M bc bs P := by
  intro p e R s m args below meth c H locs cells slots mc ms ls C S Wd hS hl h1 h2
  refine W.widen (k := mc) (n := ms) (by omega) (by omega) ?_
  exact W.lret C.1 C.2.1 (C.2.2.1.trans hr) (fun t ht hw => ⟨⟨some (.long x), M, rfl, h, by rw [ht]; exact Wd.alike hw.alike⟩, hS.F ht⟩) hS.2.2 hd C.2.2.2.2.2.2.1
theorem sx_aret {x : Nat} {n : String} (hd : decode q.2.1 pc = .ok (.areturn, 1)) (hr : q.2.2.2 = some (.object n)) (h : P (some (.ref x)) M) : sx_J g q d (pc) lo (.ref x :: []) M bc bs P := by
  intro p e R s m args below meth c H locs cells slots mc ms ls C S Wd hS hl h1 h2
  refine W.widen (k := mc) (n := ms) (by omega) (by omega) ?_
  exact W.aret C.1 C.2.1 (C.2.2.1.trans hr) (Or.inl ⟨n, rfl⟩) (Or.inr ⟨_, rfl⟩) (fun t ht hw => ⟨⟨some (.ref x), M, rfl, h, by rw [ht]; exact Wd.alike hw.alike⟩, hS.F ht⟩) hS.2.2 hd C.2.2.2.2.2.2.1
theorem sx_vret (hd : decode q.2.1 pc = .ok (.return_, 1)) (hr : q.2.2.2 = none) (h : P none M) : sx_J g q d (pc) lo ([]) M bc bs P := by
  intro p e R s m args below meth c H locs cells slots mc ms ls C S Wd hS hl h1 h2
  refine W.widen (k := mc) (n := ms) (by omega) (by omega) ?_
  exact W.vret C.1 C.2.1 (C.2.2.1.trans hr) (fun t ht hw => ⟨⟨none, M, rfl, h, by rw [ht]; exact Wd.alike hw.alike⟩, hS.F ht⟩) hS.2.2 hd C.2.2.2.2.2.2.1
end SX
