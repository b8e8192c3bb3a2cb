section
/-! THE JUDGEMENT sx_J: a frame of numbers (locals lo, stack st, memory M) of the method q comes to its end, and P holds of the answer and of the memory. It hides the machine: the kit's W, the heap, the tables' words. -/
/-- a method: name, code, number of locals, type of the answer -/
abbrev sx_Y : Type := MethodName × ByteArray × Nat × Option FieldType
/-- memory: number of cells; ints, longs, references by cell and place -/
abbrev sx_M : Type := Nat × (Nat → Nat → Int32) × (Nat → Nat → Int64) × (Nat → Nat → Option Nat)
/-- launch; class numbers and slots; array classes; the first cell of ours; the outer cells; what each cell is -/
abbrev sx_G : Type := Launch × va_G × (Nat → ClassId) × Nat × (Nat → Nat) × (Nat → Nat ⊕ (Nat × Nat))
def sx_ad (g : sx_G) (a : Nat) : Nat := if a < 1000 then g.2.2.2.1 + a else g.2.2.2.2.1 a
def sx_v (g : sx_G) (v : Value) : Value := match v with
  | .ref a => .ref (sx_ad g a)
  | .int x => .int x
  | .long x => .long x
  | .float x => .float x
  | .double x => .double x
  | .null => .null
  | .retAddr x => .retAddr x
theorem sx_v_cat (g : sx_G) (v : Value) : (sx_v g v).category = v.category := by cases v <;> rfl
theorem sx_v_rf (g : sx_G) (r : Option Nat) : sx_v g (va_rf r) = va_rf (r.map (sx_ad g)) := by cases r <;> rfl
def sx_ty (ci : Nat) : Nat → FieldType := match ci with
  | 0 => tyX0
  | 1 => tyX1
  | 2 => tyX2
  | 3 => tyX3
  | 4 => tyX4
  | 5 => tyX5
  | 6 => tyX6
  | 7 => tyX7
  | 8 => tyX8
  | 9 => tyX9
  | 10 => tyX10
  | 11 => tyX11
  | 12 => tyX12
  | _ => fun _ => .int
def sx_fv (ty : FieldType) (M : sx_M) (a k : Nat) : Value := match ty with
  | .long => .long (M.2.2.1 a k)
  | .array _ => va_rf (M.2.2.2 a k)
  | .object _ => va_rf (M.2.2.2 a k)
  | .float => .float 0
  | .double => .double 0
  | _ => .int (M.2.1 a k)
def sx_av (t : Nat) (M : sx_M) (a j : Nat) : Value := match t with
  | 3 => .long (M.2.2.1 a j)
  | 4 => va_rf (M.2.2.2 a j)
  | 5 => va_rf (M.2.2.2 a j)
  | _ => .int (M.2.1 a j)
def sx_tt (t : Nat) : FieldType := match t with
  | 0 => .int
  | 1 => .byte
  | 2 => .boolean
  | 3 => .long
  | 4 => .array .int
  | _ => .object "HintHouse$Points"
def sx_at (g : sx_G) (M : sx_M) (a : Nat) (H : Heap) : Prop := match g.2.2.2.2.2 a with
  | .inl ci => ∃ r : vw_C, vwCl[ci]? = some r ∧ t_OB (sx_ad g a) (g.2.1.1 ci) r.2.2 (g.2.1.2 ci) H (fun k => sx_v g (sx_fv (sx_ty ci k) M a k))
  | .inr x => H[sx_ad g a]? = some (arrV (g.2.2.1 x.1) x.2 (fun j => sx_v g (sx_av x.1 M a j)))
def sx_A (g : sx_G) : Nat → Prop := fun q => g.2.2.2.1 ≤ q
/-- the static arrays: class, name, descriptor -/
def sx_st : List (String × String × String) := [("HintHouse", "TAGS", "[I"), ("HintHouse", "LIMIT_PLACES", "[I"), ("HintHouse", "KEPT_AT_FIRST", "[I"), ("HintHouse", "LIMIT_LEASTS", "[I"), ("HintHouse", "LIMIT_MOSTS", "[I"), ("HintHouse", "TAKES", "[I"), ("HintHouse", "GROUPS", "[I")]
def sx_X (g : sx_G) (M : sx_M) (s : State) (H : Heap) : Prop :=
  (∀ a n, g.2.2.2.2.2 a = .inr (9, n) → 1000 ≤ a ∧ sx_ad g a < g.2.2.2.1 ∧ ∃ cell : Cell, H[sx_ad g a]? = some cell ∧ s.isArrayOf cell .int ∧ cell.vm ≠ .unknown ∧ n ≤ cell.slots.size ∧ cell.slots.size.toInt32 = Int32.ofNat n ∧ ∀ j, j < n → cell.slots[j]? = some (.int (M.2.1 a j))) ∧
  ∀ j z, sx_st[j]? = some z → va_Z z.1 z.2.1 z.2.2 (.ref (sx_ad g (1001 + j))) (sx_A g) s H
def sx_W (g : sx_G) (M : sx_M) (s : State) (H : Heap) : Prop :=
  H.size = g.2.2.2.1 + M.1 ∧ M.1 ≤ 1000 ∧ (∀ a, a < M.1 → sx_at g M a H) ∧ sx_X g M s H
def sx_AOA (U : State) : Prop := (Cond.arrayOver (.array .int)).before #[] U = true
theorem sx_AOA.moved {u U : State} (hvm : u.vm.Alike U.vm) (h : sx_AOA u) : sx_AOA U := by
  obtain ⟨comp, c, k, h1, h2, h3, h4, h5⟩ := arrayOverA_spec h
  obtain ⟨k', hk', he⟩ := hvm.2.2 _ _ h3
  have hi : (U.vm.classes.findIdx? fun (x : Class) => match x.kind with | .array component _ => component == comp | _ => false) = some c := by
    rw [hvm.findIdx?_eq _ (fun _ => rfl)]
    exact h2
  have hkind : k'.kind = .array comp (.array .int) := by rw [he]; exact h4
  have f1 : U.vm.findClass (FieldType.array .int).toString = some comp := by rw [hvm.findClass]; exact h1
  have f2 : U.vm.findClass ("[" ++ (FieldType.array .int).toString) = some c := by rw [hvm.findClass]; exact h5
  unfold sx_AOA Cond.before Cond.holds
  simp only [Cond.value]
  rw [f1, Option.bind_some]
  refine (congrArg (fun o : Option Nat => (o.bind (fun c => (U.vm.classes[c]?).map fun (k : Class) => match k.kind with | .array _ ty => decide (ty = FieldType.array .int) && decide (U.vm.findClass ("[" ++ (FieldType.array .int).toString) = some c) | _ => false) == some true)) hi).trans ?_
  simp [hk', hkind, f2]
def sx_S (g : sx_G) (s : State) : Prop :=
  (∀ (c : Nat) (r : vw_C), vwCl[c]? = some r → u_Kn s r.1 r.2.1 r.2.2 (g.2.1.1 c) (g.2.1.2 c)) ∧ (∀ t, t < 6 → ArrOfT s (g.2.2.1 t) (sx_tt t) ∧ va_RA s (g.2.2.1 t) (sx_tt t)) ∧ (∀ w ∈ lw_nest, va_Nw w s) ∧ va_AO "HintHouse$Points" s ∧ sx_AOA s
theorem lw_nest_warm {s U : State} (hW : s.WarmedH U.vm) : ∀ w ∈ lw_nest, va_Nw w s → va_Nw w U := by
  intro w hw
  simp only [lw_nest, List.mem_cons, List.not_mem_nil, or_false] at hw
  rcases hw with rfl | rfl | rfl | rfl | rfl | rfl | rfl | rfl | rfl | rfl | rfl | rfl | rfl | rfl | rfl | rfl | rfl | rfl | rfl | rfl | rfl | rfl <;> intro h <;> first | exact va_Nw.warmF hW h | exact va_Nw.warmM hW h
theorem lw_nest_tab : ∀ w ∈ lw_nest, w.onTables = true := by
  intro w hw
  simp only [lw_nest, List.mem_cons, List.not_mem_nil, or_false] at hw
  rcases hw with rfl | rfl | rfl | rfl | rfl | rfl | rfl | rfl | rfl | rfl | rfl | rfl | rfl | rfl | rfl | rfl | rfl | rfl | rfl | rfl | rfl | rfl <;> rfl
theorem sx_S.warm {g : sx_G} {s U : State} (hW : s.WarmedH U.vm) (h : sx_S g s) : sx_S g U :=
  ⟨fun c r hr => u_Kn_moved hW.alike (h.1 c r hr), fun t ht => ⟨arrOfT_moved hW.alike (h.2.1 t ht).1, (h.2.1 t ht).2.moved hW.alike⟩, fun w hw => lw_nest_warm hW w hw (h.2.2.1 w hw), h.2.2.2.1.moved hW.alike, h.2.2.2.2.moved hW.alike⟩
theorem sx_S.call {g : sx_G} {U : State} (f : JFrame) (mk : MethodId) (a : Array Value) (h : sx_S g U) : sx_S g (U.calling f mk a) :=
  ⟨fun c r hr => u_Kn_moved (Vm.Alike.refl U.vm) (h.1 c r hr), fun t ht => ⟨arrOfT_moved (u := U) (E := U.calling f mk a) (Vm.Alike.refl U.vm) (h.2.1 t ht).1, va_RA.moved (u := U) (U := U.calling f mk a) (Vm.Alike.refl U.vm) (h.2.1 t ht).2⟩, fun w hw => va_Nw.same (lw_nest_tab w hw) (u := U) (U := U.calling f mk a) rfl (h.2.2.1 w hw), va_AO.moved (u := U) (U := U.calling f mk a) (Vm.Alike.refl U.vm) h.2.2.2.1, sx_AOA.moved (u := U) (U := U.calling f mk a) (Vm.Alike.refl U.vm) h.2.2.2.2⟩
theorem sx_W.alike {g : sx_G} {M : sx_M} {s U : State} {H : Heap} (hvm : s.vm.Alike U.vm) (h : sx_W g M s H) : sx_W g M U H := by
  obtain ⟨h1, h2, h3, h4, h5⟩ := h
  refine ⟨h1, h2, h3, fun a n ha => ?_, fun j z hz => (h5 j z hz).moved hvm⟩
  obtain ⟨b1, b2, cell, c1, c2, c3⟩ := h4 a n ha
  exact ⟨b1, b2, cell, c1, State.isArrayOf_alike hvm c2, c3⟩
def sx_C (q : sx_Y) (d : Nat) (p : Program) (R : Room) (s : State) (m : MethodId) (args : Array Value) (meth : Method) (c : Code) (mc ms : Nat) : Prop :=
  p.tables.exec = Jvm.exec ∧ c.code = q.2.1 ∧ meth.sig.returnType = q.2.2.2 ∧ c.maxLocals = q.2.2.1 ∧ (∀ w ∈ lw_good, w.before args s = true) ∧ s.vm.findClass q.1.cls = some m.cls ∧ meth.locks = false ∧ (q.1.name = "<init>" → meth.name = "<init>") ∧ d ≤ R.frames ∧ 100 * d ≤ R.locals ∧ mc ≤ R.cells ∧ ms ≤ R.slots
def sx_Q (g : sx_G) (P : Option Value → sx_M → Prop) : Array Value → State → Outcome → State → Prop := fun _ st o t =>
  (∃ (r : Option Value) (M' : sx_M), o = .returned (r.map (sx_v g)) ∧ P r M' ∧ sx_W g M' t t.heap) ∧ va_F (sx_A g) st t
def sx_lo (g : sx_G) (lo : List (Nat × Value)) : List (Nat × Value) := lo.map fun x => (x.1, sx_v g x.2)
def sx_J (g : sx_G) (q : sx_Y) (d pc : Nat) (lo : List (Nat × Value)) (st : List Value) (M : sx_M) (bc bs : Nat) (P : Option Value → sx_M → Prop) : Prop :=
  ∀ (p : Program) (e : Env) (R : Room) (s : State) (m : MethodId) (args : Array Value) (below : List Frame) (meth : Method) (c : Code) (H : Heap) (locs : List Loc) (cells slots mc ms : Nat) (ls : Array Slot),
    sx_C q d p R s m args meth c mc ms → sx_S g s → sx_W g M s H → va_S (sx_A g) s.heap H locs → lv_has ls q.2.2.1 (sx_lo g lo) → cells + bc ≤ mc → slots + bs ≤ ms →
      W p g.1 e R s m args below meth c H locs cells slots (MQ below (sx_Q g P) args s mc ms (sx_A g)) (F0 m pc ls (st.map (sx_v g)))
section SX
variable {g : sx_G} {q : sx_Y} {d pc : Nat} {lo lo' : List (Nat × Value)} {st : List Value} {M : sx_M} {bc bs : Nat} {P : Option Value → sx_M → Prop}
/-- a local's value -/
theorem sx_ld {ls : Array Slot} {n i : Nat} {v : Value} (h : lv_has ls n (sx_lo g lo)) (hi : (i, v) ∈ lo) : ls[i]? = some (.val (sx_v g v)) :=
  h.2.2 (i, sx_v g v) (List.mem_map.mpr ⟨(i, v), hi, rfl⟩)
def sx_d1 (i : Nat) (x : Nat × Value) : Bool := !(x.1 == i) && !(x.1 + 1 == i && x.2.category == 2)
def sx_d2 (i : Nat) (x : Nat × Value) : Bool := !(x.1 == i) && (!(x.1 == i + 1) && !(x.1 + 1 == i && x.2.category == 2))
theorem sx_f1 (i : Nat) (v : Value) : (i, sx_v g v) :: (sx_lo g lo).filter (fun q => !(q.1 == i) && !(q.1 + 1 == i && q.2.category == 2)) = sx_lo g ((i, v) :: lo.filter (sx_d1 i)) := by
  unfold sx_lo
  rw [List.map_cons, List.filter_map]
  congr 2
  refine List.filter_congr fun x _ => ?_
  simp [Function.comp, sx_d1, sx_v_cat]
theorem sx_f2 (i : Nat) (v : Value) : (i, sx_v g v) :: (sx_lo g lo).filter (fun q => !(q.1 == i) && (!(q.1 == i + 1) && !(q.1 + 1 == i && q.2.category == 2))) = sx_lo g ((i, v) :: lo.filter (sx_d2 i)) := by
  unfold sx_lo
  rw [List.map_cons, List.filter_map]
  congr 2
  refine List.filter_congr fun x _ => ?_
  simp [Function.comp, sx_d2, sx_v_cat]
theorem sx_iconst {n : Int} {v : Int32} (hd : decode q.2.1 pc = .ok (.iconst n, 1)) (hv : Int32.ofInt n = v) (k : sx_J g q d (pc + 1) lo (.int v :: st) M bc bs P) : sx_J g q d (pc) lo (st) M bc bs P := by
  intro p e R s m args below meth c H locs cells slots mc ms ls C S Wd hS hl h1 h2
  exact lv_iconst C.1 C.2.1 hd hv (k p e R s m args below meth c H locs cells slots mc ms ls C S Wd hS hl h1 h2)
theorem sx_bipush {n : Int} {v : Int32} (hd : decode q.2.1 pc = .ok (.bipush n, 2)) (hv : (Int8.ofInt n).toInt32 = v) (k : sx_J g q d (pc + 2) lo (.int v :: st) M bc bs P) : sx_J g q d (pc) lo (st) M bc bs P := by
  intro p e R s m args below meth c H locs cells slots mc ms ls C S Wd hS hl h1 h2
  exact lv_bipush C.1 C.2.1 hd hv (k p e R s m args below meth c H locs cells slots mc ms ls C S Wd hS hl h1 h2)
theorem sx_sipush {n : Int} {v : Int32} (hd : decode q.2.1 pc = .ok (.sipush n, 3)) (hv : (Int16.ofInt n).toInt32 = v) (k : sx_J g q d (pc + 3) lo (.int v :: st) M bc bs P) : sx_J g q d (pc) lo (st) M bc bs P := by
  intro p e R s m args below meth c H locs cells slots mc ms ls C S Wd hS hl h1 h2
  exact lv_sipush C.1 C.2.1 hd hv (k p e R s m args below meth c H locs cells slots mc ms ls C S Wd hS hl h1 h2)
theorem sx_lconst {n : Fin 2} {v : Int64} (hd : decode q.2.1 pc = .ok (.lconst n, 1)) (hv : Int64.ofNat (n : Nat) = v) (k : sx_J g q d (pc + 1) lo (.long v :: st) M bc bs P) : sx_J g q d (pc) lo (st) M bc bs P := by
  intro p e R s m args below meth c H locs cells slots mc ms ls C S Wd hS hl h1 h2
  exact lv_lconst C.1 C.2.1 hd hv (k p e R s m args below meth c H locs cells slots mc ms ls C S Wd hS hl h1 h2)
theorem sx_ldc {idx : Nat} {v : Int32} (hd : decode q.2.1 pc = .ok (.ldc idx, 2)) (hw : Cond.constant q.1.cls idx v ∈ lw_good) (k : sx_J g q d (pc + 2) lo (.int v :: st) M bc bs P) : sx_J g q d (pc) lo (st) M bc bs P := by
  intro p e R s m args below meth c H locs cells slots mc ms ls C S Wd hS hl h1 h2
  exact lv_ldc C.1 C.2.1 C.2.2.2.2.2.1 (C.2.2.2.2.1 _ hw) hd (k p e R s m args below meth c H locs cells slots mc ms ls C S Wd hS hl h1 h2)
theorem sx_ldcw {idx : Nat} {v : Int32} (hd : decode q.2.1 pc = .ok (.ldc_w idx, 3)) (hw : Cond.constant q.1.cls idx v ∈ lw_good) (k : sx_J g q d (pc + 3) lo (.int v :: st) M bc bs P) : sx_J g q d (pc) lo (st) M bc bs P := by
  intro p e R s m args below meth c H locs cells slots mc ms ls C S Wd hS hl h1 h2
  exact lv_ldcw C.1 C.2.1 C.2.2.2.2.2.1 (C.2.2.2.2.1 _ hw) hd (k p e R s m args below meth c H locs cells slots mc ms ls C S Wd hS hl h1 h2)
theorem sx_ldc2 {idx : Nat} {v : Int64} (hd : decode q.2.1 pc = .ok (.ldc2_w idx, 3)) (hw : Cond.constantLong q.1.cls idx v ∈ lw_good) (k : sx_J g q d (pc + 3) lo (.long v :: st) M bc bs P) : sx_J g q d (pc) lo (st) M bc bs P := by
  intro p e R s m args below meth c H locs cells slots mc ms ls C S Wd hS hl h1 h2
  exact lv_ldc2 C.1 C.2.1 C.2.2.2.2.2.1 (C.2.2.2.2.1 _ hw) hd (k p e R s m args below meth c H locs cells slots mc ms ls C S Wd hS hl h1 h2)
theorem sx_iload_n {i : Fin 4} {x : Int32} (hd : decode q.2.1 pc = .ok (.iload_n i, 1)) (hi : ((i : Nat), Value.int x) ∈ lo) (k : sx_J g q d (pc + 1) lo (.int x :: st) M bc bs P) : sx_J g q d (pc) lo (st) M bc bs P := by
  intro p e R s m args below meth c H locs cells slots mc ms ls C S Wd hS hl h1 h2
  exact lv_iload_n C.1 C.2.1 hd rfl (sx_ld hl hi) (k p e R s m args below meth c H locs cells slots mc ms ls C S Wd hS hl h1 h2)
theorem sx_iload {i : Nat} {x : Int32} (hd : decode q.2.1 pc = .ok (.iload i, 2)) (hi : (i, Value.int x) ∈ lo) (k : sx_J g q d (pc + 2) lo (.int x :: st) M bc bs P) : sx_J g q d (pc) lo (st) M bc bs P := by
  intro p e R s m args below meth c H locs cells slots mc ms ls C S Wd hS hl h1 h2
  exact lv_iload C.1 C.2.1 hd (sx_ld hl hi) (k p e R s m args below meth c H locs cells slots mc ms ls C S Wd hS hl h1 h2)
theorem sx_lload_n {i : Fin 4} {x : Int64} (hd : decode q.2.1 pc = .ok (.lload_n i, 1)) (hi : ((i : Nat), Value.long x) ∈ lo) (k : sx_J g q d (pc + 1) lo (.long x :: st) M bc bs P) : sx_J g q d (pc) lo (st) M bc bs P := by
  intro p e R s m args below meth c H locs cells slots mc ms ls C S Wd hS hl h1 h2
  exact lv_lload_n C.1 C.2.1 hd rfl (sx_ld hl hi) (k p e R s m args below meth c H locs cells slots mc ms ls C S Wd hS hl h1 h2)
theorem sx_lload {i : Nat} {x : Int64} (hd : decode q.2.1 pc = .ok (.lload i, 2)) (hi : (i, Value.long x) ∈ lo) (k : sx_J g q d (pc + 2) lo (.long x :: st) M bc bs P) : sx_J g q d (pc) lo (st) M bc bs P := by
  intro p e R s m args below meth c H locs cells slots mc ms ls C S Wd hS hl h1 h2
  exact lv_lload C.1 C.2.1 hd (sx_ld hl hi) (k p e R s m args below meth c H locs cells slots mc ms ls C S Wd hS hl h1 h2)
theorem sx_aload_n {i : Fin 4} {x : Nat} (hd : decode q.2.1 pc = .ok (.aload_n i, 1)) (hi : ((i : Nat), Value.ref x) ∈ lo) (k : sx_J g q d (pc + 1) lo (.ref x :: st) M bc bs P) : sx_J g q d (pc) lo (st) M bc bs P := by
  intro p e R s m args below meth c H locs cells slots mc ms ls C S Wd hS hl h1 h2
  exact lv_aload_n C.1 C.2.1 hd rfl (sx_ld hl hi) (k p e R s m args below meth c H locs cells slots mc ms ls C S Wd hS hl h1 h2)
theorem sx_aload {i : Nat} {x : Nat} (hd : decode q.2.1 pc = .ok (.aload i, 2)) (hi : (i, Value.ref x) ∈ lo) (k : sx_J g q d (pc + 2) lo (.ref x :: st) M bc bs P) : sx_J g q d (pc) lo (st) M bc bs P := by
  intro p e R s m args below meth c H locs cells slots mc ms ls C S Wd hS hl h1 h2
  exact lv_aload C.1 C.2.1 hd (sx_ld hl hi) (k p e R s m args below meth c H locs cells slots mc ms ls C S Wd hS hl h1 h2)
theorem sx_istore_n {i : Fin 4} {x : Int32} (hd : decode q.2.1 pc = .ok (.istore_n i, 1)) (hn : (i : Nat) < q.2.2.1) (hl0 : ((i : Nat), Value.int x) :: lo.filter (sx_d1 (i : Nat)) = lo') (k : sx_J g q d (pc + 1) lo' (st) M bc bs P) : sx_J g q d (pc) lo (.int x :: st) M bc bs P := by
  intro p e R s m args below meth c H locs cells slots mc ms ls C S Wd hS hl h1 h2
  subst hl0
  exact lv_istore_n C.1 C.2.1 hd rfl hl hn (sx_f1 (i : Nat) (.int x)) (fun ls hl => k p e R s m args below meth c H locs cells slots mc ms ls C S Wd hS hl h1 h2)
theorem sx_istore {i : Nat} {x : Int32} (hd : decode q.2.1 pc = .ok (.istore i, 2)) (hn : i < q.2.2.1) (hl0 : (i, Value.int x) :: lo.filter (sx_d1 i) = lo') (k : sx_J g q d (pc + 2) lo' (st) M bc bs P) : sx_J g q d (pc) lo (.int x :: st) M bc bs P := by
  intro p e R s m args below meth c H locs cells slots mc ms ls C S Wd hS hl h1 h2
  subst hl0
  exact lv_istore C.1 C.2.1 hd hl hn (sx_f1 i (.int x)) (fun ls hl => k p e R s m args below meth c H locs cells slots mc ms ls C S Wd hS hl h1 h2)
theorem sx_lstore_n {i : Fin 4} {x : Int64} (hd : decode q.2.1 pc = .ok (.lstore_n i, 1)) (hn : (i : Nat) + 1 < q.2.2.1) (hl0 : ((i : Nat), Value.long x) :: lo.filter (sx_d2 (i : Nat)) = lo') (k : sx_J g q d (pc + 1) lo' (st) M bc bs P) : sx_J g q d (pc) lo (.long x :: st) M bc bs P := by
  intro p e R s m args below meth c H locs cells slots mc ms ls C S Wd hS hl h1 h2
  subst hl0
  exact lv_lstore_n C.1 C.2.1 hd rfl hl hn (sx_f2 (i : Nat) (.long x)) (fun ls hl => k p e R s m args below meth c H locs cells slots mc ms ls C S Wd hS hl h1 h2)
theorem sx_lstore {i : Nat} {x : Int64} (hd : decode q.2.1 pc = .ok (.lstore i, 2)) (hn : i + 1 < q.2.2.1) (hl0 : (i, Value.long x) :: lo.filter (sx_d2 i) = lo') (k : sx_J g q d (pc + 2) lo' (st) M bc bs P) : sx_J g q d (pc) lo (.long x :: st) M bc bs P := by
  intro p e R s m args below meth c H locs cells slots mc ms ls C S Wd hS hl h1 h2
  subst hl0
  exact lv_lstore C.1 C.2.1 hd hl hn (sx_f2 i (.long x)) (fun ls hl => k p e R s m args below meth c H locs cells slots mc ms ls C S Wd hS hl h1 h2)
theorem sx_astore_n {i : Fin 4} {x : Nat} (hd : decode q.2.1 pc = .ok (.astore_n i, 1)) (hn : (i : Nat) < q.2.2.1) (hl0 : ((i : Nat), Value.ref x) :: lo.filter (sx_d1 (i : Nat)) = lo') (k : sx_J g q d (pc + 1) lo' (st) M bc bs P) : sx_J g q d (pc) lo (.ref x :: st) M bc bs P := by
  intro p e R s m args below meth c H locs cells slots mc ms ls C S Wd hS hl h1 h2
  subst hl0
  exact lv_astore_n C.1 C.2.1 hd rfl hl hn (sx_f1 (i : Nat) (.ref x)) (fun ls hl => k p e R s m args below meth c H locs cells slots mc ms ls C S Wd hS hl h1 h2)
theorem sx_astore {i : Nat} {x : Nat} (hd : decode q.2.1 pc = .ok (.astore i, 2)) (hn : i < q.2.2.1) (hl0 : (i, Value.ref x) :: lo.filter (sx_d1 i) = lo') (k : sx_J g q d (pc + 2) lo' (st) M bc bs P) : sx_J g q d (pc) lo (.ref x :: st) M bc bs P := by
  intro p e R s m args below meth c H locs cells slots mc ms ls C S Wd hS hl h1 h2
  subst hl0
  exact lv_astore C.1 C.2.1 hd hl hn (sx_f1 i (.ref x)) (fun ls hl => k p e R s m args below meth c H locs cells slots mc ms ls C S Wd hS hl h1 h2)
theorem sx_iinc {i : Nat} {n : Int} {x v : Int32} (hd : decode q.2.1 pc = .ok (.iinc i n, 3)) (hi : (i, Value.int x) ∈ lo) (hv : x + Int32.ofInt n = v) (hn : i < q.2.2.1) (hl0 : (i, Value.int v) :: lo.filter (sx_d1 i) = lo') (k : sx_J g q d (pc + 3) lo' (st) M bc bs P) : sx_J g q d (pc) lo (st) M bc bs P := by
  intro p e R s m args below meth c H locs cells slots mc ms ls C S Wd hS hl h1 h2
  subst hl0
  obtain ⟨j, hj⟩ := List.getElem?_of_mem (List.mem_map.mpr ⟨(i, Value.int x), hi, rfl⟩ : (i, sx_v g (.int x)) ∈ sx_lo g lo)
  exact lv_iinc C.1 C.2.1 hd hl hj hv hn (sx_f1 i (.int v)) (fun ls hl => k p e R s m args below meth c H locs cells slots mc ms ls C S Wd hS hl h1 h2)
theorem sx_iadd {x y : Int32} (hd : decode q.2.1 pc = .ok (.iadd, 1))  (k : sx_J g q d (pc + 1) lo (.int (x + y) :: st) M bc bs P) : sx_J g q d (pc) lo (.int y :: .int x :: st) M bc bs P := by
  intro p e R s m args below meth c H locs cells slots mc ms ls C S Wd hS hl h1 h2
  exact lv_iadd C.1 C.2.1 hd (k p e R s m args below meth c H locs cells slots mc ms ls C S Wd hS hl h1 h2)
theorem sx_isub {x y : Int32} (hd : decode q.2.1 pc = .ok (.isub, 1))  (k : sx_J g q d (pc + 1) lo (.int (x - y) :: st) M bc bs P) : sx_J g q d (pc) lo (.int y :: .int x :: st) M bc bs P := by
  intro p e R s m args below meth c H locs cells slots mc ms ls C S Wd hS hl h1 h2
  exact lv_isub C.1 C.2.1 hd (k p e R s m args below meth c H locs cells slots mc ms ls C S Wd hS hl h1 h2)
theorem sx_imul {x y : Int32} (hd : decode q.2.1 pc = .ok (.imul, 1))  (k : sx_J g q d (pc + 1) lo (.int (x * y) :: st) M bc bs P) : sx_J g q d (pc) lo (.int y :: .int x :: st) M bc bs P := by
  intro p e R s m args below meth c H locs cells slots mc ms ls C S Wd hS hl h1 h2
  exact lv_imul C.1 C.2.1 hd (k p e R s m args below meth c H locs cells slots mc ms ls C S Wd hS hl h1 h2)
theorem sx_iand {x y : Int32} (hd : decode q.2.1 pc = .ok (.iand, 1))  (k : sx_J g q d (pc + 1) lo (.int (x &&& y) :: st) M bc bs P) : sx_J g q d (pc) lo (.int y :: .int x :: st) M bc bs P := by
  intro p e R s m args below meth c H locs cells slots mc ms ls C S Wd hS hl h1 h2
  exact lv_iand C.1 C.2.1 hd (k p e R s m args below meth c H locs cells slots mc ms ls C S Wd hS hl h1 h2)
theorem sx_ior {x y : Int32} (hd : decode q.2.1 pc = .ok (.ior, 1))  (k : sx_J g q d (pc + 1) lo (.int (x ||| y) :: st) M bc bs P) : sx_J g q d (pc) lo (.int y :: .int x :: st) M bc bs P := by
  intro p e R s m args below meth c H locs cells slots mc ms ls C S Wd hS hl h1 h2
  exact lv_ior C.1 C.2.1 hd (k p e R s m args below meth c H locs cells slots mc ms ls C S Wd hS hl h1 h2)
theorem sx_ixor {x y : Int32} (hd : decode q.2.1 pc = .ok (.ixor, 1))  (k : sx_J g q d (pc + 1) lo (.int (x ^^^ y) :: st) M bc bs P) : sx_J g q d (pc) lo (.int y :: .int x :: st) M bc bs P := by
  intro p e R s m args below meth c H locs cells slots mc ms ls C S Wd hS hl h1 h2
  exact lv_ixor C.1 C.2.1 hd (k p e R s m args below meth c H locs cells slots mc ms ls C S Wd hS hl h1 h2)
theorem sx_ishl {x y : Int32} (hd : decode q.2.1 pc = .ok (.ishl, 1))  (k : sx_J g q d (pc + 1) lo (.int (x <<< (y &&& 31)) :: st) M bc bs P) : sx_J g q d (pc) lo (.int y :: .int x :: st) M bc bs P := by
  intro p e R s m args below meth c H locs cells slots mc ms ls C S Wd hS hl h1 h2
  exact lv_ishl C.1 C.2.1 hd (k p e R s m args below meth c H locs cells slots mc ms ls C S Wd hS hl h1 h2)
theorem sx_ishr {x y : Int32} (hd : decode q.2.1 pc = .ok (.ishr, 1))  (k : sx_J g q d (pc + 1) lo (.int (x >>> (y &&& 31)) :: st) M bc bs P) : sx_J g q d (pc) lo (.int y :: .int x :: st) M bc bs P := by
  intro p e R s m args below meth c H locs cells slots mc ms ls C S Wd hS hl h1 h2
  exact lv_ishr C.1 C.2.1 hd (k p e R s m args below meth c H locs cells slots mc ms ls C S Wd hS hl h1 h2)
theorem sx_idiv {x y : Int32} (hd : decode q.2.1 pc = .ok (.idiv, 1)) (hne : ¬ y = 0) (k : sx_J g q d (pc + 1) lo (.int (x / y) :: st) M bc bs P) : sx_J g q d (pc) lo (.int y :: .int x :: st) M bc bs P := by
  intro p e R s m args below meth c H locs cells slots mc ms ls C S Wd hS hl h1 h2
  exact lv_idiv C.1 C.2.1 hd hne (k p e R s m args below meth c H locs cells slots mc ms ls C S Wd hS hl h1 h2)
theorem sx_irem {x y : Int32} (hd : decode q.2.1 pc = .ok (.irem, 1)) (hne : ¬ y = 0) (k : sx_J g q d (pc + 1) lo (.int (x - x / y * y) :: st) M bc bs P) : sx_J g q d (pc) lo (.int y :: .int x :: st) M bc bs P := by
  intro p e R s m args below meth c H locs cells slots mc ms ls C S Wd hS hl h1 h2
  exact lv_irem C.1 C.2.1 hd hne (k p e R s m args below meth c H locs cells slots mc ms ls C S Wd hS hl h1 h2)
theorem sx_ineg {x : Int32} (hd : decode q.2.1 pc = .ok (.ineg, 1))  (k : sx_J g q d (pc + 1) lo (.int (-x) :: st) M bc bs P) : sx_J g q d (pc) lo (.int x :: st) M bc bs P := by
  intro p e R s m args below meth c H locs cells slots mc ms ls C S Wd hS hl h1 h2
  exact lv_ineg C.1 C.2.1 hd (k p e R s m args below meth c H locs cells slots mc ms ls C S Wd hS hl h1 h2)
theorem sx_ladd {x y : Int64} (hd : decode q.2.1 pc = .ok (.ladd, 1))  (k : sx_J g q d (pc + 1) lo (.long (x + y) :: st) M bc bs P) : sx_J g q d (pc) lo (.long y :: .long x :: st) M bc bs P := by
  intro p e R s m args below meth c H locs cells slots mc ms ls C S Wd hS hl h1 h2
  exact lv_ladd C.1 C.2.1 hd (k p e R s m args below meth c H locs cells slots mc ms ls C S Wd hS hl h1 h2)
theorem sx_lsub {x y : Int64} (hd : decode q.2.1 pc = .ok (.lsub, 1))  (k : sx_J g q d (pc + 1) lo (.long (x - y) :: st) M bc bs P) : sx_J g q d (pc) lo (.long y :: .long x :: st) M bc bs P := by
  intro p e R s m args below meth c H locs cells slots mc ms ls C S Wd hS hl h1 h2
  exact lv_lsub C.1 C.2.1 hd (k p e R s m args below meth c H locs cells slots mc ms ls C S Wd hS hl h1 h2)
theorem sx_lmul {x y : Int64} (hd : decode q.2.1 pc = .ok (.lmul, 1))  (k : sx_J g q d (pc + 1) lo (.long (x * y) :: st) M bc bs P) : sx_J g q d (pc) lo (.long y :: .long x :: st) M bc bs P := by
  intro p e R s m args below meth c H locs cells slots mc ms ls C S Wd hS hl h1 h2
  exact lv_lmul C.1 C.2.1 hd (k p e R s m args below meth c H locs cells slots mc ms ls C S Wd hS hl h1 h2)
theorem sx_land {x y : Int64} (hd : decode q.2.1 pc = .ok (.land, 1))  (k : sx_J g q d (pc + 1) lo (.long (x &&& y) :: st) M bc bs P) : sx_J g q d (pc) lo (.long y :: .long x :: st) M bc bs P := by
  intro p e R s m args below meth c H locs cells slots mc ms ls C S Wd hS hl h1 h2
  exact lv_land C.1 C.2.1 hd (k p e R s m args below meth c H locs cells slots mc ms ls C S Wd hS hl h1 h2)
theorem sx_lor {x y : Int64} (hd : decode q.2.1 pc = .ok (.lor, 1))  (k : sx_J g q d (pc + 1) lo (.long (x ||| y) :: st) M bc bs P) : sx_J g q d (pc) lo (.long y :: .long x :: st) M bc bs P := by
  intro p e R s m args below meth c H locs cells slots mc ms ls C S Wd hS hl h1 h2
  exact lv_lor C.1 C.2.1 hd (k p e R s m args below meth c H locs cells slots mc ms ls C S Wd hS hl h1 h2)
theorem sx_lxor {x y : Int64} (hd : decode q.2.1 pc = .ok (.lxor, 1))  (k : sx_J g q d (pc + 1) lo (.long (x ^^^ y) :: st) M bc bs P) : sx_J g q d (pc) lo (.long y :: .long x :: st) M bc bs P := by
  intro p e R s m args below meth c H locs cells slots mc ms ls C S Wd hS hl h1 h2
  exact lv_lxor C.1 C.2.1 hd (k p e R s m args below meth c H locs cells slots mc ms ls C S Wd hS hl h1 h2)
theorem sx_ldiv {x y : Int64} (hd : decode q.2.1 pc = .ok (.ldiv, 1)) (hne : ¬ y = 0) (k : sx_J g q d (pc + 1) lo (.long (x / y) :: st) M bc bs P) : sx_J g q d (pc) lo (.long y :: .long x :: st) M bc bs P := by
  intro p e R s m args below meth c H locs cells slots mc ms ls C S Wd hS hl h1 h2
  exact lv_ldiv C.1 C.2.1 hd hne (k p e R s m args below meth c H locs cells slots mc ms ls C S Wd hS hl h1 h2)
theorem sx_lrem {x y : Int64} (hd : decode q.2.1 pc = .ok (.lrem, 1)) (hne : ¬ y = 0) (k : sx_J g q d (pc + 1) lo (.long (x - x / y * y) :: st) M bc bs P) : sx_J g q d (pc) lo (.long y :: .long x :: st) M bc bs P := by
  intro p e R s m args below meth c H locs cells slots mc ms ls C S Wd hS hl h1 h2
  exact lv_lrem C.1 C.2.1 hd hne (k p e R s m args below meth c H locs cells slots mc ms ls C S Wd hS hl h1 h2)
theorem sx_lneg {x : Int64} (hd : decode q.2.1 pc = .ok (.lneg, 1))  (k : sx_J g q d (pc + 1) lo (.long (-x) :: st) M bc bs P) : sx_J g q d (pc) lo (.long x :: st) M bc bs P := by
  intro p e R s m args below meth c H locs cells slots mc ms ls C S Wd hS hl h1 h2
  exact lv_lneg C.1 C.2.1 hd (k p e R s m args below meth c H locs cells slots mc ms ls C S Wd hS hl h1 h2)
theorem sx_lshl {x : Int64} {y : Int32} (hd : decode q.2.1 pc = .ok (.lshl, 1))  (k : sx_J g q d (pc + 1) lo (.long (x <<< (y.toInt64 &&& 63)) :: st) M bc bs P) : sx_J g q d (pc) lo (.int y :: .long x :: st) M bc bs P := by
  intro p e R s m args below meth c H locs cells slots mc ms ls C S Wd hS hl h1 h2
  exact lv_lshl C.1 C.2.1 hd rfl (k p e R s m args below meth c H locs cells slots mc ms ls C S Wd hS hl h1 h2)
theorem sx_lshr {x : Int64} {y : Int32} (hd : decode q.2.1 pc = .ok (.lshr, 1))  (k : sx_J g q d (pc + 1) lo (.long (x >>> (y.toInt64 &&& 63)) :: st) M bc bs P) : sx_J g q d (pc) lo (.int y :: .long x :: st) M bc bs P := by
  intro p e R s m args below meth c H locs cells slots mc ms ls C S Wd hS hl h1 h2
  exact lv_lshr C.1 C.2.1 hd rfl (k p e R s m args below meth c H locs cells slots mc ms ls C S Wd hS hl h1 h2)
theorem sx_i2l {x : Int32} (hd : decode q.2.1 pc = .ok (.i2l, 1))  (k : sx_J g q d (pc + 1) lo (.long x.toInt64 :: st) M bc bs P) : sx_J g q d (pc) lo (.int x :: st) M bc bs P := by
  intro p e R s m args below meth c H locs cells slots mc ms ls C S Wd hS hl h1 h2
  exact lv_i2l C.1 C.2.1 hd rfl (k p e R s m args below meth c H locs cells slots mc ms ls C S Wd hS hl h1 h2)
theorem sx_l2i {x : Int64} (hd : decode q.2.1 pc = .ok (.l2i, 1))  (k : sx_J g q d (pc + 1) lo (.int x.toInt32 :: st) M bc bs P) : sx_J g q d (pc) lo (.long x :: st) M bc bs P := by
  intro p e R s m args below meth c H locs cells slots mc ms ls C S Wd hS hl h1 h2
  exact lv_l2i C.1 C.2.1 hd rfl (k p e R s m args below meth c H locs cells slots mc ms ls C S Wd hS hl h1 h2)
theorem sx_i2b {x : Int32} (hd : decode q.2.1 pc = .ok (.i2b, 1))  (k : sx_J g q d (pc + 1) lo (.int x.toInt8.toInt32 :: st) M bc bs P) : sx_J g q d (pc) lo (.int x :: st) M bc bs P := by
  intro p e R s m args below meth c H locs cells slots mc ms ls C S Wd hS hl h1 h2
  exact lv_i2b C.1 C.2.1 hd rfl (k p e R s m args below meth c H locs cells slots mc ms ls C S Wd hS hl h1 h2)
theorem sx_i2s {x : Int32} (hd : decode q.2.1 pc = .ok (.i2s, 1))  (k : sx_J g q d (pc + 1) lo (.int x.toInt16.toInt32 :: st) M bc bs P) : sx_J g q d (pc) lo (.int x :: st) M bc bs P := by
  intro p e R s m args below meth c H locs cells slots mc ms ls C S Wd hS hl h1 h2
  exact lv_i2s C.1 C.2.1 hd rfl (k p e R s m args below meth c H locs cells slots mc ms ls C S Wd hS hl h1 h2)
theorem sx_lcmp {x y : Int64} (hd : decode q.2.1 pc = .ok (.lcmp, 1))  (k : sx_J g q d (pc + 1) lo (.int (lg_cmp x y) :: st) M bc bs P) : sx_J g q d (pc) lo (.long y :: .long x :: st) M bc bs P := by
  intro p e R s m args below meth c H locs cells slots mc ms ls C S Wd hS hl h1 h2
  exact W.lcmp C.1 C.2.1 hd (k p e R s m args below meth c H locs cells slots mc ms ls C S Wd hS hl h1 h2)
theorem sx_dup {v : Value} (hd : decode q.2.1 pc = .ok (.dup, 1)) (hc : v.category = 1) (k : sx_J g q d (pc + 1) lo (v :: v :: st) M bc bs P) : sx_J g q d (pc) lo (v :: st) M bc bs P := by
  intro p e R s m args below meth c H locs cells slots mc ms ls C S Wd hS hl h1 h2
  exact lv_dup C.1 C.2.1 hd ((sx_v_cat g v).trans hc) (k p e R s m args below meth c H locs cells slots mc ms ls C S Wd hS hl h1 h2)
theorem sx_pop {v : Value} (hd : decode q.2.1 pc = .ok (.pop, 1)) (hc : v.category = 1) (k : sx_J g q d (pc + 1) lo (st) M bc bs P) : sx_J g q d (pc) lo (v :: st) M bc bs P := by
  intro p e R s m args below meth c H locs cells slots mc ms ls C S Wd hS hl h1 h2
  exact lv_pop C.1 C.2.1 hd ((sx_v_cat g v).trans hc) (k p e R s m args below meth c H locs cells slots mc ms ls C S Wd hS hl h1 h2)
theorem sx_pop22 {v : Value} (hd : decode q.2.1 pc = .ok (.pop2, 1)) (hc : v.category = 2) (k : sx_J g q d (pc + 1) lo (st) M bc bs P) : sx_J g q d (pc) lo (v :: st) M bc bs P := by
  intro p e R s m args below meth c H locs cells slots mc ms ls C S Wd hS hl h1 h2
  exact lv_pop2_2 C.1 C.2.1 hd ((sx_v_cat g v).trans hc) (k p e R s m args below meth c H locs cells slots mc ms ls C S Wd hS hl h1 h2)
theorem sx_dup2 {v w : Value} (hd : decode q.2.1 pc = .ok (.dup2, 1)) (hc : v.category = 1) (hc2 : w.category = 1) (k : sx_J g q d (pc + 1) lo (v :: w :: v :: w :: st) M bc bs P) : sx_J g q d (pc) lo (v :: w :: st) M bc bs P := by
  intro p e R s m args below meth c H locs cells slots mc ms ls C S Wd hS hl h1 h2
  exact lv_dup2_11 C.1 C.2.1 hd ((sx_v_cat g v).trans hc) ((sx_v_cat g w).trans hc2) (k p e R s m args below meth c H locs cells slots mc ms ls C S Wd hS hl h1 h2)
theorem sx_dup22 {v : Value} (hd : decode q.2.1 pc = .ok (.dup2, 1)) (hc : v.category = 2) (k : sx_J g q d (pc + 1) lo (v :: v :: st) M bc bs P) : sx_J g q d (pc) lo (v :: st) M bc bs P := by
  intro p e R s m args below meth c H locs cells slots mc ms ls C S Wd hS hl h1 h2
  exact lv_dup2_2 C.1 C.2.1 hd ((sx_v_cat g v).trans hc) (k p e R s m args below meth c H locs cells slots mc ms ls C S Wd hS hl h1 h2)
theorem sx_if_eq {x : Int32} {off : Int} {tgt : Nat} (hd : decode q.2.1 pc = .ok (.ifCond .eq off, 3)) (ht : (pc : Int) + off = (tgt : Int)) (kt : x = 0 → sx_J g q d (tgt) lo (st) M bc bs P) (kf : ¬ x = 0 → sx_J g q d (pc + 3) lo (st) M bc bs P) : sx_J g q d (pc) lo (.int x :: st) M bc bs P := by
  intro p e R s m args below meth c H locs cells slots mc ms ls C S Wd hS hl h1 h2
  exact lv_if_eq C.1 C.2.1 hd ht (fun hc => kt hc p e R s m args below meth c H locs cells slots mc ms ls C S Wd hS hl h1 h2) (fun hc => kf hc p e R s m args below meth c H locs cells slots mc ms ls C S Wd hS hl h1 h2)
theorem sx_if_ne {x : Int32} {off : Int} {tgt : Nat} (hd : decode q.2.1 pc = .ok (.ifCond .ne off, 3)) (ht : (pc : Int) + off = (tgt : Int)) (kt : ¬ x = 0 → sx_J g q d (tgt) lo (st) M bc bs P) (kf : x = 0 → sx_J g q d (pc + 3) lo (st) M bc bs P) : sx_J g q d (pc) lo (.int x :: st) M bc bs P := by
  intro p e R s m args below meth c H locs cells slots mc ms ls C S Wd hS hl h1 h2
  exact lv_if_ne C.1 C.2.1 hd ht (fun hc => kt hc p e R s m args below meth c H locs cells slots mc ms ls C S Wd hS hl h1 h2) (fun hc => kf hc p e R s m args below meth c H locs cells slots mc ms ls C S Wd hS hl h1 h2)
theorem sx_if_lt {x : Int32} {off : Int} {tgt : Nat} (hd : decode q.2.1 pc = .ok (.ifCond .lt off, 3)) (ht : (pc : Int) + off = (tgt : Int)) (kt : x < 0 → sx_J g q d (tgt) lo (st) M bc bs P) (kf : ¬ x < 0 → sx_J g q d (pc + 3) lo (st) M bc bs P) : sx_J g q d (pc) lo (.int x :: st) M bc bs P := by
  intro p e R s m args below meth c H locs cells slots mc ms ls C S Wd hS hl h1 h2
  exact lv_if_lt C.1 C.2.1 hd ht (fun hc => kt hc p e R s m args below meth c H locs cells slots mc ms ls C S Wd hS hl h1 h2) (fun hc => kf hc p e R s m args below meth c H locs cells slots mc ms ls C S Wd hS hl h1 h2)
theorem sx_if_ge {x : Int32} {off : Int} {tgt : Nat} (hd : decode q.2.1 pc = .ok (.ifCond .ge off, 3)) (ht : (pc : Int) + off = (tgt : Int)) (kt : 0 ≤ x → sx_J g q d (tgt) lo (st) M bc bs P) (kf : ¬ 0 ≤ x → sx_J g q d (pc + 3) lo (st) M bc bs P) : sx_J g q d (pc) lo (.int x :: st) M bc bs P := by
  intro p e R s m args below meth c H locs cells slots mc ms ls C S Wd hS hl h1 h2
  exact lv_if_ge C.1 C.2.1 hd ht (fun hc => kt hc p e R s m args below meth c H locs cells slots mc ms ls C S Wd hS hl h1 h2) (fun hc => kf hc p e R s m args below meth c H locs cells slots mc ms ls C S Wd hS hl h1 h2)
theorem sx_if_gt {x : Int32} {off : Int} {tgt : Nat} (hd : decode q.2.1 pc = .ok (.ifCond .gt off, 3)) (ht : (pc : Int) + off = (tgt : Int)) (kt : 0 < x → sx_J g q d (tgt) lo (st) M bc bs P) (kf : ¬ 0 < x → sx_J g q d (pc + 3) lo (st) M bc bs P) : sx_J g q d (pc) lo (.int x :: st) M bc bs P := by
  intro p e R s m args below meth c H locs cells slots mc ms ls C S Wd hS hl h1 h2
  exact lv_if_gt C.1 C.2.1 hd ht (fun hc => kt hc p e R s m args below meth c H locs cells slots mc ms ls C S Wd hS hl h1 h2) (fun hc => kf hc p e R s m args below meth c H locs cells slots mc ms ls C S Wd hS hl h1 h2)
theorem sx_if_le {x : Int32} {off : Int} {tgt : Nat} (hd : decode q.2.1 pc = .ok (.ifCond .le off, 3)) (ht : (pc : Int) + off = (tgt : Int)) (kt : x ≤ 0 → sx_J g q d (tgt) lo (st) M bc bs P) (kf : ¬ x ≤ 0 → sx_J g q d (pc + 3) lo (st) M bc bs P) : sx_J g q d (pc) lo (.int x :: st) M bc bs P := by
  intro p e R s m args below meth c H locs cells slots mc ms ls C S Wd hS hl h1 h2
  exact lv_if_le C.1 C.2.1 hd ht (fun hc => kt hc p e R s m args below meth c H locs cells slots mc ms ls C S Wd hS hl h1 h2) (fun hc => kf hc p e R s m args below meth c H locs cells slots mc ms ls C S Wd hS hl h1 h2)
theorem sx_icmp_eq {x y : Int32} {off : Int} {tgt : Nat} (hd : decode q.2.1 pc = .ok (.if_icmp .eq off, 3)) (ht : (pc : Int) + off = (tgt : Int)) (kt : x = y → sx_J g q d (tgt) lo (st) M bc bs P) (kf : ¬ x = y → sx_J g q d (pc + 3) lo (st) M bc bs P) : sx_J g q d (pc) lo (.int y :: .int x :: st) M bc bs P := by
  intro p e R s m args below meth c H locs cells slots mc ms ls C S Wd hS hl h1 h2
  exact lv_icmp_eq C.1 C.2.1 hd ht (fun hc => kt hc p e R s m args below meth c H locs cells slots mc ms ls C S Wd hS hl h1 h2) (fun hc => kf hc p e R s m args below meth c H locs cells slots mc ms ls C S Wd hS hl h1 h2)
theorem sx_icmp_ne {x y : Int32} {off : Int} {tgt : Nat} (hd : decode q.2.1 pc = .ok (.if_icmp .ne off, 3)) (ht : (pc : Int) + off = (tgt : Int)) (kt : ¬ x = y → sx_J g q d (tgt) lo (st) M bc bs P) (kf : x = y → sx_J g q d (pc + 3) lo (st) M bc bs P) : sx_J g q d (pc) lo (.int y :: .int x :: st) M bc bs P := by
  intro p e R s m args below meth c H locs cells slots mc ms ls C S Wd hS hl h1 h2
  exact lv_icmp_ne C.1 C.2.1 hd ht (fun hc => kt hc p e R s m args below meth c H locs cells slots mc ms ls C S Wd hS hl h1 h2) (fun hc => kf hc p e R s m args below meth c H locs cells slots mc ms ls C S Wd hS hl h1 h2)
theorem sx_icmp_lt {x y : Int32} {off : Int} {tgt : Nat} (hd : decode q.2.1 pc = .ok (.if_icmp .lt off, 3)) (ht : (pc : Int) + off = (tgt : Int)) (kt : x < y → sx_J g q d (tgt) lo (st) M bc bs P) (kf : ¬ x < y → sx_J g q d (pc + 3) lo (st) M bc bs P) : sx_J g q d (pc) lo (.int y :: .int x :: st) M bc bs P := by
  intro p e R s m args below meth c H locs cells slots mc ms ls C S Wd hS hl h1 h2
  exact lv_icmp_lt C.1 C.2.1 hd ht (fun hc => kt hc p e R s m args below meth c H locs cells slots mc ms ls C S Wd hS hl h1 h2) (fun hc => kf hc p e R s m args below meth c H locs cells slots mc ms ls C S Wd hS hl h1 h2)
theorem sx_icmp_ge {x y : Int32} {off : Int} {tgt : Nat} (hd : decode q.2.1 pc = .ok (.if_icmp .ge off, 3)) (ht : (pc : Int) + off = (tgt : Int)) (kt : y ≤ x → sx_J g q d (tgt) lo (st) M bc bs P) (kf : ¬ y ≤ x → sx_J g q d (pc + 3) lo (st) M bc bs P) : sx_J g q d (pc) lo (.int y :: .int x :: st) M bc bs P := by
  intro p e R s m args below meth c H locs cells slots mc ms ls C S Wd hS hl h1 h2
  exact lv_icmp_ge C.1 C.2.1 hd ht (fun hc => kt hc p e R s m args below meth c H locs cells slots mc ms ls C S Wd hS hl h1 h2) (fun hc => kf hc p e R s m args below meth c H locs cells slots mc ms ls C S Wd hS hl h1 h2)
theorem sx_icmp_gt {x y : Int32} {off : Int} {tgt : Nat} (hd : decode q.2.1 pc = .ok (.if_icmp .gt off, 3)) (ht : (pc : Int) + off = (tgt : Int)) (kt : y < x → sx_J g q d (tgt) lo (st) M bc bs P) (kf : ¬ y < x → sx_J g q d (pc + 3) lo (st) M bc bs P) : sx_J g q d (pc) lo (.int y :: .int x :: st) M bc bs P := by
  intro p e R s m args below meth c H locs cells slots mc ms ls C S Wd hS hl h1 h2
  exact lv_icmp_gt C.1 C.2.1 hd ht (fun hc => kt hc p e R s m args below meth c H locs cells slots mc ms ls C S Wd hS hl h1 h2) (fun hc => kf hc p e R s m args below meth c H locs cells slots mc ms ls C S Wd hS hl h1 h2)
theorem sx_icmp_le {x y : Int32} {off : Int} {tgt : Nat} (hd : decode q.2.1 pc = .ok (.if_icmp .le off, 3)) (ht : (pc : Int) + off = (tgt : Int)) (kt : x ≤ y → sx_J g q d (tgt) lo (st) M bc bs P) (kf : ¬ x ≤ y → sx_J g q d (pc + 3) lo (st) M bc bs P) : sx_J g q d (pc) lo (.int y :: .int x :: st) M bc bs P := by
  intro p e R s m args below meth c H locs cells slots mc ms ls C S Wd hS hl h1 h2
  exact lv_icmp_le C.1 C.2.1 hd ht (fun hc => kt hc p e R s m args below meth c H locs cells slots mc ms ls C S Wd hS hl h1 h2) (fun hc => kf hc p e R s m args below meth c H locs cells slots mc ms ls C S Wd hS hl h1 h2)
theorem sx_goto {off : Int} {tgt : Nat} (hd : decode q.2.1 pc = .ok (.goto off, 3)) (ht : (pc : Int) + off = (tgt : Int)) (k : sx_J g q d (tgt) lo (st) M bc bs P) : sx_J g q d (pc) lo (st) M bc bs P := by
  intro p e R s m args below meth c H locs cells slots mc ms ls C S Wd hS hl h1 h2
  exact lv_goto C.1 C.2.1 hd ht (k p e R s m args below meth c H locs cells slots mc ms ls C S Wd hS hl h1 h2)
theorem sx_iret {x : Int32} (hd : decode q.2.1 pc = .ok (.ireturn, 1)) (hr : q.2.2.2 = some .int) (h : P (some (.int x)) M) : sx_J g q d (pc) lo (.int x :: []) M bc bs P := by
  intro p e R s m args below meth c H locs cells slots mc ms ls C S Wd hS hl h1 h2
  refine W.widen (k := mc) (n := ms) (by omega) (by omega) ?_
  exact W.iret C.1 C.2.1 (C.2.2.1.trans hr) (fun t ht hw => ⟨⟨some (.int x), M, rfl, h, by rw [ht]; exact Wd.alike hw.alike⟩, hS.F ht⟩) hS.2.2 hd C.2.2.2.2.2.2.1
theorem sx_zret {x : Int32} {ty : FieldType} (hd : decode q.2.1 pc = .ok (.ireturn, 1)) (hr : q.2.2.2 = some ty) (hn : narrow ty (.int x) = .int x) (h : P (some (.int x)) M) : sx_J g q d (pc) lo (.int x :: []) M bc bs P := by
  intro p e R s m args below meth c H locs cells slots mc ms ls C S Wd hS hl h1 h2
  refine W.widen (k := mc) (n := ms) (by omega) (by omega) ?_
  exact W.zret C.1 C.2.1 (C.2.2.1.trans hr) hn (fun t ht hw => ⟨⟨some (.int x), M, rfl, h, by rw [ht]; exact Wd.alike hw.alike⟩, hS.F ht⟩) hS.2.2 hd C.2.2.2.2.2.2.1
theorem sx_lret {x : Int64} (hd : decode q.2.1 pc = .ok (.lreturn, 1)) (hr : q.2.2.2 = some .long) (h : P (some (.long x)) M) : sx_J g q d (pc) lo (.long x :: []) M bc bs P := by
  intro p e R s m args below meth c H locs cells slots mc ms ls C S Wd hS hl h1 h2
  refine W.widen (k := mc) (n := ms) (by omega) (by omega) ?_
  exact W.lret C.1 C.2.1 (C.2.2.1.trans hr) (fun t ht hw => ⟨⟨some (.long x), M, rfl, h, by rw [ht]; exact Wd.alike hw.alike⟩, hS.F ht⟩) hS.2.2 hd C.2.2.2.2.2.2.1
theorem sx_aret {x : Nat} {n : String} (hd : decode q.2.1 pc = .ok (.areturn, 1)) (hr : q.2.2.2 = some (.object n)) (h : P (some (.ref x)) M) : sx_J g q d (pc) lo (.ref x :: []) M bc bs P := by
  intro p e R s m args below meth c H locs cells slots mc ms ls C S Wd hS hl h1 h2
  refine W.widen (k := mc) (n := ms) (by omega) (by omega) ?_
  exact W.aret C.1 C.2.1 (C.2.2.1.trans hr) (Or.inl ⟨n, rfl⟩) (Or.inr ⟨_, rfl⟩) (fun t ht hw => ⟨⟨some (.ref x), M, rfl, h, by rw [ht]; exact Wd.alike hw.alike⟩, hS.F ht⟩) hS.2.2 hd C.2.2.2.2.2.2.1
theorem sx_vret (hd : decode q.2.1 pc = .ok (.return_, 1)) (hr : q.2.2.2 = none) (h : P none M) : sx_J g q d (pc) lo ([]) M bc bs P := by
  intro p e R s m args below meth c H locs cells slots mc ms ls C S Wd hS hl h1 h2
  refine W.widen (k := mc) (n := ms) (by omega) (by omega) ?_
  exact W.vret C.1 C.2.1 (C.2.2.1.trans hr) (fun t ht hw => ⟨⟨none, M, rfl, h, by rw [ht]; exact Wd.alike hw.alike⟩, hS.F ht⟩) hS.2.2 hd C.2.2.2.2.2.2.1
end SX
end
section
/-! fields, arrays, calls of the judgement sx_J -/
section SXH
variable {g : sx_G} {q : sx_Y} {d pc : Nat} {lo lo' : List (Nat × Value)} {st : List Value} {M M' : sx_M} {bc bs : Nat} {P : Option Value → sx_M → Prop}
def sx_same (M M' : sx_M) (b : Nat) : Prop := M'.2.1 b = M.2.1 b ∧ M'.2.2.1 b = M.2.2.1 b ∧ M'.2.2.2 b = M.2.2.2 b
theorem sx_at.kept {b : Nat} {H H1 : Heap} (h : sx_at g M b H) (hv : sx_same M M' b) (hq : H1[sx_ad g b]? = H[sx_ad g b]?) : sx_at g M' b H1 := by
  obtain ⟨e1, e2, e3⟩ := hv
  have fv : ∀ ty k, sx_fv ty M' b k = sx_fv ty M b k := fun ty k => by unfold sx_fv; rw [e1, e2, e3]
  have av : ∀ t j, sx_av t M' b j = sx_av t M b j := fun t j => by unfold sx_av; rw [e1, e2, e3]
  unfold sx_at at h ⊢
  cases hk : g.2.2.2.2.2 b with
  | inl ci =>
    simp only [hk] at h ⊢
    obtain ⟨r, hr, ob⟩ := h
    exact ⟨r, hr, (ob.kept hq).to (fun k _ => by rw [fv])⟩
  | inr x =>
    simp only [hk] at h ⊢
    rw [hq, h]
    simp only [av]
theorem sx_ad_lt {b : Nat} (h : b < 1000) : sx_ad g b = g.2.2.2.1 + b := by unfold sx_ad; rw [if_pos h]
theorem sx_W.upd {a : Nat} {s : State} {H H1 : Heap} (Wd : sx_W g M s H) (ha : a < M.1) (hn : M'.1 = M.1) (ho : ∀ b, b ≠ a → sx_same M M' b) (hz : H1.size = H.size) (oq : ∀ x, x ≠ sx_ad g a → H1[x]? = H[x]?) (hat : sx_at g M' a H1) : sx_W g M' s H1 := by
  obtain ⟨w1, w2, w3, w4, w5⟩ := Wd
  have hada : sx_ad g a = g.2.2.2.1 + a := sx_ad_lt (by omega)
  refine ⟨by rw [hz, w1, hn], by omega, fun b hb => ?_, fun b n hb => ?_, fun j z hz => ?_⟩
  · by_cases e : b = a
    · subst e; exact hat
    · refine (w3 b (by omega)).kept (ho b e) (oq _ ?_)
      have : sx_ad g b = g.2.2.2.1 + b := sx_ad_lt (by omega)
      omega
  · obtain ⟨b1, b2, cell, c1, c2, c3, c4, c5, c6⟩ := w4 b n hb
    refine ⟨b1, b2, cell, by rw [oq _ (by omega)]; exact c1, c2, c3, c4, c5, fun j hj => by rw [(ho b (by omega)).1]; exact c6 j hj⟩
  · exact (w5 j z hz).kept (fun x _ hA => oq x (fun e => hA (by rw [e, hada]; exact Nat.le_add_right _ _)))
theorem sx_A_in {a : Nat} (h : a < 1000) : sx_A g (sx_ad g a) := by rw [sx_ad_lt h]; exact Nat.le_add_right _ _
/-- what the tables say of a class -/
def sx_Kc (ci : Nat) (r : vw_C) : Prop := vwCl[ci]? = some r ∧ (∀ k, k < r.2.2 → parseFieldDescriptor (r.2.1 k).2.2.1 = some (sx_ty ci k)) ∧ (∀ a, a < r.2.2 → ∀ b, b < r.2.2 → a ≠ b → (r.2.1 a).2.1 ≠ (r.2.1 b).2.1) ∧ (∀ w ∈ u_ws r.1 r.2.1 r.2.2, w ∈ lw_good) ∧ ∀ k, k < r.2.2 → (r.2.1 k).1 = r.1
/-- the entry idx of the class own is the field k of class ci; b: it is final -/
def sx_F (own : String) (idx ci k : Nat) (b : Bool) : Prop := ∃ r : vw_C, sx_Kc ci r ∧ k < r.2.2 ∧ Cond.fieldLink own idx r.1 (r.2.1 k).2.1 (r.2.1 k).2.2.1 ∈ lw_good ∧ (r.2.1 k).2.2.2 = b
theorem sx_get {idx ci k a : Nat} {b : Bool} (hd : decode q.2.1 pc = .ok (.getfield idx, 3)) (hF : sx_F q.1.cls idx ci k b) (hk : g.2.2.2.2.2 a = .inl ci) (ha : a < M.1) (kk : sx_J g q d (pc + 3) lo (sx_fv (sx_ty ci k) M a k :: st) M bc bs P) : sx_J g q d pc lo (.ref a :: st) M bc bs P := by
  intro p e R s m args below meth c H locs cells slots mc ms ls C S Wd hS hl h1 h2
  obtain ⟨r, ⟨hr, hty, hnm, hin, hdecl⟩, hkN, hlink, -⟩ := hF
  have hat := Wd.2.2.1 a ha
  unfold sx_at at hat
  simp only [hk] at hat
  obtain ⟨r', hr', cell, q1, q2, q3, q4⟩ := hat
  have e0 : r' = r := Option.some.inj (hr'.symm.trans hr)
  subst e0
  obtain ⟨hSl, hfc, kC, hkC, hkind⟩ := S.1 ci _ hr
  obtain ⟨cf, kf, fi, f, hi, hsl⟩ := hSl k hkN
  have hi2 := hi
  rw [hdecl k hkN] at hi2
  refine W.getf C.1 C.2.1 C.2.2.2.2.2.1 (C.2.2.2.2.1 _ hlink) hi2 (u_facts hfc hkC (u_lays C.2.2.2.2.1 hin hkN) hi).1 q1 (by rw [q3]; exact fun h => by cases h) (v := sx_v g (sx_fv (sx_ty ci k) M a k)) (by rw [hsl, q4 k hkN]) rfl rfl hd (kk p e R s m args below meth c H locs cells slots mc ms ls C S Wd hS hl h1 h2)
theorem sx_apart {ci : Nat} {r : vw_C} {s : State} {args : Array Value} (hK : sx_Kc ci r) (S : sx_S g s) (hts : ∀ w ∈ lw_good, w.before args s = true) : ∀ x y, x < r.2.2 → y < r.2.2 → x ≠ y → (g.2.1.2 ci) x ≠ (g.2.1.2 ci) y := by
  obtain ⟨C, T, N⟩ := r
  exact va_apart (own := "") (D := g.2.1) (cl := vwCl) (tys := []) hts hK.2.2.2.1 (sx_ty ci) hK.2.1 hK.2.2.1 ⟨S.1, fun k q h => by simp at h⟩ hK.1
/-- a field is written -/
theorem sx_put {idx ci k a : Nat} {v : Value} (hd : decode q.2.1 pc = .ok (.putfield idx, 3)) (hF : sx_F q.1.cls idx ci k false) (hk : g.2.2.2.2.2 a = .inl ci) (ha : a < M.1) (hn : narrow (sx_ty ci k) (sx_v g v) = sx_v g v) (hf : fits (sx_ty ci k) (sx_v g v) = true)
    (hM : M'.1 = M.1) (ho : ∀ b, b ≠ a → sx_same M M' b) (hs : ∀ j, sx_fv (sx_ty ci j) M' a j = if j = k then v else sx_fv (sx_ty ci j) M a j) (kk : sx_J g q d (pc + 3) lo st M' bc bs P) : sx_J g q d pc lo (v :: .ref a :: st) M bc bs P := by
  intro p e R s m args below meth c H locs cells slots mc ms ls C S Wd hS hl h1 h2
  obtain ⟨r, hKc, hkN, hlink, hfin⟩ := hF
  have hap := sx_apart hKc S C.2.2.2.2.1
  obtain ⟨hr, hty, hnm, hin, hdecl⟩ := hKc
  have hat := Wd.2.2.1 a ha
  unfold sx_at at hat
  simp only [hk] at hat
  obtain ⟨r', hr', cell, q1, q2, q3, q4⟩ := hat
  have e0 : r' = r := Option.some.inj (hr'.symm.trans hr)
  subst e0
  obtain ⟨hSl, hfc, kC, hkC, hkind⟩ := S.1 ci _ hr
  obtain ⟨cf, kf, fi, f, hi, hsl⟩ := hSl k hkN
  have hlay := C.2.2.2.2.1 _ (hin _ (u_in_lay hkN))
  unfold u_lay at hlay
  rw [if_neg (by rw [hfin]; decide)] at hlay
  have hst := (u_facts hfc hkC (u_lays C.2.2.2.2.1 hin hkN) hi).1
  have h6 := u_store hfc hkC hkind hlay hi (hty k hkN) hn hf
  have hi2 := hi
  rw [hdecl k hkN] at hi2
  have h1000 : a < 1000 := Nat.lt_of_lt_of_le ha Wd.2.1
  refine W.putK C.1 C.2.1 (f := f) ⟨C.2.2.2.2.2.1, C.2.2.2.2.1 _ hlink, ⟨_, _, _, hi2⟩, hst⟩ (by rw [q2]; exact h6) q1 q3 (by rw [hsl]; exact k2_hasslot (q4 k hkN)) rfl rfl hd fun H' e1 e2 e3 => ?_
  rw [hsl] at e1 ⊢
  refine kk p e R s m args below meth c H' _ cells slots mc ms ls C S (Wd.upd ha hM ho e2 e3 ?_) (hS.put e2 e3 (sx_A_in h1000)) hl h1 h2
  unfold sx_at
  simp only [hk]
  refine ⟨_, hr, t_OB.to (V := updV _ k (sx_v g v)) ⟨_, e1, q2, q3, t_set q4 hap hkN (sx_v g v)⟩ (fun j _ => ?_)⟩
  rw [hs j]
  unfold updV
  split <;> rfl
/-- a final field is written in its constructor -/
theorem sx_putF {idx ci k a : Nat} {v : Value} (hd : decode q.2.1 pc = .ok (.putfield idx, 3)) (hF : sx_F q.1.cls idx ci k true) (hq : q.1.name = "<init>") (hq2 : ∀ r, vwCl[ci]? = some r → r.1 = q.1.cls) (hk : g.2.2.2.2.2 a = .inl ci) (ha : a < M.1) (hn : narrow (sx_ty ci k) (sx_v g v) = sx_v g v) (hf : fits (sx_ty ci k) (sx_v g v) = true)
    (hM : M'.1 = M.1) (ho : ∀ b, b ≠ a → sx_same M M' b) (hs : ∀ j, sx_fv (sx_ty ci j) M' a j = if j = k then v else sx_fv (sx_ty ci j) M a j) (kk : sx_J g q d (pc + 3) lo st M' bc bs P) : sx_J g q d pc lo (v :: .ref a :: st) M bc bs P := by
  intro p e R s m args below meth c H locs cells slots mc ms ls C S Wd hS hl h1 h2
  obtain ⟨r, hKc, hkN, hlink, hfin⟩ := hF
  have hap := sx_apart hKc S C.2.2.2.2.1
  obtain ⟨hr, hty, hnm, hin, hdecl⟩ := hKc
  have hat := Wd.2.2.1 a ha
  unfold sx_at at hat
  simp only [hk] at hat
  obtain ⟨r', hr', cell, q1, q2, q3, q4⟩ := hat
  have e0 : r' = r := Option.some.inj (hr'.symm.trans hr)
  subst e0
  obtain ⟨hSl, hfc, kC, hkC, hkind⟩ := S.1 ci _ hr
  obtain ⟨cf, kf, fi, f, hi, hsl⟩ := hSl k hkN
  have hlay := C.2.2.2.2.1 _ (hin _ (u_in_lay hkN))
  unfold u_lay at hlay
  rw [if_pos hfin] at hlay
  have hst := (u_facts hfc hkC (u_lays C.2.2.2.2.1 hin hkN) hi).1
  have hcf : m.cls = cf := by
    obtain ⟨_, _, c', _, _, _, -, -, hf', -, -, -, hown2, -⟩ := Cond.laysFinal_spec hlay
    have e1 : c' = cf := by have := hi.symm.trans hf'; simp at this; exact this.1.symm
    rw [hdecl k hkN, hq2 _ hr] at hown2
    rw [← e1]; exact Option.some.inj (C.2.2.2.2.2.1.symm.trans hown2)
  have h6 := u_fits hfc hkC hkind (Or.inr hlay) hi (hty k hkN) hn hf
  have hi2 := hi
  rw [hdecl k hkN] at hi2
  have h1000 : a < 1000 := Nat.lt_of_lt_of_le ha Wd.2.1
  refine W.putFinK C.1 C.2.1 C.2.2.2.2.2.1 (C.2.2.2.2.1 _ hlink) hi2 hst hcf (C.2.2.2.2.2.2.2.1 hq) (by rw [q2]; exact h6) q1 q3 (by rw [hsl]; exact k2_hasslot (q4 k hkN)) rfl rfl hd fun H' e1 e2 e3 => ?_
  rw [hsl] at e1 ⊢
  refine kk p e R s m args below meth c H' _ cells slots mc ms ls C S (Wd.upd ha hM ho e2 e3 ?_) (hS.put e2 e3 (sx_A_in h1000)) hl h1 h2
  unfold sx_at
  simp only [hk]
  refine ⟨_, hr, t_OB.to (V := updV _ k (sx_v g v)) ⟨_, e1, q2, q3, t_set q4 hap hkN (sx_v g v)⟩ (fun j _ => ?_)⟩
  rw [hs j]
  unfold updV
  split <;> rfl
/-- writes of the memory -/
def sx_sI (M : sx_M) (a k : Nat) (x : Int32) : sx_M := (M.1, (fun b j => if b = a ∧ j = k then x else M.2.1 b j), M.2.2)
def sx_sL (M : sx_M) (a k : Nat) (x : Int64) : sx_M := (M.1, M.2.1, (fun b j => if b = a ∧ j = k then x else M.2.2.1 b j), M.2.2.2)
def sx_sR (M : sx_M) (a k : Nat) (x : Option Nat) : sx_M := (M.1, M.2.1, M.2.2.1, fun b j => if b = a ∧ j = k then x else M.2.2.2 b j)
theorem sx_sI_o {a k : Nat} {x : Int32} : ∀ b, b ≠ a → sx_same M (sx_sI M a k x) b := fun b h => ⟨funext fun j => by simp [sx_sI, h], rfl, rfl⟩
theorem sx_sL_o {a k : Nat} {x : Int64} : ∀ b, b ≠ a → sx_same M (sx_sL M a k x) b := fun b h => ⟨rfl, funext fun j => by simp [sx_sL, h], rfl⟩
theorem sx_sR_o {a k : Nat} {x : Option Nat} : ∀ b, b ≠ a → sx_same M (sx_sR M a k x) b := fun b h => ⟨rfl, rfl, funext fun j => by simp [sx_sR, h]⟩
theorem sx_sI_f {ci a k : Nat} {x : Int32} (h : sx_ty ci k = .int ∨ sx_ty ci k = .boolean) : ∀ j, sx_fv (sx_ty ci j) (sx_sI M a k x) a j = if j = k then .int x else sx_fv (sx_ty ci j) M a j := by
  intro j
  by_cases e : j = k
  · subst e
    rcases h with h | h <;> simp [h, sx_fv, sx_sI]
  · rw [if_neg e]
    unfold sx_fv sx_sI
    simp [e]
theorem sx_sL_f {ci a k : Nat} {x : Int64} (h : sx_ty ci k = .long) : ∀ j, sx_fv (sx_ty ci j) (sx_sL M a k x) a j = if j = k then .long x else sx_fv (sx_ty ci j) M a j := by
  intro j
  by_cases e : j = k
  · subst e
    simp [h, sx_fv, sx_sL]
  · rw [if_neg e]
    unfold sx_fv sx_sL
    simp [e]
theorem sx_sR_f {ci a k : Nat} {x : Option Nat} (h : (∃ t, sx_ty ci k = .array t) ∨ ∃ n, sx_ty ci k = .object n) : ∀ j, sx_fv (sx_ty ci j) (sx_sR M a k x) a j = if j = k then va_rf x else sx_fv (sx_ty ci j) M a j := by
  intro j
  by_cases e : j = k
  · subst e
    rcases h with ⟨t, h⟩ | ⟨t, h⟩ <;> simp [h, sx_fv, sx_sR]
  · rw [if_neg e]
    unfold sx_fv sx_sR
    simp [e]
theorem sx_putI {idx ci k a : Nat} {x : Int32} (hd : decode q.2.1 pc = .ok (.putfield idx, 3)) (hF : sx_F q.1.cls idx ci k false) (hk : g.2.2.2.2.2 a = .inl ci) (ha : a < M.1) (ht : sx_ty ci k = .int) (kk : sx_J g q d (pc + 3) lo st (sx_sI M a k x) bc bs P) : sx_J g q d pc lo (.int x :: .ref a :: st) M bc bs P :=
  sx_put (M' := sx_sI M a k x) hd hF hk ha (by rw [ht]; rfl) (by rw [ht]; rfl) rfl sx_sI_o (sx_sI_f (Or.inl ht)) kk
theorem sx_putZ {idx ci k a : Nat} {x : Int32} (hd : decode q.2.1 pc = .ok (.putfield idx, 3)) (hF : sx_F q.1.cls idx ci k false) (hk : g.2.2.2.2.2 a = .inl ci) (ha : a < M.1) (ht : sx_ty ci k = .boolean) (hz : narrow .boolean (.int x) = .int x) (hf : fits .boolean (.int x) = true) (kk : sx_J g q d (pc + 3) lo st (sx_sI M a k x) bc bs P) : sx_J g q d pc lo (.int x :: .ref a :: st) M bc bs P :=
  sx_put (M' := sx_sI M a k x) hd hF hk ha (by rw [ht]; exact hz) (by rw [ht]; exact hf) rfl sx_sI_o (sx_sI_f (Or.inr ht)) kk
theorem sx_putL {idx ci k a : Nat} {x : Int64} (hd : decode q.2.1 pc = .ok (.putfield idx, 3)) (hF : sx_F q.1.cls idx ci k false) (hk : g.2.2.2.2.2 a = .inl ci) (ha : a < M.1) (ht : sx_ty ci k = .long) (kk : sx_J g q d (pc + 3) lo st (sx_sL M a k x) bc bs P) : sx_J g q d pc lo (.long x :: .ref a :: st) M bc bs P :=
  sx_put (M' := sx_sL M a k x) hd hF hk ha (by rw [ht]; rfl) (by rw [ht]; rfl) rfl sx_sL_o (sx_sL_f ht) kk
theorem sx_putA {idx ci k a b : Nat} {t : FieldType} (hd : decode q.2.1 pc = .ok (.putfield idx, 3)) (hF : sx_F q.1.cls idx ci k false) (hk : g.2.2.2.2.2 a = .inl ci) (ha : a < M.1) (ht : sx_ty ci k = .array t) (kk : sx_J g q d (pc + 3) lo st (sx_sR M a k (some b)) bc bs P) : sx_J g q d pc lo (.ref b :: .ref a :: st) M bc bs P :=
  sx_put (M' := sx_sR M a k (some b)) hd hF hk ha (by rw [ht]; rfl) (by rw [ht]; rfl) rfl sx_sR_o (sx_sR_f (Or.inl ⟨_, ht⟩)) kk
theorem sx_putO {idx ci k a b : Nat} {t : String} (hd : decode q.2.1 pc = .ok (.putfield idx, 3)) (hF : sx_F q.1.cls idx ci k false) (hk : g.2.2.2.2.2 a = .inl ci) (ha : a < M.1) (ht : sx_ty ci k = .object t) (kk : sx_J g q d (pc + 3) lo st (sx_sR M a k (some b)) bc bs P) : sx_J g q d pc lo (.ref b :: .ref a :: st) M bc bs P :=
  sx_put (M' := sx_sR M a k (some b)) hd hF hk ha (by rw [ht]; rfl) (by rw [ht]; rfl) rfl sx_sR_o (sx_sR_f (Or.inr ⟨_, ht⟩)) kk
theorem sx_putFA {idx ci k a b : Nat} {t : FieldType} (hd : decode q.2.1 pc = .ok (.putfield idx, 3)) (hF : sx_F q.1.cls idx ci k true) (hq : q.1.name = "<init>") (hq2 : ∀ r, vwCl[ci]? = some r → r.1 = q.1.cls) (hk : g.2.2.2.2.2 a = .inl ci) (ha : a < M.1) (ht : sx_ty ci k = .array t) (kk : sx_J g q d (pc + 3) lo st (sx_sR M a k (some b)) bc bs P) : sx_J g q d pc lo (.ref b :: .ref a :: st) M bc bs P :=
  sx_putF (M' := sx_sR M a k (some b)) hd hF hq hq2 hk ha (by rw [ht]; rfl) (by rw [ht]; rfl) rfl sx_sR_o (sx_sR_f (Or.inl ⟨_, ht⟩)) kk
theorem sx_putFO {idx ci k a b : Nat} {t : String} (hd : decode q.2.1 pc = .ok (.putfield idx, 3)) (hF : sx_F q.1.cls idx ci k true) (hq : q.1.name = "<init>") (hq2 : ∀ r, vwCl[ci]? = some r → r.1 = q.1.cls) (hk : g.2.2.2.2.2 a = .inl ci) (ha : a < M.1) (ht : sx_ty ci k = .object t) (kk : sx_J g q d (pc + 3) lo st (sx_sR M a k (some b)) bc bs P) : sx_J g q d pc lo (.ref b :: .ref a :: st) M bc bs P :=
  sx_putF (M' := sx_sR M a k (some b)) hd hF hq hq2 hk ha (by rw [ht]; rfl) (by rw [ht]; rfl) rfl sx_sR_o (sx_sR_f (Or.inr ⟨_, ht⟩)) kk
/-! arrays -/
def sx_in (i : Int32) (n : Nat) : Bool := decide (¬ i < 0) && decide (i.toNatClampNeg < n)
theorem sx_in_n {i : Int32} {n : Nat} (h : sx_in i n = true) : ¬ (i < 0 ∨ n ≤ i.toNatClampNeg) := by
  simp [sx_in] at h
  intro q
  rcases q with q | q
  · exact absurd q (by simpa using h.1)
  · omega
theorem sx_arr {a t n : Nat} {s : State} {H : Heap} (Wd : sx_W g M s H) (hk : g.2.2.2.2.2 a = .inr (t, n)) (ha : a < M.1) : H[sx_ad g a]? = some (arrV (g.2.2.1 t) n (fun j => sx_v g (sx_av t M a j))) := by
  have hat := Wd.2.2.1 a ha
  unfold sx_at at hat
  simp only [hk] at hat
  exact hat
theorem sx_iald {a n : Nat} {i : Int32} (hd : decode q.2.1 pc = .ok (.iaload, 1)) (hk : g.2.2.2.2.2 a = .inr (0, n)) (ha : a < M.1) (hi : sx_in i n = true) (kk : sx_J g q d (pc + 1) lo (.int (M.2.1 a i.toNatClampNeg) :: st) M bc bs P) : sx_J g q d pc lo (.int i :: .ref a :: st) M bc bs P := by
  intro p e R s m args below meth c H locs cells slots mc ms ls C S Wd hS hl h1 h2
  have hn := sx_in_n hi
  have hlt : i.toNatClampNeg < n := Nat.not_le.mp fun z => hn (Or.inr z)
  exact W.iald (v := .int (M.2.1 a i.toNatClampNeg)) C.1 C.2.1 (sx_arr Wd hk ha) ((S.2.1 0 (by decide)).1 n _) (fun q => by cases q) (by rw [arrV_size]; exact hn) (by rw [arrV_read _ _ hlt]; rfl) rfl rfl hd (kk p e R s m args below meth c H locs cells slots mc ms ls C S Wd hS hl h1 h2)
theorem sx_bald {a n : Nat} {i : Int32} (hd : decode q.2.1 pc = .ok (.baload, 1)) (hk : g.2.2.2.2.2 a = .inr (1, n)) (ha : a < M.1) (hi : sx_in i n = true) (kk : sx_J g q d (pc + 1) lo (.int (M.2.1 a i.toNatClampNeg) :: st) M bc bs P) : sx_J g q d pc lo (.int i :: .ref a :: st) M bc bs P := by
  intro p e R s m args below meth c H locs cells slots mc ms ls C S Wd hS hl h1 h2
  have hn := sx_in_n hi
  have hlt : i.toNatClampNeg < n := Nat.not_le.mp fun z => hn (Or.inr z)
  exact W.bald (v := .int (M.2.1 a i.toNatClampNeg)) C.1 C.2.1 (sx_arr Wd hk ha) ((S.2.1 1 (by decide)).1 n _) (fun q => by cases q) (by rw [arrV_size]; exact hn) (by rw [arrV_read _ _ hlt]; rfl) rfl rfl hd (kk p e R s m args below meth c H locs cells slots mc ms ls C S Wd hS hl h1 h2)
theorem sx_zald {a n : Nat} {i : Int32} (hd : decode q.2.1 pc = .ok (.baload, 1)) (hk : g.2.2.2.2.2 a = .inr (2, n)) (ha : a < M.1) (hi : sx_in i n = true) (kk : sx_J g q d (pc + 1) lo (.int (M.2.1 a i.toNatClampNeg) :: st) M bc bs P) : sx_J g q d pc lo (.int i :: .ref a :: st) M bc bs P := by
  intro p e R s m args below meth c H locs cells slots mc ms ls C S Wd hS hl h1 h2
  have hn := sx_in_n hi
  have hlt : i.toNatClampNeg < n := Nat.not_le.mp fun z => hn (Or.inr z)
  exact W.zald (v := .int (M.2.1 a i.toNatClampNeg)) C.1 C.2.1 (sx_arr Wd hk ha) ((S.2.1 2 (by decide)).1 n _) (fun q => by cases q) (by rw [arrV_size]; exact hn) (by rw [arrV_read _ _ hlt]; rfl) rfl rfl hd (kk p e R s m args below meth c H locs cells slots mc ms ls C S Wd hS hl h1 h2)
theorem sx_lald {a n : Nat} {i : Int32} (hd : decode q.2.1 pc = .ok (.laload, 1)) (hk : g.2.2.2.2.2 a = .inr (3, n)) (ha : a < M.1) (hi : sx_in i n = true) (kk : sx_J g q d (pc + 1) lo (.long (M.2.2.1 a i.toNatClampNeg) :: st) M bc bs P) : sx_J g q d pc lo (.int i :: .ref a :: st) M bc bs P := by
  intro p e R s m args below meth c H locs cells slots mc ms ls C S Wd hS hl h1 h2
  have hn := sx_in_n hi
  have hlt : i.toNatClampNeg < n := Nat.not_le.mp fun z => hn (Or.inr z)
  exact W.lald (v := .long (M.2.2.1 a i.toNatClampNeg)) C.1 C.2.1 (sx_arr Wd hk ha) ((S.2.1 3 (by decide)).1 n _) (fun q => by cases q) (by rw [arrV_size]; exact hn) (by rw [arrV_read _ _ hlt]; rfl) rfl rfl hd (kk p e R s m args below meth c H locs cells slots mc ms ls C S Wd hS hl h1 h2)
theorem sx_aald {a n t : Nat} {i : Int32} (hd : decode q.2.1 pc = .ok (.aaload, 1)) (ht : t = 4 ∨ t = 5) (hk : g.2.2.2.2.2 a = .inr (t, n)) (ha : a < M.1) (hi : sx_in i n = true) (kk : sx_J g q d (pc + 1) lo (va_rf (M.2.2.2 a i.toNatClampNeg) :: st) M bc bs P) : sx_J g q d pc lo (.int i :: .ref a :: st) M bc bs P := by
  intro p e R s m args below meth c H locs cells slots mc ms ls C S Wd hS hl h1 h2
  have hn := sx_in_n hi
  have hlt : i.toNatClampNeg < n := Nat.not_le.mp fun z => hn (Or.inr z)
  have hr : (sx_tt t).isReference = true := by rcases ht with rfl | rfl <;> rfl
  exact W.aald (v := sx_v g (va_rf (M.2.2.2 a i.toNatClampNeg))) C.1 C.2.1 (sx_arr Wd hk ha) ((S.2.1 t (by omega)).1 n _) hr (fun q => by cases q) (by rw [arrV_size]; exact hn) (by rw [arrV_read _ _ hlt]; rcases ht with rfl | rfl <;> rfl) rfl rfl hd (kk p e R s m args below meth c H locs cells slots mc ms ls C S Wd hS hl h1 h2)
theorem sx_alen {a n t : Nat} (hd : decode q.2.1 pc = .ok (.arraylength, 1)) (ht : t < 6) (hk : g.2.2.2.2.2 a = .inr (t, n)) (ha : a < M.1) (kk : sx_J g q d (pc + 1) lo (.int (Int32.ofNat n) :: st) M bc bs P) : sx_J g q d pc lo (.ref a :: st) M bc bs P := by
  intro p e R s m args below meth c H locs cells slots mc ms ls C S Wd hS hl h1 h2
  exact W.alen (n := Int32.ofNat n) C.1 C.2.1 (sx_arr Wd hk ha) ((S.2.1 t ht).1 n _) (by rw [arrV_size]) rfl rfl hd (kk p e R s m args below meth c H locs cells slots mc ms ls C S Wd hS hl h1 h2)
theorem sx_xld {a n : Nat} {i : Int32} (hd : decode q.2.1 pc = .ok (.iaload, 1)) (hk : g.2.2.2.2.2 a = .inr (9, n)) (hi : sx_in i n = true) (kk : sx_J g q d (pc + 1) lo (.int (M.2.1 a i.toNatClampNeg) :: st) M bc bs P) : sx_J g q d pc lo (.int i :: .ref a :: st) M bc bs P := by
  intro p e R s m args below meth c H locs cells slots mc ms ls C S Wd hS hl h1 h2
  have hn := sx_in_n hi
  have hlt : i.toNatClampNeg < n := Nat.not_le.mp fun z => hn (Or.inr z)
  obtain ⟨b1, b2, cell, c1, c2, c3, c4, c5, c6⟩ := Wd.2.2.2.1 a n hk
  exact W.iald (v := .int (M.2.1 a i.toNatClampNeg)) C.1 C.2.1 c1 c2 c3 (fun z => z.elim (fun z => hn (Or.inl z)) (fun z => absurd (Nat.le_trans c4 z) (Nat.not_le.mpr hlt))) (c6 _ hlt) rfl rfl hd (kk p e R s m args below meth c H locs cells slots mc ms ls C S Wd hS hl h1 h2)
theorem sx_xlen {a n : Nat} (hd : decode q.2.1 pc = .ok (.arraylength, 1)) (hk : g.2.2.2.2.2 a = .inr (9, n)) (kk : sx_J g q d (pc + 1) lo (.int (Int32.ofNat n) :: st) M bc bs P) : sx_J g q d pc lo (.ref a :: st) M bc bs P := by
  intro p e R s m args below meth c H locs cells slots mc ms ls C S Wd hS hl h1 h2
  obtain ⟨b1, b2, cell, c1, c2, c3, c4, c5, c6⟩ := Wd.2.2.2.1 a n hk
  exact W.alen (n := Int32.ofNat n) C.1 C.2.1 c1 c2 c5 rfl rfl hd (kk p e R s m args below meth c H locs cells slots mc ms ls C S Wd hS hl h1 h2)
/-- behind a store into an array -/
theorem sx_W.store {a t n i : Nat} {v : Value} {s : State} {H H1 : Heap} (Wd : sx_W g M s H) (hk : g.2.2.2.2.2 a = .inr (t, n)) (ha : a < M.1) (hM : M'.1 = M.1) (ho : ∀ b, b ≠ a → sx_same M M' b) (hs : ∀ j, sx_av t M' a j = if j = i then v else sx_av t M a j) (e1 : H1[sx_ad g a]? = some ((arrV (g.2.2.1 t) n (fun j => sx_v g (sx_av t M a j))).setSlot i (sx_v g v))) (e2 : H1.size = H.size) (e3 : ∀ x, x ≠ sx_ad g a → H1[x]? = H[x]?) : sx_W g M' s H1 := by
  refine Wd.upd ha hM ho e2 e3 ?_
  unfold sx_at
  simp only [hk]
  rw [e1, arrV_store]
  congr 2
  funext j
  rw [hs j]
  unfold updV
  split <;> rfl
theorem sx_iast {a n : Nat} {i x : Int32} (hd : decode q.2.1 pc = .ok (.iastore, 1)) (hk : g.2.2.2.2.2 a = .inr (0, n)) (ha : a < M.1) (hi : sx_in i n = true) (kk : sx_J g q d (pc + 1) lo st (sx_sI M a i.toNatClampNeg x) bc bs P) : sx_J g q d pc lo (.int x :: .int i :: .ref a :: st) M bc bs P := by
  intro p e R s m args below meth c H locs cells slots mc ms ls C S Wd hS hl h1 h2
  have hn := sx_in_n hi
  refine W.iast C.1 C.2.1 (sx_arr Wd hk ha) ((S.2.1 0 (by decide)).1 n _) (fun q => by cases q) (by rw [arrV_size]; exact hn) rfl rfl hd fun H1 e1 e2 e3 => ?_
  exact kk p e R s m args below meth c H1 _ cells slots mc ms ls C S (Wd.store (v := .int x) hk ha rfl sx_sI_o (fun j => by unfold sx_av sx_sI; by_cases z : j = i.toNatClampNeg <;> simp [z]) e1 e2 e3) (hS.put e2 e3 (sx_A_in (Nat.lt_of_lt_of_le ha Wd.2.1))) hl h1 h2
theorem sx_bast {a n : Nat} {i x : Int32} (hd : decode q.2.1 pc = .ok (.bastore, 1)) (hk : g.2.2.2.2.2 a = .inr (1, n)) (ha : a < M.1) (hi : sx_in i n = true) (kk : sx_J g q d (pc + 1) lo st (sx_sI M a i.toNatClampNeg x.toInt8.toInt32) bc bs P) : sx_J g q d pc lo (.int x :: .int i :: .ref a :: st) M bc bs P := by
  intro p e R s m args below meth c H locs cells slots mc ms ls C S Wd hS hl h1 h2
  have hn := sx_in_n hi
  refine W.bast C.1 C.2.1 (sx_arr Wd hk ha) ((S.2.1 1 (by decide)).1 n _) (fun q => by cases q) (by rw [arrV_size]; exact hn) rfl rfl hd fun H1 e1 e2 e3 => ?_
  exact kk p e R s m args below meth c H1 _ cells slots mc ms ls C S (Wd.store (v := .int x.toInt8.toInt32) hk ha rfl sx_sI_o (fun j => by unfold sx_av sx_sI; by_cases z : j = i.toNatClampNeg <;> simp [z]) e1 e2 e3) (hS.put e2 e3 (sx_A_in (Nat.lt_of_lt_of_le ha Wd.2.1))) hl h1 h2
theorem sx_zast {a n : Nat} {i x : Int32} (hd : decode q.2.1 pc = .ok (.bastore, 1)) (hk : g.2.2.2.2.2 a = .inr (2, n)) (ha : a < M.1) (hi : sx_in i n = true) (hx : narrow .boolean (.int x) = .int x) (kk : sx_J g q d (pc + 1) lo st (sx_sI M a i.toNatClampNeg x) bc bs P) : sx_J g q d pc lo (.int x :: .int i :: .ref a :: st) M bc bs P := by
  intro p e R s m args below meth c H locs cells slots mc ms ls C S Wd hS hl h1 h2
  have hn := sx_in_n hi
  refine W.zast C.1 C.2.1 (sx_arr Wd hk ha) ((S.2.1 2 (by decide)).1 n _) (fun q => by cases q) (by rw [arrV_size]; exact hn) rfl rfl hd fun H1 e1 e2 e3 => ?_
  rw [hx] at e1
  exact kk p e R s m args below meth c H1 _ cells slots mc ms ls C S (Wd.store (v := .int x) hk ha rfl sx_sI_o (fun j => by unfold sx_av sx_sI; by_cases z : j = i.toNatClampNeg <;> simp [z]) e1 e2 e3) (hS.put e2 e3 (sx_A_in (Nat.lt_of_lt_of_le ha Wd.2.1))) hl h1 h2
theorem sx_last {a n : Nat} {i : Int32} {x : Int64} (hd : decode q.2.1 pc = .ok (.lastore, 1)) (hk : g.2.2.2.2.2 a = .inr (3, n)) (ha : a < M.1) (hi : sx_in i n = true) (kk : sx_J g q d (pc + 1) lo st (sx_sL M a i.toNatClampNeg x) bc bs P) : sx_J g q d pc lo (.long x :: .int i :: .ref a :: st) M bc bs P := by
  intro p e R s m args below meth c H locs cells slots mc ms ls C S Wd hS hl h1 h2
  have hn := sx_in_n hi
  refine W.last C.1 C.2.1 (sx_arr Wd hk ha) ((S.2.1 3 (by decide)).1 n _) (fun q => by cases q) (by rw [arrV_size]; exact hn) rfl rfl hd fun H1 e1 e2 e3 => ?_
  exact kk p e R s m args below meth c H1 _ cells slots mc ms ls C S (Wd.store (v := .long x) hk ha rfl sx_sL_o (fun j => by unfold sx_av sx_sL; by_cases z : j = i.toNatClampNeg <;> simp [z]) e1 e2 e3) (hS.put e2 e3 (sx_A_in (Nat.lt_of_lt_of_le ha Wd.2.1))) hl h1 h2
end SXH
end
section
/-! calls of the judgement sx_J -/
theorem sx_la (g : sx_G) : ∀ (as : List Value) (i : Nat), lv_args i (as.map (sx_v g)) = sx_lo g (lv_args i as)
  | [], _ => rfl
  | v :: as, i => by
    show (i, sx_v g v) :: lv_args (if (sx_v g v).category = 2 then i + 2 else i + 1) (as.map (sx_v g)) = (i, sx_v g v) :: sx_lo g (lv_args (if v.category = 2 then i + 2 else i + 1) as)
    rw [sx_v_cat, sx_la g as]
theorem sx_sl (g : sx_G) (as : List Value) : (lg_sl (as.map (sx_v g))).length = (lg_sl as).length := by
  induction as with
  | nil => rfl
  | cons v as ih =>
    simp only [lg_sl, List.map_cons, List.flatMap_cons, List.length_append] at ih ⊢
    rw [ih, sx_v_cat]
    split <;> rfl
def sx_rm (d bc bs : Nat) : Room := { frames := d, cells := bc, slots := bs, locals := 100 * d }
def sx_Pc (g : sx_G) (as : List Value) (M : sx_M) : Array Value → State → Prop := va_Pc (as.map (sx_v g)) (fun U => sx_S g U ∧ sx_W g M U U.heap)
theorem sx_blind (g : sx_G) (as : List Value) (M : sx_M) : FrameBlind (sx_Pc g as M) := fun a U f mk h => ⟨h.1, h.2.1.call f mk a, sx_W.alike (s := U) (U := U.calling f mk a) (Vm.Alike.refl U.vm) h.2.2⟩
/-- what the tables say of a method that is called; n: its parameters -/
def sx_Y0 (y : sx_Y) (n : Nat) : Prop := Cond.code y.1 y.2.1 y.2.2.1 y.2.2.2 ∈ lw_good ∧ Cond.initialized y.1.cls ∈ lw_good ∧ plainFor y.1 = true ∧ (y.1.cls ≠ "java/lang/invoke/MethodHandle" ∧ y.1.cls ≠ "java/lang/invoke/VarHandle" ∧ (parseMethodDescriptor y.1.desc).map (fun d => d.parameters.length) = some n) ∧ y.2.2.1 ≤ 81
section SXC
variable {g : sx_G} {q : sx_Y} {d pc : Nat} {lo lo' : List (Nat × Value)} {st : List Value} {M M' : sx_M} {bc bs : Nat} {P P1 : Option Value → sx_M → Prop}
theorem sx_ofW {l : Launch} {y : MethodName} {ws ws' : List Cond} {rm : Room} {Pc : Array Value → State → Prop} {Qc : Array Value → State → Outcome → State → Prop} {mc ms : Nat} {free : Addr → Prop} {cc : ByteArray} {maxL : Nat} {ret : Option FieldType}
    (hy : plainFor y = true) (hw : ws = Cond.code y cc maxL ret :: ws')
    (body : ∀ p e s m args below meth c s₁, BodyLoose p l y (headSpec ws rm) cc maxL ret e s m args below meth c s₁ → c.maxLocals = maxL → Pc args s →
      W p l e (headSpec ws rm).room s m args below meth c s.heap [] 0 0 (MQ below Qc args s mc ms free) (entryFrame m args maxL)) : Met l y ws rm Pc Qc mc ms free := by
  refine MetFree.of_bodySF (code := cc) (maxLocals := maxL) (ret := ret) hy ?_ ?_
  · intro args s m h hn
    obtain ⟨meth, c, h1, h2, h3, h4, h5, h6, -, -⟩ := Cond.code_spec hn (atoms_spec (ws := ws) h _ (by rw [hw]; exact List.mem_cons_self))
    exact ⟨meth, c, h1, h2, h3, h4, h5, h6⟩
  · intro p e s m args below meth c s₁ B hml hP _
    have hh0 : s₁.heap = s.heap := by rw [B.state]; rfl
    obtain ⟨t, a1, o, b1, b2, b3⟩ := body p e s m args below meth c s₁ B hml hP s₁ hh0 (Stand.of_body B)
    exact ⟨t, o, a1, b1, b2, ⟨b3.1, b3.2⟩⟩
theorem sx_met {as : List Value} (hq : plainFor q.1 = true) (hfit : (lg_sl as).length ≤ q.2.2.1) (h : sx_J g q d 0 (lv_args 0 as) [] M bc bs P) : Met g.1 q.1 (Cond.code q.1 q.2.1 q.2.2.1 q.2.2.2 :: lw_good) (sx_rm d bc bs) (sx_Pc g as M) (sx_Q g P) bc bs (sx_A g) := by
  refine sx_ofW (cc := q.2.1) (maxL := q.2.2.1) (ret := q.2.2.2) hq rfl ?_
  intro p e s m args below meth c s₁ B hml hv
  obtain ⟨rfl, hS, hW⟩ := hv
  have hts := atoms_spec (ws := Cond.code q.1 q.2.1 q.2.2.1 q.2.2.2 :: lw_good) B.pre
  rw [lg_entry_eq]
  have hl := lv_entry (as.map (sx_v g)) (n := q.2.2.1) (by rw [sx_sl]; exact hfit)
  rw [sx_la] at hl
  exact h p e _ s m _ below meth c s.heap [] 0 0 bc bs _ ⟨B.exec, B.bytes, B.returns, hml, fun w hw => hts w (List.mem_cons_of_mem _ hw), findClass_of_methodNamed B.named, B.notSynchronized, (fun h => (name_of_methodNamed B.named B.method).1.trans h), Nat.le_refl _, Nat.le_refl _, Nat.le_refl _, Nat.le_refl _⟩ hS hW va_S.rf hl (by omega) (by omega)
theorem sx_back {p : Program} {e : Env} {R : Room} {s : State} {m : MethodId} {args : Array Value} {below : List Frame} {meth : Method} {c : Code} {H : Heap} {locs : List Loc} {cells slots mc ms mc' ms' : Nat} {ls : Array Slot} {stk : List Value} {a0 : Array Value}
    (hrun : va_Run p g.1 e R s m args below meth c H locs cells slots mc' ms' (F0 m pc ls stk) (st.map (sx_v g)) (sx_Q g P1 a0) (sx_A g)) (C : sx_C q d p R s m args meth c mc ms) (S : sx_S g s) (hS : va_S (sx_A g) s.heap H locs) (hl : lv_has ls q.2.2.1 (sx_lo g lo)) (h1 : cells + (bc + mc') ≤ mc) (h2 : slots + (bs + ms') ≤ ms)
    (kk : ∀ r M1, P1 r M1 → sx_J g q d (pc + 3) lo (r.toList ++ st) M1 bc bs P) : W p g.1 e R s m args below meth c H locs cells slots (MQ below (sx_Q g P) args s mc ms (sx_A g)) (F0 m pc ls stk) := by
  intro T hT X
  obtain ⟨v, st₀, t, T', L, h0, X', hL, e1, e2, ⟨⟨r, M1, ho, hP, hW1⟩, hF⟩, hgo⟩ := hrun T hT X
  have hv : v = r.map (sx_v g) := by cases ho; rfl
  subst hv
  have hA : s.vm.Alike t.vm := by rw [← e2]; exact X'.warmed.alike
  have hW2 : sx_W g M1 s T'.heap := by rw [e1]; exact hW1.alike hA.symm
  have hS2 : va_S (sx_A g) s.heap T'.heap (locs ++ L) := ⟨Nat.le_trans hS.1 (by rw [e1, ← h0]; exact hF.1), fun x hx hn => by rw [e1, hF.2 x (by rw [h0]; exact Nat.lt_of_lt_of_le hx hS.1) hn, h0]; exact hS.2.1 x hx hn, fun z hz => (List.mem_append.mp hz).elim (hS.2.2 z) (hL z)⟩
  obtain ⟨t2, a1, b1⟩ := kk r M1 hP p e R s m args below meth c T'.heap (locs ++ L) (cells + mc') (slots + ms') mc ms ls C S hW2 hS2 hl (by omega) (by omega) T' rfl X'
  have e3 : (r.toList ++ st).map (sx_v g) = (r.map (sx_v g)).toList ++ st.map (sx_v g) := by cases r <;> simp
  rw [e3] at a1
  exact ⟨t2, hgo t2 a1, b1⟩
theorem sx_goodc {y : sx_Y} {n : Nat} (hy : sx_Y0 y n) : GoodIn lw_good (Cond.code y.1 y.2.1 y.2.2.1 y.2.2.2 :: lw_good) := fun w h => (List.mem_cons.mp h).elim (fun e => by rw [e]; exact lw_good_ok _ hy.1) (lw_good_ok w)
theorem sx_obj {a ci : Nat} {s : State} {H : Heap} {y : String} (S : sx_S g s) (Wd : sx_W g M s H) (hk : g.2.2.2.2.2 a = .inl ci) (hc : ∀ r, vwCl[ci]? = some r → r.1 = y) (ha : a < M.1) : ∃ cell : Cell, H[sx_ad g a]? = some cell ∧ cell.vm.isStatics = false ∧ s.vm.findClass y = some cell.cls := by
  have hat := Wd.2.2.1 a ha
  unfold sx_at at hat
  simp only [hk] at hat
  obtain ⟨r, hr, cell, q1, q2, q3, q4⟩ := hat
  exact ⟨cell, q1, by rw [q3]; rfl, by rw [q2, ← hc r hr]; exact (S.1 ci r hr).2.1⟩
theorem sx_sum (st : List Value) : ((st.map (sx_v g)).map fun v => v.category).sum = (st.map fun v => v.category).sum := by
  rw [List.map_map]
  congr 1
  exact List.map_congr_left (fun v _ => sx_v_cat g v)
/-- a call of a method of an object -/
theorem sx_callV {idx n d' a ci mc' ms' : Nat} {y : sx_Y} {as stk : List Value} (hd : decode q.2.1 pc = .ok (.invokevirtual idx, 3)) (hl0 : Cond.methodLink q.1.cls idx y.1 ∈ lw_good) (hy : sx_Y0 y n) (hv : Cond.instanceMethod y.1 ∈ lw_good ∧ Cond.selects y.1.cls y.1 y.1 ∈ lw_good) (hn : as.length = n) (hfit : (lg_sl (.ref a :: as)).length ≤ y.2.2.1) (hk : g.2.2.2.2.2 a = .inl ci) (hc : ∀ r, vwCl[ci]? = some r → r.1 = y.1.cls) (ha : a < M.1) (hdd : d' < d) (hst : (st.map fun v => v.category).sum ≤ 8) (hstk : stk = as.reverse ++ .ref a :: st)
    (hM : sx_J g y d' 0 (lv_args 0 (.ref a :: as)) [] M mc' ms' P1) (kk : ∀ r M1, P1 r M1 → sx_J g q d (pc + 3) lo (r.toList ++ st) M1 bc bs P) : sx_J g q d pc lo stk M (bc + mc') (bs + ms') P := by
  intro p e R s m args below meth c H locs cells slots mc ms ls C S Wd hS hl h1 h2
  subst hstk
  refine sx_back (a0 := _) (P1 := P1) (va_runV (As := as.map (sx_v g)) (b := sx_ad g a) (C := y.1.cls) (n := n) (ret := y.2.2.2) ⟨C.1, C.2.1, C.2.2.2.1, C.2.2.2.2.2.1, C.2.2.2.2.1⟩ (sx_met hy.2.2.1 hfit hM) ⟨callB_of n C.2.2.2.2.1 (sx_goodc hy) rfl rfl rfl (C.2.2.2.2.1 _ hy.2.1) (C.2.2.2.2.1 _ hl0) hy.2.2.2.1 ⟨?_, ?_⟩, C.2.2.2.2.1 _ hv.1, C.2.2.2.2.1 _ hv.2⟩ ⟨sx_blind g _ M, sx_obj S Wd hk hc ha, fun U hU hW => ⟨by simp [sx_v], S.warm hW, by rw [hU]; exact Wd.alike hW.alike⟩⟩ rfl (by simp [hn]) hl.1 (by simp [sx_v]) (lv_room (by rw [sx_sum]; exact hst)) hd ⟨?_, ?_⟩) C S hS hl h1 h2 kk
  · show d' + 1 ≤ R.frames
    have := C.2.2.2.2.2.2.2.2.1
    omega
  · show 8 + (y.2.2.1 + 11) + 100 * d' ≤ R.locals
    have := C.2.2.2.2.2.2.2.2.2.1
    have := hy.2.2.2.2
    omega
  · have := C.2.2.2.2.2.2.2.2.2.2.1
    omega
  · have := C.2.2.2.2.2.2.2.2.2.2.2
    omega
/-- a call of a static method -/
theorem sx_callS {idx n d' mc' ms' : Nat} {y : sx_Y} {as stk : List Value} (hd : decode q.2.1 pc = .ok (.invokestatic idx, 3)) (hl0 : Cond.methodLink q.1.cls idx y.1 ∈ lw_good) (hy : sx_Y0 y n) (hv : Cond.static y.1 ∈ lw_good) (hn : as.length = n) (hfit : (lg_sl as).length ≤ y.2.2.1) (hdd : d' < d) (hst : (st.map fun v => v.category).sum ≤ 8) (hstk : stk = as.reverse ++ st)
    (hM : sx_J g y d' 0 (lv_args 0 as) [] M mc' ms' P1) (kk : ∀ r M1, P1 r M1 → sx_J g q d (pc + 3) lo (r.toList ++ st) M1 bc bs P) : sx_J g q d pc lo stk M (bc + mc') (bs + ms') P := by
  intro p e R s m args below meth c H locs cells slots mc ms ls C S Wd hS hl h1 h2
  subst hstk
  refine sx_back (a0 := _) (P1 := P1) (va_runS (As := as.map (sx_v g)) (n := n) (ret := y.2.2.2) ⟨C.1, C.2.1, C.2.2.2.1, C.2.2.2.2.2.1, C.2.2.2.2.1⟩ (sx_met hy.2.2.1 hfit hM) ⟨callB_of n C.2.2.2.2.1 (sx_goodc hy) rfl rfl rfl (C.2.2.2.2.1 _ hy.2.1) (C.2.2.2.2.1 _ hl0) hy.2.2.2.1 ⟨?_, ?_⟩, C.2.2.2.2.1 _ hv⟩ ⟨sx_blind g _ M, fun U hU hW => ⟨by simp, S.warm hW, by rw [hU]; exact Wd.alike hW.alike⟩⟩ rfl (by simp [hn]) hl.1 (by simp) (lv_room (by rw [sx_sum]; exact hst)) hd ⟨?_, ?_⟩) C S hS hl h1 h2 kk
  · show d' + 1 ≤ R.frames
    have := C.2.2.2.2.2.2.2.2.1
    omega
  · show 8 + (y.2.2.1 + 11) + 100 * d' ≤ R.locals
    have := C.2.2.2.2.2.2.2.2.2.1
    have := hy.2.2.2.2
    omega
  · have := C.2.2.2.2.2.2.2.2.2.2.1
    omega
  · have := C.2.2.2.2.2.2.2.2.2.2.2
    omega
/-- a call of a static method of a nest mate -/
theorem sx_callSN {idx n d' mc' ms' : Nat} {y : sx_Y} {host : String} {as stk : List Value} (hd : decode q.2.1 pc = .ok (.invokestatic idx, 3)) (hl0 : Cond.methodLinkNest q.1.cls idx y.1 host ∈ lw_nest) (hy : sx_Y0 y n) (hv : Cond.static y.1 ∈ lw_good) (hn : as.length = n) (hfit : (lg_sl as).length ≤ y.2.2.1) (hdd : d' < d) (hst : (st.map fun v => v.category).sum ≤ 8) (hstk : stk = as.reverse ++ st)
    (hM : sx_J g y d' 0 (lv_args 0 as) [] M mc' ms' P1) (kk : ∀ r M1, P1 r M1 → sx_J g q d (pc + 3) lo (r.toList ++ st) M1 bc bs P) : sx_J g q d pc lo stk M (bc + mc') (bs + ms') P := by
  intro p e R s m args below meth c H locs cells slots mc ms ls C S Wd hS hl h1 h2
  subst hstk
  refine sx_back (a0 := _) (P1 := P1) (va_runSN (As := as.map (sx_v g)) (n := n) (host := host) (ret := y.2.2.2) ⟨C.1, C.2.1, C.2.2.2.1, C.2.2.2.2.2.1, C.2.2.2.2.1⟩ (sx_met hy.2.2.1 hfit hM) ⟨va_cnB n C.2.2.2.2.1 (sx_goodc hy) rfl rfl rfl (S.2.2.1 _ hl0) (C.2.2.2.2.1 _ hy.2.1) hy.2.2.2.1 ⟨?_, ?_⟩, C.2.2.2.2.1 _ hv, trivial⟩ ⟨sx_blind g _ M, fun U hU hW => ⟨by simp, S.warm hW, by rw [hU]; exact Wd.alike hW.alike⟩⟩ rfl (by simp [hn]) hl.1 (by simp) (lv_room (by rw [sx_sum]; exact hst)) hd ⟨?_, ?_⟩) C S hS hl h1 h2 kk
  · show d' + 1 ≤ R.frames
    have := C.2.2.2.2.2.2.2.2.1
    omega
  · show 8 + (y.2.2.1 + 11) + 100 * d' ≤ R.locals
    have := C.2.2.2.2.2.2.2.2.2.1
    have := hy.2.2.2.2
    omega
  · have := C.2.2.2.2.2.2.2.2.2.2.1
    omega
  · have := C.2.2.2.2.2.2.2.2.2.2.2
    omega
/-- a constructor -/
theorem sx_callI {idx n d' a mc' ms' : Nat} {y : sx_Y} {as stk : List Value} (hd : decode q.2.1 pc = .ok (.invokespecial idx, 3)) (hl0 : Cond.methodLink q.1.cls idx y.1 ∈ lw_good) (hy : sx_Y0 y n) (hr : y.2.2.2 = none) (hi : y.1.name = "<init>") (hv : Cond.instanceMethod y.1 ∈ lw_good) (hn : as.length = n) (hfit : (lg_sl (.ref a :: as)).length ≤ y.2.2.1) (hdd : d' < d) (hst : (st.map fun v => v.category).sum ≤ 8) (hstk : stk = as.reverse ++ .ref a :: st)
    (hM : sx_J g y d' 0 (lv_args 0 (.ref a :: as)) [] M mc' ms' P1) (kk : ∀ r M1, P1 r M1 → sx_J g q d (pc + 3) lo (r.toList ++ st) M1 bc bs P) : sx_J g q d pc lo stk M (bc + mc') (bs + ms') P := by
  intro p e R s m args below meth c H locs cells slots mc ms ls C S Wd hS hl h1 h2
  subst hstk
  obtain ⟨y1, y2, y3, y4⟩ := y
  cases hr
  refine sx_back (a0 := _) (P1 := P1) (va_runI (As := as.map (sx_v g)) (b := sx_ad g a) (n := n) ⟨C.1, C.2.1, C.2.2.2.1, C.2.2.2.2.2.1, C.2.2.2.2.1⟩ (sx_met hy.2.2.1 hfit hM) ⟨callB_of n C.2.2.2.2.1 (sx_goodc hy) rfl rfl rfl (C.2.2.2.2.1 _ hy.2.1) (C.2.2.2.2.1 _ hl0) hy.2.2.2.1 ⟨?_, ?_⟩, hi, C.2.2.2.2.1 _ hv⟩ ⟨sx_blind g _ M, fun U hU hW => ⟨by simp [sx_v], S.warm hW, by rw [hU]; exact Wd.alike hW.alike⟩⟩ rfl (by simp [hn]) hl.1 (by simp [sx_v]) (lv_room (by rw [sx_sum]; exact hst)) hd ⟨?_, ?_⟩) C S hS hl h1 h2 kk
  · show d' + 1 ≤ R.frames
    have := C.2.2.2.2.2.2.2.2.1
    omega
  · show 8 + (y3 + 11) + 100 * d' ≤ R.locals
    have := C.2.2.2.2.2.2.2.2.2.1
    have : y3 ≤ 81 := hy.2.2.2.2
    omega
  · have := C.2.2.2.2.2.2.2.2.2.2.1
    omega
  · have := C.2.2.2.2.2.2.2.2.2.2.2
    omega
/-- a private constructor of a nest mate -/
theorem sx_callIN {idx n d' a mc' ms' : Nat} {y : sx_Y} {host : String} {as stk : List Value} (hd : decode q.2.1 pc = .ok (.invokespecial idx, 3)) (hl0 : Cond.methodLinkNest q.1.cls idx y.1 host ∈ lw_nest) (hy : sx_Y0 y n) (hr : y.2.2.2 = none) (hi : y.1.name = "<init>") (hv : Cond.instanceMethod y.1 ∈ lw_good) (hn : as.length = n) (hfit : (lg_sl (.ref a :: as)).length ≤ y.2.2.1) (hdd : d' < d) (hst : (st.map fun v => v.category).sum ≤ 8) (hstk : stk = as.reverse ++ .ref a :: st)
    (hM : sx_J g y d' 0 (lv_args 0 (.ref a :: as)) [] M mc' ms' P1) (kk : ∀ r M1, P1 r M1 → sx_J g q d (pc + 3) lo (r.toList ++ st) M1 bc bs P) : sx_J g q d pc lo stk M (bc + mc') (bs + ms') P := by
  intro p e R s m args below meth c H locs cells slots mc ms ls C S Wd hS hl h1 h2
  subst hstk
  obtain ⟨y1, y2, y3, y4⟩ := y
  cases hr
  refine sx_back (a0 := _) (P1 := P1) (va_runIN (As := as.map (sx_v g)) (b := sx_ad g a) (n := n) (host := host) ⟨C.1, C.2.1, C.2.2.2.1, C.2.2.2.2.2.1, C.2.2.2.2.1⟩ (sx_met hy.2.2.1 hfit hM) ⟨va_cnB n C.2.2.2.2.1 (sx_goodc hy) rfl rfl rfl (S.2.2.1 _ hl0) (C.2.2.2.2.1 _ hy.2.1) hy.2.2.2.1 ⟨?_, ?_⟩, hi, C.2.2.2.2.1 _ hv⟩ ⟨sx_blind g _ M, fun U hU hW => ⟨by simp [sx_v], S.warm hW, by rw [hU]; exact Wd.alike hW.alike⟩⟩ rfl (by simp [hn]) hl.1 (by simp [sx_v]) (lv_room (by rw [sx_sum]; exact hst)) hd ⟨?_, ?_⟩) C S hS hl h1 h2 kk
  · show d' + 1 ≤ R.frames
    have := C.2.2.2.2.2.2.2.2.1
    omega
  · show 8 + (y3 + 11) + 100 * d' ≤ R.locals
    have := C.2.2.2.2.2.2.2.2.2.1
    have : y3 ≤ 81 := hy.2.2.2.2
    omega
  · have := C.2.2.2.2.2.2.2.2.2.2.1
    omega
  · have := C.2.2.2.2.2.2.2.2.2.2.2
    omega
/-- Object's constructor -/
theorem sx_objInit {idx a : Nat} (hd : decode q.2.1 pc = .ok (.invokespecial idx, 3)) (hl0 : Cond.methodLink q.1.cls idx Lib.objectInit ∈ lw_good) (hi : Cond.instanceMethod Lib.objectInit ∈ lw_good) (hc : Cond.code Lib.objectInit ⟨#[0xb1]⟩ 1 none ∈ lw_good) (hdd : 0 < d) (hst : (st.map fun v => v.category).sum ≤ 8) (kk : sx_J g q d (pc + 3) lo st M bc bs P) : sx_J g q d pc lo (.ref a :: st) M bc bs P := by
  intro p e R s m args below meth c H locs cells slots mc ms ls C S Wd hS hl h1 h2
  refine W.objInit C.1 C.2.1 C.2.2.2.2.2.1 (C.2.2.2.2.1 _ hl0) (C.2.2.2.2.1 _ hi) (C.2.2.2.2.1 _ hc) rfl (hl.1.trans C.2.2.2.1.symm) (rest := st.map (sx_v g)) rfl hd ?_ ?_ (kk p e R s m args below meth c H locs cells slots mc ms ls C S Wd hS hl h1 h2)
  · have := C.2.2.2.2.2.2.2.2.1
    omega
  · have := C.2.2.2.2.2.2.2.2.2.1
    rw [sx_sum]
    show 2 * 0 + _ + 12 ≤ R.locals
    omega
/-- a static array of HintHouse, read by a nest mate -/
theorem sx_getSN {idx j : Nat} {z : String × String × String} {host : String} (hd : decode q.2.1 pc = .ok (.getstatic idx, 3)) (hz : sx_st[j]? = some z) (hl0 : Cond.fieldLinkNest q.1.cls idx z.1 z.2.1 z.2.2 host ∈ lw_nest) (kk : sx_J g q d (pc + 3) lo (.ref (1001 + j) :: st) M bc bs P) : sx_J g q d pc lo st M bc bs P := by
  intro p e R s m args below meth c H locs cells slots mc ms ls C S Wd hS hl h1 h2
  obtain ⟨cf, kf, fi, f, a, cell, z1, z2, z3, z4, z5, z6, z7, z8⟩ := Wd.2.2.2.2 j z hz
  exact va_WgetsN C.1 C.2.1 C.2.2.2.2.2.1 (va_Nw.use rfl (S.2.2.1 _ hl0)) z1 z2 z3 z4 z5 (fun e => by rw [e] at z6; cases z6) z7 rfl hd (kk p e R s m args below meth c H locs cells slots mc ms ls C S Wd hS hl h1 h2)
/-! switches, and references compared -/
theorem sx_tabO {dflt low hig : Int} {offs : Array Int} {len : Nat} {x : Int32} {tgt : Nat} (hd : decode q.2.1 pc = .ok (.tableswitch dflt low hig offs, len)) (h : x.toInt < low ∨ hig < x.toInt) (ht : (pc : Int) + dflt = (tgt : Int)) (k : sx_J g q d tgt lo st M bc bs P) : sx_J g q d pc lo (.int x :: st) M bc bs P := by
  intro p e R s m args below meth c H locs cells slots mc ms ls C S Wd hS hl h1 h2
  exact lv_tableOut C.1 C.2.1 hd h ht (k p e R s m args below meth c H locs cells slots mc ms ls C S Wd hS hl h1 h2)
theorem sx_tabI {dflt low hig : Int} {offs : Array Int} {len : Nat} {x : Int32} {off : Int} {tgt : Nat} (hd : decode q.2.1 pc = .ok (.tableswitch dflt low hig offs, len)) (ha : ¬ x.toInt < low) (hb : ¬ hig < x.toInt) (ho : offs[(x.toInt - low).toNat]? = some off) (ht : (pc : Int) + off = (tgt : Int)) (k : sx_J g q d tgt lo st M bc bs P) : sx_J g q d pc lo (.int x :: st) M bc bs P := by
  intro p e R s m args below meth c H locs cells slots mc ms ls C S Wd hS hl h1 h2
  exact lv_tableIn C.1 C.2.1 hd ha hb ho ht (k p e R s m args below meth c H locs cells slots mc ms ls C S Wd hS hl h1 h2)
theorem sx_look {dflt : Int} {ps : Array (Int × Int)} {len : Nat} {x : Int32} {off : Int} {tgt : Nat} (hd : decode q.2.1 pc = .ok (.lookupswitch dflt ps, len)) (hp : (ps.toList.zip (ps.toList.drop 1)).all (fun (a, next) => a.1 < next.1) = true) (ho : Op.lookupswitch.offset ps.toList dflt x.toInt = off) (ht : (pc : Int) + off = (tgt : Int)) (k : sx_J g q d tgt lo st M bc bs P) : sx_J g q d pc lo (.int x :: st) M bc bs P := by
  intro p e R s m args below meth c H locs cells slots mc ms ls C S Wd hS hl h1 h2
  exact lv_lookup C.1 C.2.1 hd hp ho ht (k p e R s m args below meth c H locs cells slots mc ms ls C S Wd hS hl h1 h2)
end SXC
end
