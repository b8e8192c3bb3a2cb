/-! fields, arrays, calls of the judgement sx_J -/
section SXH
variable {g : sx_G} {q : sx_Y} {d pc : Nat} {lo lo' : List (Nat × Value)} {st : List Value} {M M' : sx_M} {bc bs : Nat} {P : Option Value → sx_M → Prop}
def sx_same (M M' : sx_M) (b : Nat) : Prop := M'.2.1 b = M.2.1 b ∧ M'.2.2.1 b = M.2.2.1 b ∧ M'.2.2.2 b = M.2.2.2 b
theorem sx_at.kept {b : Nat} {H H1 : Heap} (h : sx_at g M b H) (hv : sx_same M M' b) (hq : H1[sx_ad g b]? = H[sx_ad g b]?) : sx_at g M' b H1 := by
  obtain ⟨e1, e2, e3⟩ := hv
  have fv : ∀ ty k, sx_fv ty M' b k = sx_fv ty M b k := fun ty k => by unfold sx_fv; rw [e1, e2, e3]
  have av : ∀ t j, sx_av t M' b j = sx_av t M b j := fun t j => by unfold sx_av; rw [e1, e2, e3]
  unfold sx_at at h ⊢
  cases hk : g.2.2.2.2.2 b with
  | inl ci =>
    simp only [hk] at h ⊢
    obtain ⟨r, hr, ob⟩ := h
    exact ⟨r, hr, (ob.kept hq).to (fun k _ => by rw [fv])⟩
  | inr x =>
    simp only [hk] at h ⊢
    rw [hq, h]
    simp only [av]
theorem sx_ad_lt {b : Nat} (h : b < 1000) : sx_ad g b = g.2.2.2.1 + b := by unfold sx_ad; rw [if_pos h]
theorem sx_W.upd {a : Nat} {s : State} {H H1 : Heap} (Wd : sx_W g M s H) (ha : a < M.1) (hn : M'.1 = M.1) (ho : ∀ b, b ≠ a → sx_same M M' b) (hz : H1.size = H.size) (oq : ∀ x, x ≠ sx_ad g a → H1[x]? = H[x]?) (hat : sx_at g M' a H1) : sx_W g M' s H1 := by
  obtain ⟨w1, w2, w3, w4, w5⟩ := Wd
  have hada : sx_ad g a = g.2.2.2.1 + a := sx_ad_lt (by omega)
  refine ⟨by rw [hz, w1, hn], by omega, fun b hb => ?_, fun b n hb => ?_, fun j z hz => ?_⟩
  · by_cases e : b = a
    · subst e; exact hat
    · refine (w3 b (by omega)).kept (ho b e) (oq _ ?_)
      have : sx_ad g b = g.2.2.2.1 + b := sx_ad_lt (by omega)
      omega
  · obtain ⟨b1, b2, cell, c1, c2, c3, c4, c5, c6⟩ := w4 b n hb
    refine ⟨b1, b2, cell, by rw [oq _ (by omega)]; exact c1, c2, c3, c4, c5, fun j hj => by rw [(ho b (by omega)).1]; exact c6 j hj⟩
  · exact (w5 j z hz).kept (fun x _ hA => oq x (fun e => hA (by rw [e, hada]; exact Nat.le_add_right _ _)))
theorem sx_A_in {a : Nat} (h : a < 1000) : sx_A g (sx_ad g a) := by rw [sx_ad_lt h]; exact Nat.le_add_right _ _
/-- what the tables say of a class -/
def sx_Kc (ci : Nat) (r : vw_C) : Prop := vwCl[ci]? = some r ∧ (∀ k, k < r.2.2 → parseFieldDescriptor (r.2.1 k).2.2.1 = some (sx_ty ci k)) ∧ (∀ a, a < r.2.2 → ∀ b, b < r.2.2 → a ≠ b → (r.2.1 a).2.1 ≠ (r.2.1 b).2.1) ∧ (∀ w ∈ u_ws r.1 r.2.1 r.2.2, w ∈ lw_good) ∧ ∀ k, k < r.2.2 → (r.2.1 k).1 = r.1
/-- the entry idx of the class own is the field k of class ci; b: it is final -/
def sx_F (own : String) (idx ci k : Nat) (b : Bool) : Prop := ∃ r : vw_C, sx_Kc ci r ∧ k < r.2.2 ∧ Cond.fieldLink own idx r.1 (r.2.1 k).2.1 (r.2.1 k).2.2.1 ∈ lw_good ∧ (r.2.1 k).2.2.2 = b
theorem sx_get {idx ci k a : Nat} {b : Bool} (hd : decode q.2.1 pc = .ok (.getfield idx, 3)) (hF : sx_F q.1.cls idx ci k b) (hk : g.2.2.2.2.2 a = .inl ci) (ha : a < M.1) (kk : sx_J g q d (pc + 3) lo (sx_fv (sx_ty ci k) M a k :: st) M bc bs P) : sx_J g q d pc lo (.ref a :: st) M bc bs P := by
  intro p e R s m args below meth c H locs cells slots mc ms ls C S Wd hS hl h1 h2
  obtain ⟨r, ⟨hr, hty, hnm, hin, hdecl⟩, hkN, hlink, -⟩ := hF
  have hat := Wd.2.2.1 a ha
  unfold sx_at at hat
  simp only [hk] at hat
  obtain ⟨r', hr', cell, q1, q2, q3, q4⟩ := hat
  have e0 : r' = r := Option.some.inj (hr'.symm.trans hr)
  subst e0
  obtain ⟨hSl, hfc, kC, hkC, hkind⟩ := S.1 ci _ hr
  obtain ⟨cf, kf, fi, f, hi, hsl⟩ := hSl k hkN
  have hi2 := hi
  rw [hdecl k hkN] at hi2
  refine W.getf C.1 C.2.1 C.2.2.2.2.2.1 (C.2.2.2.2.1 _ hlink) hi2 (u_facts hfc hkC (u_lays C.2.2.2.2.1 hin hkN) hi).1 q1 (by rw [q3]; exact fun h => by cases h) (v := sx_v g (sx_fv (sx_ty ci k) M a k)) (by rw [hsl, q4 k hkN]) rfl rfl hd (kk p e R s m args below meth c H locs cells slots mc ms ls C S Wd hS hl h1 h2)
theorem sx_apart {ci : Nat} {r : vw_C} {s : State} {args : Array Value} (hK : sx_Kc ci r) (S : sx_S g s) (hts : ∀ w ∈ lw_good, w.before args s = true) : ∀ x y, x < r.2.2 → y < r.2.2 → x ≠ y → (g.2.1.2 ci) x ≠ (g.2.1.2 ci) y := by
  obtain ⟨C, T, N⟩ := r
  exact va_apart (own := "") (D := g.2.1) (cl := vwCl) (tys := []) hts hK.2.2.2.1 (sx_ty ci) hK.2.1 hK.2.2.1 ⟨S.1, fun k q h => by simp at h⟩ hK.1
/-- a field is written -/
theorem sx_put {idx ci k a : Nat} {v : Value} (hd : decode q.2.1 pc = .ok (.putfield idx, 3)) (hF : sx_F q.1.cls idx ci k false) (hk : g.2.2.2.2.2 a = .inl ci) (ha : a < M.1) (hn : narrow (sx_ty ci k) (sx_v g v) = sx_v g v) (hf : fits (sx_ty ci k) (sx_v g v) = true)
    (hM : M'.1 = M.1) (ho : ∀ b, b ≠ a → sx_same M M' b) (hs : ∀ j, sx_fv (sx_ty ci j) M' a j = if j = k then v else sx_fv (sx_ty ci j) M a j) (kk : sx_J g q d (pc + 3) lo st M' bc bs P) : sx_J g q d pc lo (v :: .ref a :: st) M bc bs P := by
  intro p e R s m args below meth c H locs cells slots mc ms ls C S Wd hS hl h1 h2
  obtain ⟨r, hKc, hkN, hlink, hfin⟩ := hF
  have hap := sx_apart hKc S C.2.2.2.2.1
  obtain ⟨hr, hty, hnm, hin, hdecl⟩ := hKc
  have hat := Wd.2.2.1 a ha
  unfold sx_at at hat
  simp only [hk] at hat
  obtain ⟨r', hr', cell, q1, q2, q3, q4⟩ := hat
  have e0 : r' = r := Option.some.inj (hr'.symm.trans hr)
  subst e0
  obtain ⟨hSl, hfc, kC, hkC, hkind⟩ := S.1 ci _ hr
  obtain ⟨cf, kf, fi, f, hi, hsl⟩ := hSl k hkN
  have hlay := C.2.2.2.2.1 _ (hin _ (u_in_lay hkN))
  unfold u_lay at hlay
  rw [if_neg (by rw [hfin]; decide)] at hlay
  have hst := (u_facts hfc hkC (u_lays C.2.2.2.2.1 hin hkN) hi).1
  have h6 := u_store hfc hkC hkind hlay hi (hty k hkN) hn hf
  have hi2 := hi
  rw [hdecl k hkN] at hi2
  have h1000 : a < 1000 := Nat.lt_of_lt_of_le ha Wd.2.1
  refine W.putK C.1 C.2.1 (f := f) ⟨C.2.2.2.2.2.1, C.2.2.2.2.1 _ hlink, ⟨_, _, _, hi2⟩, hst⟩ (by rw [q2]; exact h6) q1 q3 (by rw [hsl]; exact k2_hasslot (q4 k hkN)) rfl rfl hd fun H' e1 e2 e3 => ?_
  rw [hsl] at e1 ⊢
  refine kk p e R s m args below meth c H' _ cells slots mc ms ls C S (Wd.upd ha hM ho e2 e3 ?_) (hS.put e2 e3 (sx_A_in h1000)) hl h1 h2
  unfold sx_at
  simp only [hk]
  refine ⟨_, hr, t_OB.to (V := updV _ k (sx_v g v)) ⟨_, e1, q2, q3, t_set q4 hap hkN (sx_v g v)⟩ (fun j _ => ?_)⟩
  rw [hs j]
  unfold updV
  split <;> rfl
/-- a final field is written in its constructor -/
theorem sx_putF {idx ci k a : Nat} {v : Value} (hd : decode q.2.1 pc = .ok (.putfield idx, 3)) (hF : sx_F q.1.cls idx ci k true) (hq : q.1.name = "<init>") (hq2 : ∀ r, vwCl[ci]? = some r → r.1 = q.1.cls) (hk : g.2.2.2.2.2 a = .inl ci) (ha : a < M.1) (hn : narrow (sx_ty ci k) (sx_v g v) = sx_v g v) (hf : fits (sx_ty ci k) (sx_v g v) = true)
    (hM : M'.1 = M.1) (ho : ∀ b, b ≠ a → sx_same M M' b) (hs : ∀ j, sx_fv (sx_ty ci j) M' a j = if j = k then v else sx_fv (sx_ty ci j) M a j) (kk : sx_J g q d (pc + 3) lo st M' bc bs P) : sx_J g q d pc lo (v :: .ref a :: st) M bc bs P := by
  intro p e R s m args below meth c H locs cells slots mc ms ls C S Wd hS hl h1 h2
  obtain ⟨r, hKc, hkN, hlink, hfin⟩ := hF
  have hap := sx_apart hKc S C.2.2.2.2.1
  obtain ⟨hr, hty, hnm, hin, hdecl⟩ := hKc
  have hat := Wd.2.2.1 a ha
  unfold sx_at at hat
  simp only [hk] at hat
  obtain ⟨r', hr', cell, q1, q2, q3, q4⟩ := hat
  have e0 : r' = r := Option.some.inj (hr'.symm.trans hr)
  subst e0
  obtain ⟨hSl, hfc, kC, hkC, hkind⟩ := S.1 ci _ hr
  obtain ⟨cf, kf, fi, f, hi, hsl⟩ := hSl k hkN
  have hlay := C.2.2.2.2.1 _ (hin _ (u_in_lay hkN))
  unfold u_lay at hlay
  rw [if_pos hfin] at hlay
  have hst := (u_facts hfc hkC (u_lays C.2.2.2.2.1 hin hkN) hi).1
  have hcf : m.cls = cf := by
    obtain ⟨_, _, c', _, _, _, -, -, hf', -, -, -, hown2, -⟩ := Cond.laysFinal_spec hlay
    have e1 : c' = cf := by have := hi.symm.trans hf'; simp at this; exact this.1.symm
    rw [hdecl k hkN, hq2 _ hr] at hown2
    rw [← e1]; exact Option.some.inj (C.2.2.2.2.2.1.symm.trans hown2)
  have h6 := u_fits hfc hkC hkind (Or.inr hlay) hi (hty k hkN) hn hf
  have hi2 := hi
  rw [hdecl k hkN] at hi2
  have h1000 : a < 1000 := Nat.lt_of_lt_of_le ha Wd.2.1
  refine W.putFinK C.1 C.2.1 C.2.2.2.2.2.1 (C.2.2.2.2.1 _ hlink) hi2 hst hcf (C.2.2.2.2.2.2.2.1 hq) (by rw [q2]; exact h6) q1 q3 (by rw [hsl]; exact k2_hasslot (q4 k hkN)) rfl rfl hd fun H' e1 e2 e3 => ?_
  rw [hsl] at e1 ⊢
  refine kk p e R s m args below meth c H' _ cells slots mc ms ls C S (Wd.upd ha hM ho e2 e3 ?_) (hS.put e2 e3 (sx_A_in h1000)) hl h1 h2
  unfold sx_at
  simp only [hk]
  refine ⟨_, hr, t_OB.to (V := updV _ k (sx_v g v)) ⟨_, e1, q2, q3, t_set q4 hap hkN (sx_v g v)⟩ (fun j _ => ?_)⟩
  rw [hs j]
  unfold updV
  split <;> rfl
/-- writes of the memory -/
def sx_sI (M : sx_M) (a k : Nat) (x : Int32) : sx_M := (M.1, (fun b j => if b = a ∧ j = k then x else M.2.1 b j), M.2.2)
def sx_sL (M : sx_M) (a k : Nat) (x : Int64) : sx_M := (M.1, M.2.1, (fun b j => if b = a ∧ j = k then x else M.2.2.1 b j), M.2.2.2)
def sx_sR (M : sx_M) (a k : Nat) (x : Option Nat) : sx_M := (M.1, M.2.1, M.2.2.1, fun b j => if b = a ∧ j = k then x else M.2.2.2 b j)
theorem sx_sI_o {a k : Nat} {x : Int32} : ∀ b, b ≠ a → sx_same M (sx_sI M a k x) b := fun b h => ⟨funext fun j => by simp [sx_sI, h], rfl, rfl⟩
theorem sx_sL_o {a k : Nat} {x : Int64} : ∀ b, b ≠ a → sx_same M (sx_sL M a k x) b := fun b h => ⟨rfl, funext fun j => by simp [sx_sL, h], rfl⟩
theorem sx_sR_o {a k : Nat} {x : Option Nat} : ∀ b, b ≠ a → sx_same M (sx_sR M a k x) b := fun b h => ⟨rfl, rfl, funext fun j => by simp [sx_sR, h]⟩
theorem sx_sI_f {ci a k : Nat} {x : Int32} (h : sx_ty ci k = .int ∨ sx_ty ci k = .boolean) : ∀ j, sx_fv (sx_ty ci j) (sx_sI M a k x) a j = if j = k then .int x else sx_fv (sx_ty ci j) M a j := by
  intro j
  by_cases e : j = k
  · subst e
    rcases h with h | h <;> simp [h, sx_fv, sx_sI]
  · rw [if_neg e]
    unfold sx_fv sx_sI
    simp [e]
theorem sx_sL_f {ci a k : Nat} {x : Int64} (h : sx_ty ci k = .long) : ∀ j, sx_fv (sx_ty ci j) (sx_sL M a k x) a j = if j = k then .long x else sx_fv (sx_ty ci j) M a j := by
  intro j
  by_cases e : j = k
  · subst e
    simp [h, sx_fv, sx_sL]
  · rw [if_neg e]
    unfold sx_fv sx_sL
    simp [e]
theorem sx_sR_f {ci a k : Nat} {x : Option Nat} (h : (∃ t, sx_ty ci k = .array t) ∨ ∃ n, sx_ty ci k = .object n) : ∀ j, sx_fv (sx_ty ci j) (sx_sR M a k x) a j = if j = k then va_rf x else sx_fv (sx_ty ci j) M a j := by
  intro j
  by_cases e : j = k
  · subst e
    rcases h with ⟨t, h⟩ | ⟨t, h⟩ <;> simp [h, sx_fv, sx_sR]
  · rw [if_neg e]
    unfold sx_fv sx_sR
    simp [e]
theorem sx_putI {idx ci k a : Nat} {x : Int32} (hd : decode q.2.1 pc = .ok (.putfield idx, 3)) (hF : sx_F q.1.cls idx ci k false) (hk : g.2.2.2.2.2 a = .inl ci) (ha : a < M.1) (ht : sx_ty ci k = .int) (kk : sx_J g q d (pc + 3) lo st (sx_sI M a k x) bc bs P) : sx_J g q d pc lo (.int x :: .ref a :: st) M bc bs P :=
  sx_put (M' := sx_sI M a k x) hd hF hk ha (by rw [ht]; rfl) (by rw [ht]; rfl) rfl sx_sI_o (sx_sI_f (Or.inl ht)) kk
theorem sx_putZ {idx ci k a : Nat} {x : Int32} (hd : decode q.2.1 pc = .ok (.putfield idx, 3)) (hF : sx_F q.1.cls idx ci k false) (hk : g.2.2.2.2.2 a = .inl ci) (ha : a < M.1) (ht : sx_ty ci k = .boolean) (hz : narrow .boolean (.int x) = .int x) (hf : fits .boolean (.int x) = true) (kk : sx_J g q d (pc + 3) lo st (sx_sI M a k x) bc bs P) : sx_J g q d pc lo (.int x :: .ref a :: st) M bc bs P :=
  sx_put (M' := sx_sI M a k x) hd hF hk ha (by rw [ht]; exact hz) (by rw [ht]; exact hf) rfl sx_sI_o (sx_sI_f (Or.inr ht)) kk
theorem sx_putL {idx ci k a : Nat} {x : Int64} (hd : decode q.2.1 pc = .ok (.putfield idx, 3)) (hF : sx_F q.1.cls idx ci k false) (hk : g.2.2.2.2.2 a = .inl ci) (ha : a < M.1) (ht : sx_ty ci k = .long) (kk : sx_J g q d (pc + 3) lo st (sx_sL M a k x) bc bs P) : sx_J g q d pc lo (.long x :: .ref a :: st) M bc bs P :=
  sx_put (M' := sx_sL M a k x) hd hF hk ha (by rw [ht]; rfl) (by rw [ht]; rfl) rfl sx_sL_o (sx_sL_f ht) kk
theorem sx_putA {idx ci k a b : Nat} {t : FieldType} (hd : decode q.2.1 pc = .ok (.putfield idx, 3)) (hF : sx_F q.1.cls idx ci k false) (hk : g.2.2.2.2.2 a = .inl ci) (ha : a < M.1) (ht : sx_ty ci k = .array t) (kk : sx_J g q d (pc + 3) lo st (sx_sR M a k (some b)) bc bs P) : sx_J g q d pc lo (.ref b :: .ref a :: st) M bc bs P :=
  sx_put (M' := sx_sR M a k (some b)) hd hF hk ha (by rw [ht]; rfl) (by rw [ht]; rfl) rfl sx_sR_o (sx_sR_f (Or.inl ⟨_, ht⟩)) kk
theorem sx_putO {idx ci k a b : Nat} {t : String} (hd : decode q.2.1 pc = .ok (.putfield idx, 3)) (hF : sx_F q.1.cls idx ci k false) (hk : g.2.2.2.2.2 a = .inl ci) (ha : a < M.1) (ht : sx_ty ci k = .object t) (kk : sx_J g q d (pc + 3) lo st (sx_sR M a k (some b)) bc bs P) : sx_J g q d pc lo (.ref b :: .ref a :: st) M bc bs P :=
  sx_put (M' := sx_sR M a k (some b)) hd hF hk ha (by rw [ht]; rfl) (by rw [ht]; rfl) rfl sx_sR_o (sx_sR_f (Or.inr ⟨_, ht⟩)) kk
theorem sx_putFA {idx ci k a b : Nat} {t : FieldType} (hd : decode q.2.1 pc = .ok (.putfield idx, 3)) (hF : sx_F q.1.cls idx ci k true) (hq : q.1.name = "<init>") (hq2 : ∀ r, vwCl[ci]? = some r → r.1 = q.1.cls) (hk : g.2.2.2.2.2 a = .inl ci) (ha : a < M.1) (ht : sx_ty ci k = .array t) (kk : sx_J g q d (pc + 3) lo st (sx_sR M a k (some b)) bc bs P) : sx_J g q d pc lo (.ref b :: .ref a :: st) M bc bs P :=
  sx_putF (M' := sx_sR M a k (some b)) hd hF hq hq2 hk ha (by rw [ht]; rfl) (by rw [ht]; rfl) rfl sx_sR_o (sx_sR_f (Or.inl ⟨_, ht⟩)) kk
theorem sx_putFO {idx ci k a b : Nat} {t : String} (hd : decode q.2.1 pc = .ok (.putfield idx, 3)) (hF : sx_F q.1.cls idx ci k true) (hq : q.1.name = "<init>") (hq2 : ∀ r, vwCl[ci]? = some r → r.1 = q.1.cls) (hk : g.2.2.2.2.2 a = .inl ci) (ha : a < M.1) (ht : sx_ty ci k = .object t) (kk : sx_J g q d (pc + 3) lo st (sx_sR M a k (some b)) bc bs P) : sx_J g q d pc lo (.ref b :: .ref a :: st) M bc bs P :=
  sx_putF (M' := sx_sR M a k (some b)) hd hF hq hq2 hk ha (by rw [ht]; rfl) (by rw [ht]; rfl) rfl sx_sR_o (sx_sR_f (Or.inr ⟨_, ht⟩)) kk
/-! arrays -/
def sx_in (i : Int32) (n : Nat) : Bool := decide (¬ i < 0) && decide (i.toNatClampNeg < n)
theorem sx_in_n {i : Int32} {n : Nat} (h : sx_in i n = true) : ¬ (i < 0 ∨ n ≤ i.toNatClampNeg) := by
  simp [sx_in] at h
  intro q
  rcases q with q | q
  · exact absurd q (by simpa using h.1)
  · omega
theorem sx_arr {a t n : Nat} {s : State} {H : Heap} (Wd : sx_W g M s H) (hk : g.2.2.2.2.2 a = .inr (t, n)) (ha : a < M.1) : H[sx_ad g a]? = some (arrV (g.2.2.1 t) n (fun j => sx_v g (sx_av t M a j))) := by
  have hat := Wd.2.2.1 a ha
  unfold sx_at at hat
  simp only [hk] at hat
  exact hat
theorem sx_iald {a n : Nat} {i : Int32} (hd : decode q.2.1 pc = .ok (.iaload, 1)) (hk : g.2.2.2.2.2 a = .inr (0, n)) (ha : a < M.1) (hi : sx_in i n = true) (kk : sx_J g q d (pc + 1) lo (.int (M.2.1 a i.toNatClampNeg) :: st) M bc bs P) : sx_J g q d pc lo (.int i :: .ref a :: st) M bc bs P := by
  intro p e R s m args below meth c H locs cells slots mc ms ls C S Wd hS hl h1 h2
  have hn := sx_in_n hi
  have hlt : i.toNatClampNeg < n := Nat.not_le.mp fun z => hn (Or.inr z)
  exact W.iald (v := .int (M.2.1 a i.toNatClampNeg)) C.1 C.2.1 (sx_arr Wd hk ha) ((S.2.1 0 (by decide)).1 n _) (fun q => by cases q) (by rw [arrV_size]; exact hn) (by rw [arrV_read _ _ hlt]; rfl) rfl rfl hd (kk p e R s m args below meth c H locs cells slots mc ms ls C S Wd hS hl h1 h2)
theorem sx_bald {a n : Nat} {i : Int32} (hd : decode q.2.1 pc = .ok (.baload, 1)) (hk : g.2.2.2.2.2 a = .inr (1, n)) (ha : a < M.1) (hi : sx_in i n = true) (kk : sx_J g q d (pc + 1) lo (.int (M.2.1 a i.toNatClampNeg) :: st) M bc bs P) : sx_J g q d pc lo (.int i :: .ref a :: st) M bc bs P := by
  intro p e R s m args below meth c H locs cells slots mc ms ls C S Wd hS hl h1 h2
  have hn := sx_in_n hi
  have hlt : i.toNatClampNeg < n := Nat.not_le.mp fun z => hn (Or.inr z)
  exact W.bald (v := .int (M.2.1 a i.toNatClampNeg)) C.1 C.2.1 (sx_arr Wd hk ha) ((S.2.1 1 (by decide)).1 n _) (fun q => by cases q) (by rw [arrV_size]; exact hn) (by rw [arrV_read _ _ hlt]; rfl) rfl rfl hd (kk p e R s m args below meth c H locs cells slots mc ms ls C S Wd hS hl h1 h2)
theorem sx_zald {a n : Nat} {i : Int32} (hd : decode q.2.1 pc = .ok (.baload, 1)) (hk : g.2.2.2.2.2 a = .inr (2, n)) (ha : a < M.1) (hi : sx_in i n = true) (kk : sx_J g q d (pc + 1) lo (.int (M.2.1 a i.toNatClampNeg) :: st) M bc bs P) : sx_J g q d pc lo (.int i :: .ref a :: st) M bc bs P := by
  intro p e R s m args below meth c H locs cells slots mc ms ls C S Wd hS hl h1 h2
  have hn := sx_in_n hi
  have hlt : i.toNatClampNeg < n := Nat.not_le.mp fun z => hn (Or.inr z)
  exact W.zald (v := .int (M.2.1 a i.toNatClampNeg)) C.1 C.2.1 (sx_arr Wd hk ha) ((S.2.1 2 (by decide)).1 n _) (fun q => by cases q) (by rw [arrV_size]; exact hn) (by rw [arrV_read _ _ hlt]; rfl) rfl rfl hd (kk p e R s m args below meth c H locs cells slots mc ms ls C S Wd hS hl h1 h2)
theorem sx_lald {a n : Nat} {i : Int32} (hd : decode q.2.1 pc = .ok (.laload, 1)) (hk : g.2.2.2.2.2 a = .inr (3, n)) (ha : a < M.1) (hi : sx_in i n = true) (kk : sx_J g q d (pc + 1) lo (.long (M.2.2.1 a i.toNatClampNeg) :: st) M bc bs P) : sx_J g q d pc lo (.int i :: .ref a :: st) M bc bs P := by
  intro p e R s m args below meth c H locs cells slots mc ms ls C S Wd hS hl h1 h2
  have hn := sx_in_n hi
  have hlt : i.toNatClampNeg < n := Nat.not_le.mp fun z => hn (Or.inr z)
  exact W.lald (v := .long (M.2.2.1 a i.toNatClampNeg)) C.1 C.2.1 (sx_arr Wd hk ha) ((S.2.1 3 (by decide)).1 n _) (fun q => by cases q) (by rw [arrV_size]; exact hn) (by rw [arrV_read _ _ hlt]; rfl) rfl rfl hd (kk p e R s m args below meth c H locs cells slots mc ms ls C S Wd hS hl h1 h2)
theorem sx_aald {a n t : Nat} {i : Int32} (hd : decode q.2.1 pc = .ok (.aaload, 1)) (ht : t = 4 ∨ t = 5) (hk : g.2.2.2.2.2 a = .inr (t, n)) (ha : a < M.1) (hi : sx_in i n = true) (kk : sx_J g q d (pc + 1) lo (va_rf (M.2.2.2 a i.toNatClampNeg) :: st) M bc bs P) : sx_J g q d pc lo (.int i :: .ref a :: st) M bc bs P := by
  intro p e R s m args below meth c H locs cells slots mc ms ls C S Wd hS hl h1 h2
  have hn := sx_in_n hi
  have hlt : i.toNatClampNeg < n := Nat.not_le.mp fun z => hn (Or.inr z)
  have hr : (sx_tt t).isReference = true := by rcases ht with rfl | rfl <;> rfl
  exact W.aald (v := sx_v g (va_rf (M.2.2.2 a i.toNatClampNeg))) C.1 C.2.1 (sx_arr Wd hk ha) ((S.2.1 t (by omega)).1 n _) hr (fun q => by cases q) (by rw [arrV_size]; exact hn) (by rw [arrV_read _ _ hlt]; rcases ht with rfl | rfl <;> rfl) rfl rfl hd (kk p e R s m args below meth c H locs cells slots mc ms ls C S Wd hS hl h1 h2)
theorem sx_alen {a n t : Nat} (hd : decode q.2.1 pc = .ok (.arraylength, 1)) (ht : t < 6) (hk : g.2.2.2.2.2 a = .inr (t, n)) (ha : a < M.1) (kk : sx_J g q d (pc + 1) lo (.int (Int32.ofNat n) :: st) M bc bs P) : sx_J g q d pc lo (.ref a :: st) M bc bs P := by
  intro p e R s m args below meth c H locs cells slots mc ms ls C S Wd hS hl h1 h2
  exact W.alen (n := Int32.ofNat n) C.1 C.2.1 (sx_arr Wd hk ha) ((S.2.1 t ht).1 n _) (by rw [arrV_size]) rfl rfl hd (kk p e R s m args below meth c H locs cells slots mc ms ls C S Wd hS hl h1 h2)
theorem sx_xld {a n : Nat} {i : Int32} (hd : decode q.2.1 pc = .ok (.iaload, 1)) (hk : g.2.2.2.2.2 a = .inr (9, n)) (hi : sx_in i n = true) (kk : sx_J g q d (pc + 1) lo (.int (M.2.1 a i.toNatClampNeg) :: st) M bc bs P) : sx_J g q d pc lo (.int i :: .ref a :: st) M bc bs P := by
  intro p e R s m args below meth c H locs cells slots mc ms ls C S Wd hS hl h1 h2
  have hn := sx_in_n hi
  have hlt : i.toNatClampNeg < n := Nat.not_le.mp fun z => hn (Or.inr z)
  obtain ⟨b1, b2, cell, c1, c2, c3, c4, c5, c6⟩ := Wd.2.2.2.1 a n hk
  exact W.iald (v := .int (M.2.1 a i.toNatClampNeg)) C.1 C.2.1 c1 c2 c3 (fun z => z.elim (fun z => hn (Or.inl z)) (fun z => absurd (Nat.le_trans c4 z) (Nat.not_le.mpr hlt))) (c6 _ hlt) rfl rfl hd (kk p e R s m args below meth c H locs cells slots mc ms ls C S Wd hS hl h1 h2)
theorem sx_xlen {a n : Nat} (hd : decode q.2.1 pc = .ok (.arraylength, 1)) (hk : g.2.2.2.2.2 a = .inr (9, n)) (kk : sx_J g q d (pc + 1) lo (.int (Int32.ofNat n) :: st) M bc bs P) : sx_J g q d pc lo (.ref a :: st) M bc bs P := by
  intro p e R s m args below meth c H locs cells slots mc ms ls C S Wd hS hl h1 h2
  obtain ⟨b1, b2, cell, c1, c2, c3, c4, c5, c6⟩ := Wd.2.2.2.1 a n hk
  exact W.alen (n := Int32.ofNat n) C.1 C.2.1 c1 c2 c5 rfl rfl hd (kk p e R s m args below meth c H locs cells slots mc ms ls C S Wd hS hl h1 h2)
/-- behind a store into an array -/
theorem sx_W.store {a t n i : Nat} {v : Value} {s : State} {H H1 : Heap} (Wd : sx_W g M s H) (hk : g.2.2.2.2.2 a = .inr (t, n)) (ha : a < M.1) (hM : M'.1 = M.1) (ho : ∀ b, b ≠ a → sx_same M M' b) (hs : ∀ j, sx_av t M' a j = if j = i then v else sx_av t M a j) (e1 : H1[sx_ad g a]? = some ((arrV (g.2.2.1 t) n (fun j => sx_v g (sx_av t M a j))).setSlot i (sx_v g v))) (e2 : H1.size = H.size) (e3 : ∀ x, x ≠ sx_ad g a → H1[x]? = H[x]?) : sx_W g M' s H1 := by
  refine Wd.upd ha hM ho e2 e3 ?_
  unfold sx_at
  simp only [hk]
  rw [e1, arrV_store]
  congr 2
  funext j
  rw [hs j]
  unfold updV
  split <;> rfl
theorem sx_iast {a n : Nat} {i x : Int32} (hd : decode q.2.1 pc = .ok (.iastore, 1)) (hk : g.2.2.2.2.2 a = .inr (0, n)) (ha : a < M.1) (hi : sx_in i n = true) (kk : sx_J g q d (pc + 1) lo st (sx_sI M a i.toNatClampNeg x) bc bs P) : sx_J g q d pc lo (.int x :: .int i :: .ref a :: st) M bc bs P := by
  intro p e R s m args below meth c H locs cells slots mc ms ls C S Wd hS hl h1 h2
  have hn := sx_in_n hi
  refine W.iast C.1 C.2.1 (sx_arr Wd hk ha) ((S.2.1 0 (by decide)).1 n _) (fun q => by cases q) (by rw [arrV_size]; exact hn) rfl rfl hd fun H1 e1 e2 e3 => ?_
  exact kk p e R s m args below meth c H1 _ cells slots mc ms ls C S (Wd.store (v := .int x) hk ha rfl sx_sI_o (fun j => by unfold sx_av sx_sI; by_cases z : j = i.toNatClampNeg <;> simp [z]) e1 e2 e3) (hS.put e2 e3 (sx_A_in (Nat.lt_of_lt_of_le ha Wd.2.1))) hl h1 h2
theorem sx_bast {a n : Nat} {i x : Int32} (hd : decode q.2.1 pc = .ok (.bastore, 1)) (hk : g.2.2.2.2.2 a = .inr (1, n)) (ha : a < M.1) (hi : sx_in i n = true) (kk : sx_J g q d (pc + 1) lo st (sx_sI M a i.toNatClampNeg x.toInt8.toInt32) bc bs P) : sx_J g q d pc lo (.int x :: .int i :: .ref a :: st) M bc bs P := by
  intro p e R s m args below meth c H locs cells slots mc ms ls C S Wd hS hl h1 h2
  have hn := sx_in_n hi
  refine W.bast C.1 C.2.1 (sx_arr Wd hk ha) ((S.2.1 1 (by decide)).1 n _) (fun q => by cases q) (by rw [arrV_size]; exact hn) rfl rfl hd fun H1 e1 e2 e3 => ?_
  exact kk p e R s m args below meth c H1 _ cells slots mc ms ls C S (Wd.store (v := .int x.toInt8.toInt32) hk ha rfl sx_sI_o (fun j => by unfold sx_av sx_sI; by_cases z : j = i.toNatClampNeg <;> simp [z]) e1 e2 e3) (hS.put e2 e3 (sx_A_in (Nat.lt_of_lt_of_le ha Wd.2.1))) hl h1 h2
theorem sx_zast {a n : Nat} {i x : Int32} (hd : decode q.2.1 pc = .ok (.bastore, 1)) (hk : g.2.2.2.2.2 a = .inr (2, n)) (ha : a < M.1) (hi : sx_in i n = true) (hx : narrow .boolean (.int x) = .int x) (kk : sx_J g q d (pc + 1) lo st (sx_sI M a i.toNatClampNeg x) bc bs P) : sx_J g q d pc lo (.int x :: .int i :: .ref a :: st) M bc bs P := by
  intro p e R s m args below meth c H locs cells slots mc ms ls C S Wd hS hl h1 h2
  have hn := sx_in_n hi
  refine W.zast C.1 C.2.1 (sx_arr Wd hk ha) ((S.2.1 2 (by decide)).1 n _) (fun q => by cases q) (by rw [arrV_size]; exact hn) rfl rfl hd fun H1 e1 e2 e3 => ?_
  rw [hx] at e1
  exact kk p e R s m args below meth c H1 _ cells slots mc ms ls C S (Wd.store (v := .int x) hk ha rfl sx_sI_o (fun j => by unfold sx_av sx_sI; by_cases z : j = i.toNatClampNeg <;> simp [z]) e1 e2 e3) (hS.put e2 e3 (sx_A_in (Nat.lt_of_lt_of_le ha Wd.2.1))) hl h1 h2
theorem sx_last {a n : Nat} {i : Int32} {x : Int64} (hd : decode q.2.1 pc = .ok (.lastore, 1)) (hk : g.2.2.2.2.2 a = .inr (3, n)) (ha : a < M.1) (hi : sx_in i n = true) (kk : sx_J g q d (pc + 1) lo st (sx_sL M a i.toNatClampNeg x) bc bs P) : sx_J g q d pc lo (.long x :: .int i :: .ref a :: st) M bc bs P := by
  intro p e R s m args below meth c H locs cells slots mc ms ls C S Wd hS hl h1 h2
  have hn := sx_in_n hi
  refine W.last C.1 C.2.1 (sx_arr Wd hk ha) ((S.2.1 3 (by decide)).1 n _) (fun q => by cases q) (by rw [arrV_size]; exact hn) rfl rfl hd fun H1 e1 e2 e3 => ?_
  exact kk p e R s m args below meth c H1 _ cells slots mc ms ls C S (Wd.store (v := .long x) hk ha rfl sx_sL_o (fun j => by unfold sx_av sx_sL; by_cases z : j = i.toNatClampNeg <;> simp [z]) e1 e2 e3) (hS.put e2 e3 (sx_A_in (Nat.lt_of_lt_of_le ha Wd.2.1))) hl h1 h2
end SXH
