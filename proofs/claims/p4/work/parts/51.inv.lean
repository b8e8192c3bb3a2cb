/-! THE INVARIANT OF RANGES -/
def lk {A : Type} (L : List (Nat × A)) (a : Nat) : Option A := match L with
  | [] => none
  | q :: r => if q.1 = a then some q.2 else lk r a
def R_of (A : List (Nat × Int × Int)) (F : List (Nat × List (Nat × Int × Int))) (a k : Nat) : Option (Int × Int) := match lk A a with
  | some r => some r
  | none => match lk F a with
    | none => none
    | some L => lk L k
abbrev Tb := (Nat → Nat → Option (Int × Int)) × (Nat → Nat → Bool) × (sv_V → Prop) × (Nat → Nat → Bool)
/-- X depends on the numbers of its support alone -/
def Sup (X : sv_V → Prop) (xs : Nat → Nat → Bool) : Prop := ∀ V W : sv_V, (∀ a k, xs a k = true → W.1 a k = V.1 a k ∧ W.2.1 a k = V.2.1 a k) → X V → X W
def SIx (T : Tb) (G V : sv_V) : Prop := (∀ a k l h, T.1 a k = some (l, h) → rg (V.1 a k) l h) ∧ (∀ a k, T.2.1 a k = true → V.1 a k = G.1 a k ∧ V.2.1 a k = G.2.1 a k ∧ V.2.2 a k = G.2.2 a k) ∧ (∃ b, b ∈ [31, 45] ∧ V.2.2 69 6 = some b) ∧ (∃ b, b ∈ [82, 93, 103, 113, 123, 133] ∧ V.2.2 69 7 = some b) ∧ T.2.2.1 V ∧ Sup T.2.2.1 T.2.2.2
section SG
variable {T : Tb} {G V V2 : sv_V}
theorem SIx.rd (S : SIx T G V) {a k : Nat} {l h : Int} (e : T.1 a k = some (l, h)) : rg (V.1 a k) l h := S.1 a k l h e
theorem SIx.rdA (S : SIx T G V) {a k : Nat} {l h : Int} (e : ∀ k, T.1 a k = some (l, h)) : rg (V.1 a k) l h := S.1 a k l h (e k)
def inR (r : Option (Int × Int)) (l h : Int) : Bool := match r with
  | none => false
  | some q => decide (l ≤ q.1) && decide (q.2 ≤ h)
def outR (r : Option (Int × Int)) (l h : Int) : Bool := match r with
  | none => true
  | some q => decide (q.1 ≤ l) && decide (h ≤ q.2)
theorem inR_e {r : Option (Int × Int)} {l h : Int} (e : inR r l h = true) : ∃ a b, r = some (a, b) ∧ l ≤ a ∧ b ≤ h := by
  match r, e with
  | some (a, b), e =>
    simp only [inR, Bool.and_eq_true, decide_eq_true_eq] at e
    exact ⟨a, b, rfl, e.1, e.2⟩
theorem SIx.rdS (S : SIx T G V) {L : List Nat} {a k : Nat} {l h : Int} (m : a ∈ L) (e : L.all (fun a => inR (T.1 a k) l h) = true) : rg (V.1 a k) l h := by
  obtain ⟨x, y, e1, e2, e3⟩ := inR_e (List.all_eq_true.mp e a m)
  exact rg_m (S.1 a k x y e1) e2 e3
theorem SIx.rdSa (S : SIx T G V) {L : List Nat} {a k : Nat} {l h : Int} (m : a ∈ L) (e : ∀ k, L.all (fun a => inR (T.1 a k) l h) = true) : rg (V.1 a k) l h := S.rdS m (e k)
def okI (T : Tb) (a k : Nat) (l h : Int) : Prop := (T.2.1 a k = false ∧ T.2.2.2 a k = false) ∧ outR (T.1 a k) l h = true
def okN (T : Tb) (a k : Nat) : Prop := (T.2.1 a k = false ∧ T.2.2.2 a k = false) ∧ T.1 a k = none
theorem SIx.w0 (S : SIx T G V) {a k : Nat} {x : Int32} (g : T.2.1 a k = false ∧ T.2.2.2 a k = false) (r : ∀ l h, T.1 a k = some (l, h) → rg x l h) : SIx T G (sv_I V a k x) := by
  refine ⟨fun b j l h e => ?_, fun b j e => ?_, S.2.2.1, S.2.2.2.1, S.2.2.2.2.2 V _ (fun b j e => ⟨?_, rfl⟩) S.2.2.2.2.1, S.2.2.2.2.2⟩
  rotate_left
  rotate_left
  · show (if b = a ∧ j = k then x else V.1 b j) = _
    rw [if_neg]
    rintro ⟨rfl, rfl⟩
    rw [g.2] at e
    cases e
  · show rg (if b = a ∧ j = k then x else V.1 b j) l h
    by_cases q : b = a ∧ j = k
    · rw [if_pos q]
      obtain ⟨rfl, rfl⟩ := q
      exact r l h e
    · rw [if_neg q]
      exact S.1 b j l h e
  · refine ⟨?_, (S.2.1 b j e).2⟩
    show (if b = a ∧ j = k then x else V.1 b j) = _
    rw [if_neg]
    · exact (S.2.1 b j e).1
    · rintro ⟨rfl, rfl⟩
      rw [g.1] at e
      cases e
theorem SIx.wc (S : SIx T G V) {a k : Nat} {x : Int32} {l h : Int} (g : okI T a k l h) (r : rg x l h) : SIx T G (sv_I V a k x) := S.w0 g.1 (fun l2 h2 e => by
  have q := g.2
  rw [e] at q
  simp only [outR, Bool.and_eq_true, decide_eq_true_eq] at q
  exact rg_m r q.1 q.2)
theorem SIx.wn (S : SIx T G V) {a k : Nat} {x : Int32} (g : okN T a k) : SIx T G (sv_I V a k x) := S.w0 g.1 (fun l2 h2 e => by
  rw [g.2] at e
  cases e)
theorem SIx.wca (S : SIx T G V) {a k : Nat} {x : Int32} {l h : Int} (g : ∀ k, okI T a k l h) (r : rg x l h) : SIx T G (sv_I V a k x) := S.wc (g k) r
theorem SIx.wna (S : SIx T G V) {a k : Nat} {x : Int32} (g : ∀ k, okN T a k) : SIx T G (sv_I V a k x) := S.wn (g k)
theorem SIx.wcS (S : SIx T G V) {L : List Nat} {a k : Nat} {x : Int32} {l h : Int} (m : a ∈ L) (g : L.all (fun a => !(T.2.1 a k) && !(T.2.2.2 a k) && outR (T.1 a k) l h) = true) (r : rg x l h) : SIx T G (sv_I V a k x) := by
  have q := List.all_eq_true.mp g a m
  simp only [Bool.and_eq_true, Bool.not_eq_true'] at q
  exact S.wc ⟨⟨q.1.1, q.1.2⟩, q.2⟩ r
theorem SIx.wnS (S : SIx T G V) {L : List Nat} {a k : Nat} {x : Int32} (m : a ∈ L) (g : L.all (fun a => !(T.2.1 a k) && !(T.2.2.2 a k) && (T.1 a k).isNone) = true) : SIx T G (sv_I V a k x) := by
  have q := List.all_eq_true.mp g a m
  simp only [Bool.and_eq_true, Bool.not_eq_true', Option.isNone_iff_eq_none] at q
  exact S.wn ⟨⟨q.1.1, q.1.2⟩, q.2⟩
theorem SIx.wcSa (S : SIx T G V) {L : List Nat} {a k : Nat} {x : Int32} {l h : Int} (m : a ∈ L) (g : ∀ k, L.all (fun a => !(T.2.1 a k) && !(T.2.2.2 a k) && outR (T.1 a k) l h) = true) (r : rg x l h) : SIx T G (sv_I V a k x) := S.wcS m (g k) r
theorem SIx.wnSa (S : SIx T G V) {L : List Nat} {a k : Nat} {x : Int32} (m : a ∈ L) (g : ∀ k, L.all (fun a => !(T.2.1 a k) && !(T.2.2.2 a k) && (T.1 a k).isNone) = true) : SIx T G (sv_I V a k x) := S.wnS m (g k)
theorem SIx.wL (S : SIx T G V) {a k : Nat} {x : Int64} (g : T.2.1 a k = false ∧ T.2.2.2 a k = false) : SIx T G (sv_L V a k x) := by
  refine ⟨S.1, fun b j e => ⟨(S.2.1 b j e).1, ?_, (S.2.1 b j e).2.2⟩, S.2.2.1, S.2.2.2.1, S.2.2.2.2.2 V _ (fun b j e => ⟨rfl, ?_⟩) S.2.2.2.2.1, S.2.2.2.2.2⟩
  · show (if b = a ∧ j = k then x else V.2.1 b j) = _
    rw [if_neg]
    · exact (S.2.1 b j e).2.1
    · rintro ⟨rfl, rfl⟩
      rw [g.1] at e
      cases e
  · show (if b = a ∧ j = k then x else V.2.1 b j) = _
    rw [if_neg]
    rintro ⟨rfl, rfl⟩
    rw [g.2] at e
    cases e
theorem SIx.wLa (S : SIx T G V) {a k : Nat} {x : Int64} (g : ∀ k, T.2.1 a k = false ∧ T.2.2.2 a k = false) : SIx T G (sv_L V a k x) := S.wL (g k)
theorem SIx.wR6 (S : SIx T G V) {b : Nat} (m : b ∈ [31, 45]) (g : T.2.1 69 6 = false) : SIx T G (sv_R V 69 6 (some b)) := by
  refine ⟨S.1, fun c j e => ⟨(S.2.1 c j e).1, (S.2.1 c j e).2.1, ?_⟩, ⟨b, m, rfl⟩, S.2.2.2.1, S.2.2.2.2.2 V _ (fun _ _ _ => ⟨rfl, rfl⟩) S.2.2.2.2.1, S.2.2.2.2.2⟩
  show (if c = 69 ∧ j = 6 then some b else V.2.2 c j) = _
  rw [if_neg]
  · exact (S.2.1 c j e).2.2
  · rintro ⟨rfl, rfl⟩
    rw [g] at e
    cases e
theorem SIx.wR7 (S : SIx T G V) {b : Nat} (m : b ∈ [82, 93, 103, 113, 123, 133]) (g : T.2.1 69 7 = false) : SIx T G (sv_R V 69 7 (some b)) := by
  refine ⟨S.1, fun c j e => ⟨(S.2.1 c j e).1, (S.2.1 c j e).2.1, ?_⟩, S.2.2.1, ⟨b, m, rfl⟩, S.2.2.2.2.2 V _ (fun _ _ _ => ⟨rfl, rfl⟩) S.2.2.2.2.1, S.2.2.2.2.2⟩
  show (if c = 69 ∧ j = 7 then some b else V.2.2 c j) = _
  rw [if_neg]
  · exact (S.2.1 c j e).2.2
  · rintro ⟨rfl, rfl⟩
    rw [g] at e
    cases e
/-- a copy: what the target's places must be, those of the source are -/
def okC (T : Tb) (a b : Nat) : Prop := ∀ i j, (T.2.1 b j = false ∧ T.2.2.2 b j = false) ∧ ∀ l h, T.1 b j = some (l, h) → ∃ l2 h2, T.1 a i = some (l2, h2) ∧ l ≤ l2 ∧ h2 ≤ h
theorem SIx.wC (S : SIx T G V) {a sp b dp n : Nat} (g : okC T a b) : SIx T G (sv_C V a sp b dp n) := by
  refine ⟨fun c j l h e => ?_, fun c j e => ⟨?_, (S.2.1 c j e).2⟩, S.2.2.1, S.2.2.2.1, S.2.2.2.2.2 V _ (fun c j e => ⟨?_, rfl⟩) S.2.2.2.2.1, S.2.2.2.2.2⟩
  rotate_left
  rotate_left
  · show (if c = b then va_cpy (V.1 a) (V.1 b) sp dp n j else V.1 c j) = _
    rw [if_neg]
    rintro rfl
    rw [(g 0 j).1.2] at e
    cases e
  · show rg (if c = b then va_cpy (V.1 a) (V.1 b) sp dp n j else V.1 c j) l h
    by_cases q : c = b
    · subst q
      rw [if_pos rfl]
      unfold va_cpy
      split
      · obtain ⟨l2, h2, e1, e2, e3⟩ := (g _ j).2 l h e
        exact rg_m (S.1 a _ l2 h2 e1) e2 e3
      · exact S.1 c j l h e
    · rw [if_neg q]
      exact S.1 c j l h e
  · show (if c = b then va_cpy (V.1 a) (V.1 b) sp dp n j else V.1 c j) = _
    rw [if_neg]
    · exact (S.2.1 c j e).1
    · rintro rfl
      rw [(g 0 j).1.1] at e
      cases e
theorem rd_s {a k : Nat} {x : Int32} (q : V2 = sv_I V a k x) : V2.1 a k = x := by
  subst q
  exact vI_same _ _ _ _
theorem rd_k {a k b j : Nat} {x : Int32} (q : V2 = sv_I V a k x) (n : j ≠ k) : V2.1 b j = V.1 b j := by
  subst q
  show (if b = a ∧ j = k then x else V.1 b j) = _
  rw [if_neg (fun e => n e.2)]
theorem rd_c {a k b j : Nat} {x : Int32} (q : V2 = sv_I V a k x) (n : b ≠ a) : V2.1 b j = V.1 b j := by
  subst q
  exact vI_cell _ _ _ _ n
theorem rd_d {a k b j : Nat} {x : Int32} {L M : List Nat} (q : V2 = sv_I V a k x) (m : b ∈ L) (n : a ∈ M) (e : L.all (fun b => !(M.contains b)) = true) : V2.1 b j = V.1 b j := by
  refine rd_c q ?_
  rintro rfl
  have u := List.all_eq_true.mp e b m
  rw [List.contains_iff_mem.mpr n] at u
  cases u
theorem wr_d {a k b j : Nat} {x : Int32} {l h : Int} {L M : List Nat} (q : V2 = sv_I V a k x) (m : b ∈ L) (n : a ∈ M) (e : L.all (fun b => !(M.contains b)) = true) (p : rg (V.1 b j) l h) : rg (V2.1 b j) l h := by
  rw [rd_d q m n e]
  exact p
theorem rd_R {a k b j : Nat} {x : Option Nat} (q : V2 = sv_R V a k x) : V2.1 b j = V.1 b j := by
  subst q
  rfl
theorem rd_L {a k b j : Nat} {x : Int64} (q : V2 = sv_L V a k x) : V2.1 b j = V.1 b j := by
  subst q
  rfl
theorem wr_s {a k : Nat} {x : Int32} {l h : Int} (q : V2 = sv_I V a k x) (p : rg x l h) : rg (V2.1 a k) l h := by
  subst q
  rw [vI_same]
  exact p
theorem wr_k {a k b j : Nat} {x : Int32} {l h : Int} (q : V2 = sv_I V a k x) (n : j ≠ k) (p : rg (V.1 b j) l h) : rg (V2.1 b j) l h := by
  subst q
  show rg (if b = a ∧ j = k then x else V.1 b j) l h
  rw [if_neg (fun e => n e.2)]
  exact p
theorem wr_c {a k b j : Nat} {x : Int32} {l h : Int} (q : V2 = sv_I V a k x) (n : b ≠ a) (p : rg (V.1 b j) l h) : rg (V2.1 b j) l h := by
  subst q
  rw [vI_cell _ _ _ _ n]
  exact p
theorem wr_L {a k b j : Nat} {x : Int64} {l h : Int} (q : V2 = sv_L V a k x) (p : rg (V.1 b j) l h) : rg (V2.1 b j) l h := by
  subst q
  exact p
theorem wr_R {a k b j : Nat} {x : Option Nat} {l h : Int} (q : V2 = sv_R V a k x) (p : rg (V.1 b j) l h) : rg (V2.1 b j) l h := by
  subst q
  exact p
theorem wr_cp {a sp c dp n b j : Nat} {l h : Int} (q : V2 = sv_C V a sp c dp n) (m : b ≠ c) (p : rg (V.1 b j) l h) : rg (V2.1 b j) l h := by
  subst q
  show rg (if b = c then _ else V.1 b j) l h
  rw [if_neg m]
  exact p
def QI (T : Tb) (G : sv_V) (l h : Int) (a : Int32 × sv_V) : Prop := SIx T G a.2 ∧ rg a.1 l h
def QL (T : Tb) (G : sv_V) (l h : Int) (a : Int64 × sv_V) : Prop := SIx T G a.2 ∧ rl a.1 l h
theorem sf_w {B : Type} {P : B → Prop} {W : sv_V} {f : sv_V → Option B} (S : SIx T G W) (K : ∀ V2, V2 = W → SIx T G V2 → Sg P (f V2)) : Sg P (sx_let W f) := K W rfl S
theorem sf_wb {A B : Type} {P : B → Prop} {W : sv_V} {g : sv_V → Option A} {f : A → Option B} (S : SIx T G W) (K : ∀ V2, V2 = W → SIx T G V2 → Sg P ((g V2).bind f)) : Sg P ((sx_let W g).bind f) := K W rfl S
theorem sf_sI {x : Int32} {l h : Int} (S : SIx T G V) (r : rg x l h) : Sg (QI T G l h) (some (x, V)) := ⟨_, rfl, S, r⟩
theorem sf_sL {x : Int64} {l h : Int} (S : SIx T G V) (r : rl x l h) : Sg (QL T G l h) (some (x, V)) := ⟨_, rfl, S, r⟩
theorem sf_sV (S : SIx T G V) : Sg (SIx T G) (some V) := ⟨_, rfl, S⟩
theorem sf_bI {B : Type} {P : B → Prop} {o : Option (Int32 × sv_V)} {f : Int32 × sv_V → Option B} {l h : Int} (H : Sg (QI T G l h) o) (K : ∀ x V, SIx T G V → rg x l h → Sg P (f (x, V))) : Sg P (o.bind f) := by
  obtain ⟨⟨x, V⟩, rfl, S, r⟩ := H
  exact K x V S r
theorem sf_bL {B : Type} {P : B → Prop} {o : Option (Int64 × sv_V)} {f : Int64 × sv_V → Option B} {l h : Int} (H : Sg (QL T G l h) o) (K : ∀ x V, SIx T G V → rl x l h → Sg P (f (x, V))) : Sg P (o.bind f) := by
  obtain ⟨⟨x, V⟩, rfl, S, r⟩ := H
  exact K x V S r
theorem sf_bV {B : Type} {P : B → Prop} {o : Option sv_V} {f : sv_V → Option B} (H : Sg (SIx T G) o) (K : ∀ V, SIx T G V → Sg P (f V)) : Sg P (o.bind f) := by
  obtain ⟨V, rfl, S⟩ := H
  exact K V S
def QP (V : sv_V) (l h : Int) (a : Int32 × sv_V) : Prop := a.2 = V ∧ rg a.1 l h
def QR (V : sv_V) (l h : Int) (a : Int64 × sv_V) : Prop := a.2 = V ∧ rl a.1 l h
theorem sf_pI {x : Int32} {l h : Int} (r : rg x l h) : Sg (QP V l h) (some (x, V)) := ⟨_, rfl, rfl, r⟩
theorem sf_pL {x : Int64} {l h : Int} (r : rl x l h) : Sg (QR V l h) (some (x, V)) := ⟨_, rfl, rfl, r⟩
theorem sf_qI {B : Type} {P : B → Prop} {o : Option (Int32 × sv_V)} {f : Int32 × sv_V → Option B} {l h : Int} (H : Sg (QP V l h) o) (K : ∀ x, rg x l h → Sg P (f (x, V))) : Sg P (o.bind f) := by
  obtain ⟨⟨x, W⟩, rfl, e, r⟩ := H
  cases e
  exact K x r
theorem sf_qL {B : Type} {P : B → Prop} {o : Option (Int64 × sv_V)} {f : Int64 × sv_V → Option B} {l h : Int} (H : Sg (QR V l h) o) (K : ∀ x, rl x l h → Sg P (f (x, V))) : Sg P (o.bind f) := by
  obtain ⟨⟨x, W⟩, rfl, e, r⟩ := H
  cases e
  exact K x r
theorem sf_nI {o : Option (Int32 × sv_V)} {l h l2 h2 : Int} (a : l2 ≤ l) (b : h ≤ h2) (H : Sg (QP V l h) o) : Sg (QP V l2 h2) o := by
  obtain ⟨⟨x, W⟩, rfl, e, r⟩ := H
  exact ⟨_, rfl, e, rg_m r a b⟩
theorem sf_nL {o : Option (Int64 × sv_V)} {l h l2 h2 : Int} (a : l2 ≤ l) (b : h ≤ h2) (H : Sg (QR V l h) o) : Sg (QR V l2 h2) o := by
  obtain ⟨⟨x, W⟩, rfl, e, r⟩ := H
  exact ⟨_, rfl, e, rl_m r a b⟩
def QX {A : Type} (Q : A × sv_V → Prop) (p : sv_V → Prop) (a : A × sv_V) : Prop := Q a ∧ p a.2
def QY (Q : sv_V → Prop) (p : sv_V → Prop) (a : sv_V) : Prop := Q a ∧ p a
theorem sf_sX {A : Type} {Q : A × sv_V → Prop} {p : sv_V → Prop} {x : A} (h : Sg Q (some (x, V))) (k : p V) : Sg (QX Q p) (some (x, V)) := by
  obtain ⟨a, e, q⟩ := h
  cases e
  exact ⟨_, rfl, q, k⟩
theorem sf_sY {Q : sv_V → Prop} {p : sv_V → Prop} (h : Sg Q (some V)) (k : p V) : Sg (QY Q p) (some V) := by
  obtain ⟨a, e, q⟩ := h
  cases e
  exact ⟨_, rfl, q, k⟩
theorem sf_bXI {B : Type} {P : B → Prop} {o : Option (Int32 × sv_V)} {f : Int32 × sv_V → Option B} {l h : Int} {p : sv_V → Prop} (H : Sg (QX (QI T G l h) p) o) (K : ∀ x V, SIx T G V → rg x l h → p V → Sg P (f (x, V))) : Sg P (o.bind f) := by
  obtain ⟨⟨x, V⟩, rfl, ⟨S, r⟩, k⟩ := H
  exact K x V S r k
theorem sf_bY {B : Type} {P : B → Prop} {o : Option sv_V} {f : sv_V → Option B} {p : sv_V → Prop} (H : Sg (QY (SIx T G) p) o) (K : ∀ V, SIx T G V → p V → Sg P (f V)) : Sg P (o.bind f) := by
  obtain ⟨V, rfl, S, k⟩ := H
  exact K V S k
theorem sf_mI {o : Option (Int32 × sv_V)} {l h l2 h2 : Int} (a : l2 ≤ l) (b : h ≤ h2) (H : Sg (QI T G l h) o) : Sg (QI T G l2 h2) o := by
  obtain ⟨⟨x, V⟩, rfl, S, r⟩ := H
  exact ⟨_, rfl, S, rg_m r a b⟩
theorem sf_mL {o : Option (Int64 × sv_V)} {l h l2 h2 : Int} (a : l2 ≤ l) (b : h ≤ h2) (H : Sg (QL T G l h) o) : Sg (QL T G l2 h2) o := by
  obtain ⟨⟨x, V⟩, rfl, S, r⟩ := H
  exact ⟨_, rfl, S, rl_m r a b⟩
theorem sf_ref6 {B : Type} {P : B → Prop} {f : Nat → Option B} (S : SIx T G V) (K : ∀ b, b ∈ [31, 45] → V.2.2 69 6 = some b → Sg P (f b)) : Sg P ((V.2.2 69 6).bind f) := by
  obtain ⟨b, m, e⟩ := S.2.2.1
  rw [e]
  exact K b m e
theorem sf_ref7 {B : Type} {P : B → Prop} {f : Nat → Option B} (S : SIx T G V) (K : ∀ b, b ∈ [82, 93, 103, 113, 123, 133] → V.2.2 69 7 = some b → Sg P (f b)) : Sg P ((V.2.2 69 7).bind f) := by
  obtain ⟨b, m, e⟩ := S.2.2.2.1
  rw [e]
  exact K b m e
end SG
def RefsOf (G : sv_V) (bo bm : Nat) : Prop := bo ∈ [82, 93, 103, 113, 123, 133] ∧ bm ∈ [31, 45] ∧ G.2.2 69 7 = some bo ∧ G.2.2 69 6 = some bm
theorem ref7 {T : Tb} {G V : sv_V} {bo bm : Nat} (S : SIx T G V) (h : RefsOf G bo bm) (g : T.2.1 69 7 = true) : V.2.2 69 7 = some bo := (S.2.1 69 7 g).2.2.trans h.2.2.1
theorem ref6 {T : Tb} {G V : sv_V} {bo bm : Nat} (S : SIx T G V) (h : RefsOf G bo bm) (g : T.2.1 69 6 = true) : V.2.2 69 6 = some bm := (S.2.1 69 6 g).2.2.trans h.2.2.2
def offR (r : Option (Int × Int)) (l h : Int) : Bool := match r with
  | none => false
  | some q => decide (q.2 < l) || decide (h < q.1)
theorem SIx.cut {T : Tb} {G V : sv_V} (S : SIx T G V) {L M : List Nat} {b k : Nat} {l h : Int} (m : b ∈ L) (p : rg (V.1 b k) l h) (e : L.all (fun b => M.contains b || offR (T.1 b k) l h) = true) : b ∈ M := by
  have q := List.all_eq_true.mp e b m
  rw [Bool.or_eq_true] at q
  rcases q with q | q
  · exact List.contains_iff_mem.mp q
  · exfalso
    match hr : T.1 b k, q with
    | some (x, y), q =>
      simp only [offR, Bool.or_eq_true, decide_eq_true_eq] at q
      have r := S.1 b k x y hr
      unfold rg at *
      omega
theorem sf_crS {B : Type} {P : B → Prop} {f : Nat → Option B} {L T : List Nat} {b k : Nat} (m : b ∈ L) (e : L.all (fun b => match cr b k with | some c => T.contains c | none => false) = true) (K : ∀ c, c ∈ T → cr b k = some c → Sg P (f c)) : Sg P ((cr b k).bind f) := by
  have q := List.all_eq_true.mp e b m
  match h : cr b k, q with
  | some c, q => exact K c (List.contains_iff_mem.mp q) h
theorem sf_lenS {B : Type} {P : B → Prop} {f : Nat → Option B} {L : List Nat} {t c m : Nat} (h : c ∈ L) (e : L.all (fun c => match sv_len t c with | some n => decide (m ≤ n) | none => false) = true) (K : ∀ n, m ≤ n → sv_len t c = some n → Sg P (f n)) : Sg P ((sv_len t c).bind f) := by
  have q := List.all_eq_true.mp e c h
  match h : sv_len t c, q with
  | some n, q => exact K n (of_decide_eq_true q) h
theorem sf_lenE {B : Type} {P : B → Prop} {f : Nat → Option B} {L : List Nat} {t c n : Nat} (h : c ∈ L) (e : L.all (fun c => decide (sv_len t c = some n)) = true) (K : Sg P (f n)) : Sg P ((sv_len t c).bind f) := by
  rw [of_decide_eq_true (List.all_eq_true.mp e c h)]
  exact K
theorem sf_crI {B : Type} {P : B → Prop} {f : Nat → Option B} {T : List Nat} {b : Nat} {i : Int32} {l h : Int} (p : rg i l h) (c : 0 ≤ l) (e : (List.range (h + 1).toNat).all (fun k => decide ((k : Int) < l) || match cr b k with | some c => T.contains c | none => false) = true) (K : ∀ c, c ∈ T → Sg P (f c)) : Sg P ((cr b i.toNatClampNeg).bind f) := by
  have p1 := p.1
  have p2 := p.2
  have e1 : i.toNatClampNeg = i.toInt.toNat := rfl
  have q := List.all_eq_true.mp e i.toNatClampNeg (List.mem_range.mpr (by omega))
  rw [decide_eq_false (show ¬ ((i.toNatClampNeg : Nat) : Int) < l by omega), Bool.false_or] at q
  match h : cr b i.toNatClampNeg, q with
  | some c, q => exact K c (List.contains_iff_mem.mp q)
theorem mem_of {L T : List Nat} {a : Nat} (m : a ∈ L) (e : L.all (fun a => T.contains a) = true) : a ∈ T := List.contains_iff_mem.mp (List.all_eq_true.mp e a m)
theorem lay_S {L : List Nat} {b n : Nat} (m : b ∈ L) (e : L.all (fun b => decide (lay b = .inl n)) = true) : lay b = .inl n := of_decide_eq_true (List.all_eq_true.mp e b m)
/-! capacities of Points -/
def cap (b : Nat) : Int := if b = 34 ∨ b = 48 then 64 else if b = 82 then 0 else if b = 17 then 100 else 102
def ptL : List Nat := [17, 34, 48, 82, 93, 103, 113, 123, 133]
theorem cap_len {b j c n : Nat} (m : b ∈ ptL) (e : cr b j = some c) (q : sv_len 0 c = some n) (hj : j < 6) : cap b ≤ n := by
  have t : ptL.all (fun b => (List.range 6).all fun j => match cr b j with | some c => (match sv_len 0 c with | some n => decide (cap b ≤ n) | none => true) | none => true) = true := by decide +kernel
  have u := List.all_eq_true.mp (List.all_eq_true.mp t b m) j (List.mem_range.mpr hj)
  rw [e] at u
  simp only [q] at u
  exact of_decide_eq_true u
theorem in_cap {i : Int32} {l h : Int} {b n : Nat} (k : i.toInt < cap b) (p : rg i l h) (a : 0 ≤ l) (c : cap b ≤ n) : sx_in i n = true := in_rg (l := i.toInt) (h := i.toInt) ⟨Int.le_refl _, Int.le_refl _⟩ (Int.le_trans a p.1) (by omega)
theorem cap_S {L : List Nat} {i : Int32} {l h : Int} {b : Nat} (m : b ∈ L) (e : L.all (fun b => decide (h < cap b)) = true) (p : rg i l h) : i.toInt < cap b := Int.lt_of_le_of_lt p.2 (of_decide_eq_true (List.all_eq_true.mp e b m))
theorem cap_c {i : Int32} {l h : Int} {b : Nat} (e : h < cap b) (p : rg i l h) : i.toInt < cap b := Int.lt_of_le_of_lt p.2 e
theorem cap_eq {i j : Int32} {b : Nat} (q : j = i) (h : i.toInt < cap b) : j.toInt < cap b := q ▸ h
theorem ne_eq' {x y : Int32} (q : x = y) (h : ¬ y = 0) : ¬ x = 0 := q ▸ h
theorem cap_le {i j : Int32} {b : Nat} (h : i ≤ j) (k : j.toInt < cap b) : i.toInt < cap b := Int.lt_of_le_of_lt (Int32.le_iff_toInt_le.mp h) k
theorem cap_ge {i : Int32} {l h : Int} {b : Nat} (k : 100 ≤ cap b) (p : rg i l h) (c : h < 100) : i.toInt < cap b := Int.lt_of_le_of_lt p.2 (Int.lt_of_lt_of_le c k)
theorem cap_mn {L : List Nat} {b : Nat} (m : b ∈ L) (e : L.all (fun b => decide (100 ≤ cap b)) = true) : 100 ≤ cap b := of_decide_eq_true (List.all_eq_true.mp e b m)
theorem okCS {T : Tb} {M : List Nat} {a b : Nat} (m : b ∈ M) (g : ∀ k, M.all (fun a => !(T.2.1 a k) && !(T.2.2.2 a k) && (T.1 a k).isNone) = true) : okC T a b := fun i j => by
  have q := List.all_eq_true.mp (g j) b m
  simp only [Bool.and_eq_true, Bool.not_eq_true', Option.isNone_iff_eq_none] at q
  refine ⟨⟨q.1.1, q.1.2⟩, fun l h e => ?_⟩
  rw [q.2] at e
  cases e
def ph (b : Nat) : Int := if cap b = 102 then 2 else 0
def capok (T : Tb) : Prop := ptL.all (fun b => decide (T.1 b 9 = some (0, cap b - ph b)) && decide (T.1 b 11 = some (ph b, ph b))) = true
theorem cap_of {T : Tb} {G V : sv_V} {i : Int32} {b : Nat} (k : capok T) (m : b ∈ ptL) (S : SIx T G V) (h : i < V.1 b 9 + V.1 b 11) : i.toInt < cap b := by
  have q := List.all_eq_true.mp k b m
  simp only [Bool.and_eq_true, decide_eq_true_eq] at q
  have p1 := S.1 b 9 _ _ q.1
  have p2 := S.1 b 11 _ _ q.2
  have c1 : 0 ≤ ph b ∧ ph b ≤ 2 ∧ cap b ≤ 102 := by
    have t : ptL.all (fun b => decide (0 ≤ ph b) && decide (ph b ≤ 2) && decide (cap b ≤ 102)) = true := by decide
    have u := List.all_eq_true.mp t b m
    simp only [Bool.and_eq_true, decide_eq_true_eq] at u
    exact ⟨u.1.1, u.1.2, u.2⟩
  have e := Int32.lt_iff_toInt_lt.mp h
  unfold rg at p1 p2
  rw [Int32.toInt_add, bm32 (by omega) (by omega)] at e
  omega
theorem cap_of9 {T : Tb} {G V : sv_V} {i : Int32} {b : Nat} (k : capok T) (m : b ∈ ptL) (S : SIx T G V) (h : i < V.1 b 9) : i.toInt < cap b := by
  have q := List.all_eq_true.mp k b m
  simp only [Bool.and_eq_true, decide_eq_true_eq] at q
  have p1 := S.1 b 9 _ _ q.1
  have c1 : 0 ≤ ph b := by
    have t : ptL.all (fun b => decide (0 ≤ ph b)) = true := by decide
    exact of_decide_eq_true (List.all_eq_true.mp t b m)
  have e := Int32.lt_iff_toInt_lt.mp h
  unfold rg at p1
  omega
/-! counters -/
theorem cnt_u0 {x y : Int32} {l h c : Int} (q : y = x + 1) (p : rg x l h) (a : h ≤ 2147483646) (k : c ≤ x.toInt) : c < y.toInt := by
  subst q
  have := p.1
  have := p.2
  have := x.le_toInt
  rw [Int32.toInt_add, show (1 : Int32).toInt = 1 from rfl, bm32 (by omega) (by omega)]
  omega
theorem cnt_u1 {x y : Int32} {l h c : Int} (q : y = x + 1) (p : rg x l h) (a : h ≤ 2147483646) (k : c < x.toInt) : c < y.toInt := cnt_u0 q p a (Int.le_of_lt k)
theorem cnt_wu {x : Int32} {c : Int} (k : c < x.toInt) : c ≤ x.toInt := Int.le_of_lt k
theorem lp1_up {A0 : Type} {Q : Type} {P : Q → Prop} {f : (A0 → Option Q) → A0 → Option Q} {I : A0 → Prop} (cnt : A0 → Int) (lo hi : Int) (hI : ∀ a0, I a0 → lo ≤ cnt a0 ∧ cnt a0 ≤ hi) (hb : ∀ k a0, I a0 → (∀ b0, I b0 → cnt a0 < cnt b0 → Sg P (k b0)) → Sg P (f k a0)) (N : Nat) (hf : hi - lo < N) (a0 : A0) (h0 : I a0) : Sg P (sx_lp1 f N a0) := by
  have key : ∀ (n : Nat) a0, I a0 → hi - cnt a0 < n → Sg P (sx_lp1 f n a0) := by
    intro n
    induction n with
    | zero =>
      intro a0 h1 h2
      have := hI a0 h1
      omega
    | succ n ih =>
      intro a0 h1 h2
      show Sg P (f (sx_lp1 f n) a0)
      exact hb _ a0 h1 (fun b0 h3 h4 => ih b0 h3 (by omega))
  have := hI a0 h0
  exact key N a0 h0 (by omega)
theorem lp2_up {A0 : Type} {A1 : Type} {Q : Type} {P : Q → Prop} {f : (A0 → A1 → Option Q) → A0 → A1 → Option Q} {I : A0 → A1 → Prop} (cnt : A0 → A1 → Int) (lo hi : Int) (hI : ∀ a0 a1, I a0 a1 → lo ≤ cnt a0 a1 ∧ cnt a0 a1 ≤ hi) (hb : ∀ k a0 a1, I a0 a1 → (∀ b0 b1, I b0 b1 → cnt a0 a1 < cnt b0 b1 → Sg P (k b0 b1)) → Sg P (f k a0 a1)) (N : Nat) (hf : hi - lo < N) (a0 : A0) (a1 : A1) (h0 : I a0 a1) : Sg P (sx_lp2 f N a0 a1) := by
  have key : ∀ (n : Nat) a0 a1, I a0 a1 → hi - cnt a0 a1 < n → Sg P (sx_lp2 f n a0 a1) := by
    intro n
    induction n with
    | zero =>
      intro a0 a1 h1 h2
      have := hI a0 a1 h1
      omega
    | succ n ih =>
      intro a0 a1 h1 h2
      show Sg P (f (sx_lp2 f n) a0 a1)
      exact hb _ a0 a1 h1 (fun b0 b1 h3 h4 => ih b0 b1 h3 (by omega))
  have := hI a0 a1 h0
  exact key N a0 a1 h0 (by omega)
theorem lp3_up {A0 : Type} {A1 : Type} {A2 : Type} {Q : Type} {P : Q → Prop} {f : (A0 → A1 → A2 → Option Q) → A0 → A1 → A2 → Option Q} {I : A0 → A1 → A2 → Prop} (cnt : A0 → A1 → A2 → Int) (lo hi : Int) (hI : ∀ a0 a1 a2, I a0 a1 a2 → lo ≤ cnt a0 a1 a2 ∧ cnt a0 a1 a2 ≤ hi) (hb : ∀ k a0 a1 a2, I a0 a1 a2 → (∀ b0 b1 b2, I b0 b1 b2 → cnt a0 a1 a2 < cnt b0 b1 b2 → Sg P (k b0 b1 b2)) → Sg P (f k a0 a1 a2)) (N : Nat) (hf : hi - lo < N) (a0 : A0) (a1 : A1) (a2 : A2) (h0 : I a0 a1 a2) : Sg P (sx_lp3 f N a0 a1 a2) := by
  have key : ∀ (n : Nat) a0 a1 a2, I a0 a1 a2 → hi - cnt a0 a1 a2 < n → Sg P (sx_lp3 f n a0 a1 a2) := by
    intro n
    induction n with
    | zero =>
      intro a0 a1 a2 h1 h2
      have := hI a0 a1 a2 h1
      omega
    | succ n ih =>
      intro a0 a1 a2 h1 h2
      show Sg P (f (sx_lp3 f n) a0 a1 a2)
      exact hb _ a0 a1 a2 h1 (fun b0 b1 b2 h3 h4 => ih b0 b1 b2 h3 (by omega))
  have := hI a0 a1 a2 h0
  exact key N a0 a1 a2 h0 (by omega)
theorem lp4_up {A0 : Type} {A1 : Type} {A2 : Type} {A3 : Type} {Q : Type} {P : Q → Prop} {f : (A0 → A1 → A2 → A3 → Option Q) → A0 → A1 → A2 → A3 → Option Q} {I : A0 → A1 → A2 → A3 → Prop} (cnt : A0 → A1 → A2 → A3 → Int) (lo hi : Int) (hI : ∀ a0 a1 a2 a3, I a0 a1 a2 a3 → lo ≤ cnt a0 a1 a2 a3 ∧ cnt a0 a1 a2 a3 ≤ hi) (hb : ∀ k a0 a1 a2 a3, I a0 a1 a2 a3 → (∀ b0 b1 b2 b3, I b0 b1 b2 b3 → cnt a0 a1 a2 a3 < cnt b0 b1 b2 b3 → Sg P (k b0 b1 b2 b3)) → Sg P (f k a0 a1 a2 a3)) (N : Nat) (hf : hi - lo < N) (a0 : A0) (a1 : A1) (a2 : A2) (a3 : A3) (h0 : I a0 a1 a2 a3) : Sg P (sx_lp4 f N a0 a1 a2 a3) := by
  have key : ∀ (n : Nat) a0 a1 a2 a3, I a0 a1 a2 a3 → hi - cnt a0 a1 a2 a3 < n → Sg P (sx_lp4 f n a0 a1 a2 a3) := by
    intro n
    induction n with
    | zero =>
      intro a0 a1 a2 a3 h1 h2
      have := hI a0 a1 a2 a3 h1
      omega
    | succ n ih =>
      intro a0 a1 a2 a3 h1 h2
      show Sg P (f (sx_lp4 f n) a0 a1 a2 a3)
      exact hb _ a0 a1 a2 a3 h1 (fun b0 b1 b2 b3 h3 h4 => ih b0 b1 b2 b3 h3 (by omega))
  have := hI a0 a1 a2 a3 h0
  exact key N a0 a1 a2 a3 h0 (by omega)
theorem lp5_up {A0 : Type} {A1 : Type} {A2 : Type} {A3 : Type} {A4 : Type} {Q : Type} {P : Q → Prop} {f : (A0 → A1 → A2 → A3 → A4 → Option Q) → A0 → A1 → A2 → A3 → A4 → Option Q} {I : A0 → A1 → A2 → A3 → A4 → Prop} (cnt : A0 → A1 → A2 → A3 → A4 → Int) (lo hi : Int) (hI : ∀ a0 a1 a2 a3 a4, I a0 a1 a2 a3 a4 → lo ≤ cnt a0 a1 a2 a3 a4 ∧ cnt a0 a1 a2 a3 a4 ≤ hi) (hb : ∀ k a0 a1 a2 a3 a4, I a0 a1 a2 a3 a4 → (∀ b0 b1 b2 b3 b4, I b0 b1 b2 b3 b4 → cnt a0 a1 a2 a3 a4 < cnt b0 b1 b2 b3 b4 → Sg P (k b0 b1 b2 b3 b4)) → Sg P (f k a0 a1 a2 a3 a4)) (N : Nat) (hf : hi - lo < N) (a0 : A0) (a1 : A1) (a2 : A2) (a3 : A3) (a4 : A4) (h0 : I a0 a1 a2 a3 a4) : Sg P (sx_lp5 f N a0 a1 a2 a3 a4) := by
  have key : ∀ (n : Nat) a0 a1 a2 a3 a4, I a0 a1 a2 a3 a4 → hi - cnt a0 a1 a2 a3 a4 < n → Sg P (sx_lp5 f n a0 a1 a2 a3 a4) := by
    intro n
    induction n with
    | zero =>
      intro a0 a1 a2 a3 a4 h1 h2
      have := hI a0 a1 a2 a3 a4 h1
      omega
    | succ n ih =>
      intro a0 a1 a2 a3 a4 h1 h2
      show Sg P (f (sx_lp5 f n) a0 a1 a2 a3 a4)
      exact hb _ a0 a1 a2 a3 a4 h1 (fun b0 b1 b2 b3 b4 h3 h4 => ih b0 b1 b2 b3 b4 h3 (by omega))
  have := hI a0 a1 a2 a3 a4 h0
  exact key N a0 a1 a2 a3 a4 h0 (by omega)
theorem lp6_up {A0 : Type} {A1 : Type} {A2 : Type} {A3 : Type} {A4 : Type} {A5 : Type} {Q : Type} {P : Q → Prop} {f : (A0 → A1 → A2 → A3 → A4 → A5 → Option Q) → A0 → A1 → A2 → A3 → A4 → A5 → Option Q} {I : A0 → A1 → A2 → A3 → A4 → A5 → Prop} (cnt : A0 → A1 → A2 → A3 → A4 → A5 → Int) (lo hi : Int) (hI : ∀ a0 a1 a2 a3 a4 a5, I a0 a1 a2 a3 a4 a5 → lo ≤ cnt a0 a1 a2 a3 a4 a5 ∧ cnt a0 a1 a2 a3 a4 a5 ≤ hi) (hb : ∀ k a0 a1 a2 a3 a4 a5, I a0 a1 a2 a3 a4 a5 → (∀ b0 b1 b2 b3 b4 b5, I b0 b1 b2 b3 b4 b5 → cnt a0 a1 a2 a3 a4 a5 < cnt b0 b1 b2 b3 b4 b5 → Sg P (k b0 b1 b2 b3 b4 b5)) → Sg P (f k a0 a1 a2 a3 a4 a5)) (N : Nat) (hf : hi - lo < N) (a0 : A0) (a1 : A1) (a2 : A2) (a3 : A3) (a4 : A4) (a5 : A5) (h0 : I a0 a1 a2 a3 a4 a5) : Sg P (sx_lp6 f N a0 a1 a2 a3 a4 a5) := by
  have key : ∀ (n : Nat) a0 a1 a2 a3 a4 a5, I a0 a1 a2 a3 a4 a5 → hi - cnt a0 a1 a2 a3 a4 a5 < n → Sg P (sx_lp6 f n a0 a1 a2 a3 a4 a5) := by
    intro n
    induction n with
    | zero =>
      intro a0 a1 a2 a3 a4 a5 h1 h2
      have := hI a0 a1 a2 a3 a4 a5 h1
      omega
    | succ n ih =>
      intro a0 a1 a2 a3 a4 a5 h1 h2
      show Sg P (f (sx_lp6 f n) a0 a1 a2 a3 a4 a5)
      exact hb _ a0 a1 a2 a3 a4 a5 h1 (fun b0 b1 b2 b3 b4 b5 h3 h4 => ih b0 b1 b2 b3 b4 b5 h3 (by omega))
  have := hI a0 a1 a2 a3 a4 a5 h0
  exact key N a0 a1 a2 a3 a4 a5 h0 (by omega)
theorem lp7_up {A0 : Type} {A1 : Type} {A2 : Type} {A3 : Type} {A4 : Type} {A5 : Type} {A6 : Type} {Q : Type} {P : Q → Prop} {f : (A0 → A1 → A2 → A3 → A4 → A5 → A6 → Option Q) → A0 → A1 → A2 → A3 → A4 → A5 → A6 → Option Q} {I : A0 → A1 → A2 → A3 → A4 → A5 → A6 → Prop} (cnt : A0 → A1 → A2 → A3 → A4 → A5 → A6 → Int) (lo hi : Int) (hI : ∀ a0 a1 a2 a3 a4 a5 a6, I a0 a1 a2 a3 a4 a5 a6 → lo ≤ cnt a0 a1 a2 a3 a4 a5 a6 ∧ cnt a0 a1 a2 a3 a4 a5 a6 ≤ hi) (hb : ∀ k a0 a1 a2 a3 a4 a5 a6, I a0 a1 a2 a3 a4 a5 a6 → (∀ b0 b1 b2 b3 b4 b5 b6, I b0 b1 b2 b3 b4 b5 b6 → cnt a0 a1 a2 a3 a4 a5 a6 < cnt b0 b1 b2 b3 b4 b5 b6 → Sg P (k b0 b1 b2 b3 b4 b5 b6)) → Sg P (f k a0 a1 a2 a3 a4 a5 a6)) (N : Nat) (hf : hi - lo < N) (a0 : A0) (a1 : A1) (a2 : A2) (a3 : A3) (a4 : A4) (a5 : A5) (a6 : A6) (h0 : I a0 a1 a2 a3 a4 a5 a6) : Sg P (sx_lp7 f N a0 a1 a2 a3 a4 a5 a6) := by
  have key : ∀ (n : Nat) a0 a1 a2 a3 a4 a5 a6, I a0 a1 a2 a3 a4 a5 a6 → hi - cnt a0 a1 a2 a3 a4 a5 a6 < n → Sg P (sx_lp7 f n a0 a1 a2 a3 a4 a5 a6) := by
    intro n
    induction n with
    | zero =>
      intro a0 a1 a2 a3 a4 a5 a6 h1 h2
      have := hI a0 a1 a2 a3 a4 a5 a6 h1
      omega
    | succ n ih =>
      intro a0 a1 a2 a3 a4 a5 a6 h1 h2
      show Sg P (f (sx_lp7 f n) a0 a1 a2 a3 a4 a5 a6)
      exact hb _ a0 a1 a2 a3 a4 a5 a6 h1 (fun b0 b1 b2 b3 b4 b5 b6 h3 h4 => ih b0 b1 b2 b3 b4 b5 b6 h3 (by omega))
  have := hI a0 a1 a2 a3 a4 a5 a6 h0
  exact key N a0 a1 a2 a3 a4 a5 a6 h0 (by omega)
theorem lp8_up {A0 : Type} {A1 : Type} {A2 : Type} {A3 : Type} {A4 : Type} {A5 : Type} {A6 : Type} {A7 : Type} {Q : Type} {P : Q → Prop} {f : (A0 → A1 → A2 → A3 → A4 → A5 → A6 → A7 → Option Q) → A0 → A1 → A2 → A3 → A4 → A5 → A6 → A7 → Option Q} {I : A0 → A1 → A2 → A3 → A4 → A5 → A6 → A7 → Prop} (cnt : A0 → A1 → A2 → A3 → A4 → A5 → A6 → A7 → Int) (lo hi : Int) (hI : ∀ a0 a1 a2 a3 a4 a5 a6 a7, I a0 a1 a2 a3 a4 a5 a6 a7 → lo ≤ cnt a0 a1 a2 a3 a4 a5 a6 a7 ∧ cnt a0 a1 a2 a3 a4 a5 a6 a7 ≤ hi) (hb : ∀ k a0 a1 a2 a3 a4 a5 a6 a7, I a0 a1 a2 a3 a4 a5 a6 a7 → (∀ b0 b1 b2 b3 b4 b5 b6 b7, I b0 b1 b2 b3 b4 b5 b6 b7 → cnt a0 a1 a2 a3 a4 a5 a6 a7 < cnt b0 b1 b2 b3 b4 b5 b6 b7 → Sg P (k b0 b1 b2 b3 b4 b5 b6 b7)) → Sg P (f k a0 a1 a2 a3 a4 a5 a6 a7)) (N : Nat) (hf : hi - lo < N) (a0 : A0) (a1 : A1) (a2 : A2) (a3 : A3) (a4 : A4) (a5 : A5) (a6 : A6) (a7 : A7) (h0 : I a0 a1 a2 a3 a4 a5 a6 a7) : Sg P (sx_lp8 f N a0 a1 a2 a3 a4 a5 a6 a7) := by
  have key : ∀ (n : Nat) a0 a1 a2 a3 a4 a5 a6 a7, I a0 a1 a2 a3 a4 a5 a6 a7 → hi - cnt a0 a1 a2 a3 a4 a5 a6 a7 < n → Sg P (sx_lp8 f n a0 a1 a2 a3 a4 a5 a6 a7) := by
    intro n
    induction n with
    | zero =>
      intro a0 a1 a2 a3 a4 a5 a6 a7 h1 h2
      have := hI a0 a1 a2 a3 a4 a5 a6 a7 h1
      omega
    | succ n ih =>
      intro a0 a1 a2 a3 a4 a5 a6 a7 h1 h2
      show Sg P (f (sx_lp8 f n) a0 a1 a2 a3 a4 a5 a6 a7)
      exact hb _ a0 a1 a2 a3 a4 a5 a6 a7 h1 (fun b0 b1 b2 b3 b4 b5 b6 b7 h3 h4 => ih b0 b1 b2 b3 b4 b5 b6 b7 h3 (by omega))
  have := hI a0 a1 a2 a3 a4 a5 a6 a7 h0
  exact key N a0 a1 a2 a3 a4 a5 a6 a7 h0 (by omega)
theorem lp9_up {A0 : Type} {A1 : Type} {A2 : Type} {A3 : Type} {A4 : Type} {A5 : Type} {A6 : Type} {A7 : Type} {A8 : Type} {Q : Type} {P : Q → Prop} {f : (A0 → A1 → A2 → A3 → A4 → A5 → A6 → A7 → A8 → Option Q) → A0 → A1 → A2 → A3 → A4 → A5 → A6 → A7 → A8 → Option Q} {I : A0 → A1 → A2 → A3 → A4 → A5 → A6 → A7 → A8 → Prop} (cnt : A0 → A1 → A2 → A3 → A4 → A5 → A6 → A7 → A8 → Int) (lo hi : Int) (hI : ∀ a0 a1 a2 a3 a4 a5 a6 a7 a8, I a0 a1 a2 a3 a4 a5 a6 a7 a8 → lo ≤ cnt a0 a1 a2 a3 a4 a5 a6 a7 a8 ∧ cnt a0 a1 a2 a3 a4 a5 a6 a7 a8 ≤ hi) (hb : ∀ k a0 a1 a2 a3 a4 a5 a6 a7 a8, I a0 a1 a2 a3 a4 a5 a6 a7 a8 → (∀ b0 b1 b2 b3 b4 b5 b6 b7 b8, I b0 b1 b2 b3 b4 b5 b6 b7 b8 → cnt a0 a1 a2 a3 a4 a5 a6 a7 a8 < cnt b0 b1 b2 b3 b4 b5 b6 b7 b8 → Sg P (k b0 b1 b2 b3 b4 b5 b6 b7 b8)) → Sg P (f k a0 a1 a2 a3 a4 a5 a6 a7 a8)) (N : Nat) (hf : hi - lo < N) (a0 : A0) (a1 : A1) (a2 : A2) (a3 : A3) (a4 : A4) (a5 : A5) (a6 : A6) (a7 : A7) (a8 : A8) (h0 : I a0 a1 a2 a3 a4 a5 a6 a7 a8) : Sg P (sx_lp9 f N a0 a1 a2 a3 a4 a5 a6 a7 a8) := by
  have key : ∀ (n : Nat) a0 a1 a2 a3 a4 a5 a6 a7 a8, I a0 a1 a2 a3 a4 a5 a6 a7 a8 → hi - cnt a0 a1 a2 a3 a4 a5 a6 a7 a8 < n → Sg P (sx_lp9 f n a0 a1 a2 a3 a4 a5 a6 a7 a8) := by
    intro n
    induction n with
    | zero =>
      intro a0 a1 a2 a3 a4 a5 a6 a7 a8 h1 h2
      have := hI a0 a1 a2 a3 a4 a5 a6 a7 a8 h1
      omega
    | succ n ih =>
      intro a0 a1 a2 a3 a4 a5 a6 a7 a8 h1 h2
      show Sg P (f (sx_lp9 f n) a0 a1 a2 a3 a4 a5 a6 a7 a8)
      exact hb _ a0 a1 a2 a3 a4 a5 a6 a7 a8 h1 (fun b0 b1 b2 b3 b4 b5 b6 b7 b8 h3 h4 => ih b0 b1 b2 b3 b4 b5 b6 b7 b8 h3 (by omega))
  have := hI a0 a1 a2 a3 a4 a5 a6 a7 a8 h0
  exact key N a0 a1 a2 a3 a4 a5 a6 a7 a8 h0 (by omega)
theorem lp10_up {A0 : Type} {A1 : Type} {A2 : Type} {A3 : Type} {A4 : Type} {A5 : Type} {A6 : Type} {A7 : Type} {A8 : Type} {A9 : Type} {Q : Type} {P : Q → Prop} {f : (A0 → A1 → A2 → A3 → A4 → A5 → A6 → A7 → A8 → A9 → Option Q) → A0 → A1 → A2 → A3 → A4 → A5 → A6 → A7 → A8 → A9 → Option Q} {I : A0 → A1 → A2 → A3 → A4 → A5 → A6 → A7 → A8 → A9 → Prop} (cnt : A0 → A1 → A2 → A3 → A4 → A5 → A6 → A7 → A8 → A9 → Int) (lo hi : Int) (hI : ∀ a0 a1 a2 a3 a4 a5 a6 a7 a8 a9, I a0 a1 a2 a3 a4 a5 a6 a7 a8 a9 → lo ≤ cnt a0 a1 a2 a3 a4 a5 a6 a7 a8 a9 ∧ cnt a0 a1 a2 a3 a4 a5 a6 a7 a8 a9 ≤ hi) (hb : ∀ k a0 a1 a2 a3 a4 a5 a6 a7 a8 a9, I a0 a1 a2 a3 a4 a5 a6 a7 a8 a9 → (∀ b0 b1 b2 b3 b4 b5 b6 b7 b8 b9, I b0 b1 b2 b3 b4 b5 b6 b7 b8 b9 → cnt a0 a1 a2 a3 a4 a5 a6 a7 a8 a9 < cnt b0 b1 b2 b3 b4 b5 b6 b7 b8 b9 → Sg P (k b0 b1 b2 b3 b4 b5 b6 b7 b8 b9)) → Sg P (f k a0 a1 a2 a3 a4 a5 a6 a7 a8 a9)) (N : Nat) (hf : hi - lo < N) (a0 : A0) (a1 : A1) (a2 : A2) (a3 : A3) (a4 : A4) (a5 : A5) (a6 : A6) (a7 : A7) (a8 : A8) (a9 : A9) (h0 : I a0 a1 a2 a3 a4 a5 a6 a7 a8 a9) : Sg P (sx_lp10 f N a0 a1 a2 a3 a4 a5 a6 a7 a8 a9) := by
  have key : ∀ (n : Nat) a0 a1 a2 a3 a4 a5 a6 a7 a8 a9, I a0 a1 a2 a3 a4 a5 a6 a7 a8 a9 → hi - cnt a0 a1 a2 a3 a4 a5 a6 a7 a8 a9 < n → Sg P (sx_lp10 f n a0 a1 a2 a3 a4 a5 a6 a7 a8 a9) := by
    intro n
    induction n with
    | zero =>
      intro a0 a1 a2 a3 a4 a5 a6 a7 a8 a9 h1 h2
      have := hI a0 a1 a2 a3 a4 a5 a6 a7 a8 a9 h1
      omega
    | succ n ih =>
      intro a0 a1 a2 a3 a4 a5 a6 a7 a8 a9 h1 h2
      show Sg P (f (sx_lp10 f n) a0 a1 a2 a3 a4 a5 a6 a7 a8 a9)
      exact hb _ a0 a1 a2 a3 a4 a5 a6 a7 a8 a9 h1 (fun b0 b1 b2 b3 b4 b5 b6 b7 b8 b9 h3 h4 => ih b0 b1 b2 b3 b4 b5 b6 b7 b8 b9 h3 (by omega))
  have := hI a0 a1 a2 a3 a4 a5 a6 a7 a8 a9 h0
  exact key N a0 a1 a2 a3 a4 a5 a6 a7 a8 a9 h0 (by omega)
theorem lp11_up {A0 : Type} {A1 : Type} {A2 : Type} {A3 : Type} {A4 : Type} {A5 : Type} {A6 : Type} {A7 : Type} {A8 : Type} {A9 : Type} {A10 : Type} {Q : Type} {P : Q → Prop} {f : (A0 → A1 → A2 → A3 → A4 → A5 → A6 → A7 → A8 → A9 → A10 → Option Q) → A0 → A1 → A2 → A3 → A4 → A5 → A6 → A7 → A8 → A9 → A10 → Option Q} {I : A0 → A1 → A2 → A3 → A4 → A5 → A6 → A7 → A8 → A9 → A10 → Prop} (cnt : A0 → A1 → A2 → A3 → A4 → A5 → A6 → A7 → A8 → A9 → A10 → Int) (lo hi : Int) (hI : ∀ a0 a1 a2 a3 a4 a5 a6 a7 a8 a9 a10, I a0 a1 a2 a3 a4 a5 a6 a7 a8 a9 a10 → lo ≤ cnt a0 a1 a2 a3 a4 a5 a6 a7 a8 a9 a10 ∧ cnt a0 a1 a2 a3 a4 a5 a6 a7 a8 a9 a10 ≤ hi) (hb : ∀ k a0 a1 a2 a3 a4 a5 a6 a7 a8 a9 a10, I a0 a1 a2 a3 a4 a5 a6 a7 a8 a9 a10 → (∀ b0 b1 b2 b3 b4 b5 b6 b7 b8 b9 b10, I b0 b1 b2 b3 b4 b5 b6 b7 b8 b9 b10 → cnt a0 a1 a2 a3 a4 a5 a6 a7 a8 a9 a10 < cnt b0 b1 b2 b3 b4 b5 b6 b7 b8 b9 b10 → Sg P (k b0 b1 b2 b3 b4 b5 b6 b7 b8 b9 b10)) → Sg P (f k a0 a1 a2 a3 a4 a5 a6 a7 a8 a9 a10)) (N : Nat) (hf : hi - lo < N) (a0 : A0) (a1 : A1) (a2 : A2) (a3 : A3) (a4 : A4) (a5 : A5) (a6 : A6) (a7 : A7) (a8 : A8) (a9 : A9) (a10 : A10) (h0 : I a0 a1 a2 a3 a4 a5 a6 a7 a8 a9 a10) : Sg P (sx_lp11 f N a0 a1 a2 a3 a4 a5 a6 a7 a8 a9 a10) := by
  have key : ∀ (n : Nat) a0 a1 a2 a3 a4 a5 a6 a7 a8 a9 a10, I a0 a1 a2 a3 a4 a5 a6 a7 a8 a9 a10 → hi - cnt a0 a1 a2 a3 a4 a5 a6 a7 a8 a9 a10 < n → Sg P (sx_lp11 f n a0 a1 a2 a3 a4 a5 a6 a7 a8 a9 a10) := by
    intro n
    induction n with
    | zero =>
      intro a0 a1 a2 a3 a4 a5 a6 a7 a8 a9 a10 h1 h2
      have := hI a0 a1 a2 a3 a4 a5 a6 a7 a8 a9 a10 h1
      omega
    | succ n ih =>
      intro a0 a1 a2 a3 a4 a5 a6 a7 a8 a9 a10 h1 h2
      show Sg P (f (sx_lp11 f n) a0 a1 a2 a3 a4 a5 a6 a7 a8 a9 a10)
      exact hb _ a0 a1 a2 a3 a4 a5 a6 a7 a8 a9 a10 h1 (fun b0 b1 b2 b3 b4 b5 b6 b7 b8 b9 b10 h3 h4 => ih b0 b1 b2 b3 b4 b5 b6 b7 b8 b9 b10 h3 (by omega))
  have := hI a0 a1 a2 a3 a4 a5 a6 a7 a8 a9 a10 h0
  exact key N a0 a1 a2 a3 a4 a5 a6 a7 a8 a9 a10 h0 (by omega)
theorem lp12_up {A0 : Type} {A1 : Type} {A2 : Type} {A3 : Type} {A4 : Type} {A5 : Type} {A6 : Type} {A7 : Type} {A8 : Type} {A9 : Type} {A10 : Type} {A11 : Type} {Q : Type} {P : Q → Prop} {f : (A0 → A1 → A2 → A3 → A4 → A5 → A6 → A7 → A8 → A9 → A10 → A11 → Option Q) → A0 → A1 → A2 → A3 → A4 → A5 → A6 → A7 → A8 → A9 → A10 → A11 → Option Q} {I : A0 → A1 → A2 → A3 → A4 → A5 → A6 → A7 → A8 → A9 → A10 → A11 → Prop} (cnt : A0 → A1 → A2 → A3 → A4 → A5 → A6 → A7 → A8 → A9 → A10 → A11 → Int) (lo hi : Int) (hI : ∀ a0 a1 a2 a3 a4 a5 a6 a7 a8 a9 a10 a11, I a0 a1 a2 a3 a4 a5 a6 a7 a8 a9 a10 a11 → lo ≤ cnt a0 a1 a2 a3 a4 a5 a6 a7 a8 a9 a10 a11 ∧ cnt a0 a1 a2 a3 a4 a5 a6 a7 a8 a9 a10 a11 ≤ hi) (hb : ∀ k a0 a1 a2 a3 a4 a5 a6 a7 a8 a9 a10 a11, I a0 a1 a2 a3 a4 a5 a6 a7 a8 a9 a10 a11 → (∀ b0 b1 b2 b3 b4 b5 b6 b7 b8 b9 b10 b11, I b0 b1 b2 b3 b4 b5 b6 b7 b8 b9 b10 b11 → cnt a0 a1 a2 a3 a4 a5 a6 a7 a8 a9 a10 a11 < cnt b0 b1 b2 b3 b4 b5 b6 b7 b8 b9 b10 b11 → Sg P (k b0 b1 b2 b3 b4 b5 b6 b7 b8 b9 b10 b11)) → Sg P (f k a0 a1 a2 a3 a4 a5 a6 a7 a8 a9 a10 a11)) (N : Nat) (hf : hi - lo < N) (a0 : A0) (a1 : A1) (a2 : A2) (a3 : A3) (a4 : A4) (a5 : A5) (a6 : A6) (a7 : A7) (a8 : A8) (a9 : A9) (a10 : A10) (a11 : A11) (h0 : I a0 a1 a2 a3 a4 a5 a6 a7 a8 a9 a10 a11) : Sg P (sx_lp12 f N a0 a1 a2 a3 a4 a5 a6 a7 a8 a9 a10 a11) := by
  have key : ∀ (n : Nat) a0 a1 a2 a3 a4 a5 a6 a7 a8 a9 a10 a11, I a0 a1 a2 a3 a4 a5 a6 a7 a8 a9 a10 a11 → hi - cnt a0 a1 a2 a3 a4 a5 a6 a7 a8 a9 a10 a11 < n → Sg P (sx_lp12 f n a0 a1 a2 a3 a4 a5 a6 a7 a8 a9 a10 a11) := by
    intro n
    induction n with
    | zero =>
      intro a0 a1 a2 a3 a4 a5 a6 a7 a8 a9 a10 a11 h1 h2
      have := hI a0 a1 a2 a3 a4 a5 a6 a7 a8 a9 a10 a11 h1
      omega
    | succ n ih =>
      intro a0 a1 a2 a3 a4 a5 a6 a7 a8 a9 a10 a11 h1 h2
      show Sg P (f (sx_lp12 f n) a0 a1 a2 a3 a4 a5 a6 a7 a8 a9 a10 a11)
      exact hb _ a0 a1 a2 a3 a4 a5 a6 a7 a8 a9 a10 a11 h1 (fun b0 b1 b2 b3 b4 b5 b6 b7 b8 b9 b10 b11 h3 h4 => ih b0 b1 b2 b3 b4 b5 b6 b7 b8 b9 b10 b11 h3 (by omega))
  have := hI a0 a1 a2 a3 a4 a5 a6 a7 a8 a9 a10 a11 h0
  exact key N a0 a1 a2 a3 a4 a5 a6 a7 a8 a9 a10 a11 h0 (by omega)
theorem SIx.fill {T : Tb} {G V : sv_V} (S : SIx T G V) {a i n : Nat} {x : Int32} {l h : Int} (g : ∀ k, okI T a k l h) (r : rg x l h) : SIx T G (vfr V a i n x) := by
  refine ⟨fun b j l2 h2 e => ?_, fun b j e => ?_, S.2.2.1, S.2.2.2.1, S.2.2.2.2.2 V _ (fun b j e => ⟨?_, rfl⟩) S.2.2.2.2.1, S.2.2.2.2.2⟩
  rotate_left
  rotate_left
  · show (if b = a ∧ i ≤ j ∧ j < n then x else V.1 b j) = _
    rw [if_neg]
    rintro ⟨rfl, -⟩
    rw [(g j).1.2] at e
    cases e
  · show rg (if b = a ∧ i ≤ j ∧ j < n then x else V.1 b j) l2 h2
    by_cases q : b = a ∧ i ≤ j ∧ j < n
    · rw [if_pos q]
      obtain ⟨rfl, -⟩ := q
      have q := (g j).2
      rw [e] at q
      simp only [outR, Bool.and_eq_true, decide_eq_true_eq] at q
      exact rg_m r q.1 q.2
    · rw [if_neg q]
      exact S.1 b j l2 h2 e
  · refine ⟨?_, (S.2.1 b j e).2⟩
    show (if b = a ∧ i ≤ j ∧ j < n then x else V.1 b j) = _
    rw [if_neg]
    · exact (S.2.1 b j e).1
    · rintro ⟨rfl, -⟩
      rw [(g j).1.1] at e
      cases e
theorem s_fillI {T : Tb} {G V : sv_V} {N : Nat} (hN : 8589934592 ≤ N) (S : SIx T G V) {a n : Nat} {x : Int32} {l h : Int} (hl : sv_len 0 a = some n) (hn : n < 2 ^ 31) (g : ∀ k, okI T a k l h) (r : rg x l h) : Sg (SIx T G) (F_J7_fill_53178 N a x V) := ⟨_, fill_I hl hn (by omega), S.fill g r⟩
theorem s_fillB {T : Tb} {G V : sv_V} {N : Nat} (hN : 8589934592 ≤ N) (S : SIx T G V) {a n : Nat} {x : Int32} {l h : Int} (hl : sv_len 1 a = some n) (hn : n < 2 ^ 31) (g : ∀ k, okI T a k l h) (r : rg x l h) (c : x.toInt8.toInt32 = x) : Sg (SIx T G) (F_J7_fill_031fb N a x V) := ⟨_, fill_B hl hn (by omega), S.fill g (by rw [c]; exact r)⟩
theorem s_fillS {T : Tb} {G V : sv_V} {N : Nat} (hN : 8589934592 ≤ N) (S : SIx T G V) {L : List Nat} {a n : Nat} {x : Int32} {l h : Int} (m : a ∈ L) (hl : L.all (fun a => decide (sv_len 0 a = some n)) = true) (hn : n < 2 ^ 31) (g : ∀ k, L.all (fun a => !(T.2.1 a k) && !(T.2.2.2 a k) && outR (T.1 a k) l h) = true) (r : rg x l h) : Sg (SIx T G) (F_J7_fill_53178 N a x V) := s_fillI hN S (of_decide_eq_true (List.all_eq_true.mp hl a m)) hn (fun k => by
  have q := List.all_eq_true.mp (g k) a m
  simp only [Bool.and_eq_true, Bool.not_eq_true'] at q
  exact ⟨⟨q.1.1, q.1.2⟩, q.2⟩) r
