/-! Pure functions of the methods: what they are made of. Stores: I k j is the j-th int of the k-th int array (or number field), J the same for longs. -/
abbrev IS : Type := Nat → Nat → Int32
abbrev JS : Type := Nat → Nat → Int64
def sI (I : IS) (k i : Nat) (x : Int32) : IS := fun k' => cond (Nat.beq k' k) (upd (I k) i x) (I k')
def sV (I : IS) (k : Nat) (x : Int32) : IS := fun k' => cond (Nat.beq k' k) (fun _ => x) (I k')
def sJ (J : JS) (k i : Nat) (x : Int64) : JS := fun k' => cond (Nat.beq k' k) (vp_updL (J k) i x) (J k')
def sL (J : JS) (k : Nat) (x : Int64) : JS := fun k' => cond (Nat.beq k' k) (fun _ => x) (J k')
def inB (i : Int32) (n : Nat) : Bool := !(decide (i < 0)) && decide (i.toNatClampNeg < n)
theorem inB_in {i : Int32} {n : Nat} (h : inB i n = true) : vp_in i n := by
  simp only [inB, Bool.and_eq_true, Bool.not_eq_true', decide_eq_false_iff_not, decide_eq_true_eq] at h
  exact fun q => q.elim h.1 (fun q => Nat.not_le.mpr h.2 q)
def bnd {α β : Type} (a : α) (f : α → Option β) : Option β := f a
theorem bnd_ex {α β : Type} {a : α} {f : α → Option β} {r : β} (h : bnd a f = some r) : ∃ x, x = a ∧ f x = some r := ⟨a, rfl, h⟩
def grd {β : Type} (b : Bool) (t : Option β) : Option β := cond b t none
theorem grd_ex {β : Type} {b : Bool} {t : Option β} {r : β} (h : grd b t = some r) : b = true ∧ t = some r := by
  cases b with
  | false => cases h
  | true => exact ⟨rfl, h⟩
theorem ifp {β : Type} {c : Prop} [Decidable c] {a b : Option β} {r : β} (h : (if c then a else b) = some r) (hc : c) : a = some r := by rw [if_pos hc] at h; exact h
theorem ifn {β : Type} {c : Prop} [Decidable c] {a b : Option β} {r : β} (h : (if c then a else b) = some r) (hc : ¬ c) : b = some r := by rw [if_neg hc] at h; exact h
def iter {σ : Type} (step : σ → Option (Nat × σ)) : Nat → σ → Option (Nat × σ)
  | 0, _ => none
  | n + 1, z => match step z with
    | none => none
    | some (0, z') => iter step n z'
    | some (k + 1, z') => some (k + 1, z')
theorem iter_ind {σ : Type} {step : σ → Option (Nat × σ)} {r : Nat × σ} (C : σ → Prop) (h : ∀ z o, step z = some o → (o.1 = 0 → C o.2) → (o.1 ≠ 0 → o = r) → C z) : ∀ n z, iter step n z = some r → C z := by
  intro n
  induction n with
  | zero => intro z hz; cases hz
  | succ n ih =>
    intro z hz
    unfold iter at hz
    cases hs : step z with
    | none => rw [hs] at hz; cases hz
    | some o =>
      rw [hs] at hz
      obtain ⟨k, z'⟩ := o
      cases k with
      | zero => exact h z _ hs (fun _ => ih z' hz) (fun q => absurd rfl q)
      | succ k => exact h z _ hs (fun q => by cases q) (fun _ => Option.some.inj hz)
def FU : Nat := 70000
def ob1 {A1 B : Type} (a : Option (A1)) (f : A1 → Option B) : Option B := a.bind fun o => f o
theorem ob1_ex {A1 B : Type} {a : Option (A1)} {f : A1 → Option B} {r : B} (h : ob1 a f = some r) : ∃ x1, a = some x1 ∧ f x1 = some r := by
  cases a with
  | none => cases h
  | some o => exact ⟨o, rfl, h⟩
def ob2 {A1 A2 B : Type} (a : Option (A1 × A2)) (f : A1 → A2 → Option B) : Option B := a.bind fun o => f o.1 o.2
theorem ob2_ex {A1 A2 B : Type} {a : Option (A1 × A2)} {f : A1 → A2 → Option B} {r : B} (h : ob2 a f = some r) : ∃ x1 x2, a = some (x1, x2) ∧ f x1 x2 = some r := by
  cases a with
  | none => cases h
  | some o => exact ⟨o.1, o.2, rfl, h⟩
def ob3 {A1 A2 A3 B : Type} (a : Option (A1 × A2 × A3)) (f : A1 → A2 → A3 → Option B) : Option B := a.bind fun o => f o.1 o.2.1 o.2.2
theorem ob3_ex {A1 A2 A3 B : Type} {a : Option (A1 × A2 × A3)} {f : A1 → A2 → A3 → Option B} {r : B} (h : ob3 a f = some r) : ∃ x1 x2 x3, a = some (x1, x2, x3) ∧ f x1 x2 x3 = some r := by
  cases a with
  | none => cases h
  | some o => exact ⟨o.1, o.2.1, o.2.2, rfl, h⟩
def ob4 {A1 A2 A3 A4 B : Type} (a : Option (A1 × A2 × A3 × A4)) (f : A1 → A2 → A3 → A4 → Option B) : Option B := a.bind fun o => f o.1 o.2.1 o.2.2.1 o.2.2.2
theorem ob4_ex {A1 A2 A3 A4 B : Type} {a : Option (A1 × A2 × A3 × A4)} {f : A1 → A2 → A3 → A4 → Option B} {r : B} (h : ob4 a f = some r) : ∃ x1 x2 x3 x4, a = some (x1, x2, x3, x4) ∧ f x1 x2 x3 x4 = some r := by
  cases a with
  | none => cases h
  | some o => exact ⟨o.1, o.2.1, o.2.2.1, o.2.2.2, rfl, h⟩
def ob5 {A1 A2 A3 A4 A5 B : Type} (a : Option (A1 × A2 × A3 × A4 × A5)) (f : A1 → A2 → A3 → A4 → A5 → Option B) : Option B := a.bind fun o => f o.1 o.2.1 o.2.2.1 o.2.2.2.1 o.2.2.2.2
theorem ob5_ex {A1 A2 A3 A4 A5 B : Type} {a : Option (A1 × A2 × A3 × A4 × A5)} {f : A1 → A2 → A3 → A4 → A5 → Option B} {r : B} (h : ob5 a f = some r) : ∃ x1 x2 x3 x4 x5, a = some (x1, x2, x3, x4, x5) ∧ f x1 x2 x3 x4 x5 = some r := by
  cases a with
  | none => cases h
  | some o => exact ⟨o.1, o.2.1, o.2.2.1, o.2.2.2.1, o.2.2.2.2, rfl, h⟩
def ob6 {A1 A2 A3 A4 A5 A6 B : Type} (a : Option (A1 × A2 × A3 × A4 × A5 × A6)) (f : A1 → A2 → A3 → A4 → A5 → A6 → Option B) : Option B := a.bind fun o => f o.1 o.2.1 o.2.2.1 o.2.2.2.1 o.2.2.2.2.1 o.2.2.2.2.2
theorem ob6_ex {A1 A2 A3 A4 A5 A6 B : Type} {a : Option (A1 × A2 × A3 × A4 × A5 × A6)} {f : A1 → A2 → A3 → A4 → A5 → A6 → Option B} {r : B} (h : ob6 a f = some r) : ∃ x1 x2 x3 x4 x5 x6, a = some (x1, x2, x3, x4, x5, x6) ∧ f x1 x2 x3 x4 x5 x6 = some r := by
  cases a with
  | none => cases h
  | some o => exact ⟨o.1, o.2.1, o.2.2.1, o.2.2.2.1, o.2.2.2.2.1, o.2.2.2.2.2, rfl, h⟩
def ob7 {A1 A2 A3 A4 A5 A6 A7 B : Type} (a : Option (A1 × A2 × A3 × A4 × A5 × A6 × A7)) (f : A1 → A2 → A3 → A4 → A5 → A6 → A7 → Option B) : Option B := a.bind fun o => f o.1 o.2.1 o.2.2.1 o.2.2.2.1 o.2.2.2.2.1 o.2.2.2.2.2.1 o.2.2.2.2.2.2
theorem ob7_ex {A1 A2 A3 A4 A5 A6 A7 B : Type} {a : Option (A1 × A2 × A3 × A4 × A5 × A6 × A7)} {f : A1 → A2 → A3 → A4 → A5 → A6 → A7 → Option B} {r : B} (h : ob7 a f = some r) : ∃ x1 x2 x3 x4 x5 x6 x7, a = some (x1, x2, x3, x4, x5, x6, x7) ∧ f x1 x2 x3 x4 x5 x6 x7 = some r := by
  cases a with
  | none => cases h
  | some o => exact ⟨o.1, o.2.1, o.2.2.1, o.2.2.2.1, o.2.2.2.2.1, o.2.2.2.2.2.1, o.2.2.2.2.2.2, rfl, h⟩
def ob8 {A1 A2 A3 A4 A5 A6 A7 A8 B : Type} (a : Option (A1 × A2 × A3 × A4 × A5 × A6 × A7 × A8)) (f : A1 → A2 → A3 → A4 → A5 → A6 → A7 → A8 → Option B) : Option B := a.bind fun o => f o.1 o.2.1 o.2.2.1 o.2.2.2.1 o.2.2.2.2.1 o.2.2.2.2.2.1 o.2.2.2.2.2.2.1 o.2.2.2.2.2.2.2
theorem ob8_ex {A1 A2 A3 A4 A5 A6 A7 A8 B : Type} {a : Option (A1 × A2 × A3 × A4 × A5 × A6 × A7 × A8)} {f : A1 → A2 → A3 → A4 → A5 → A6 → A7 → A8 → Option B} {r : B} (h : ob8 a f = some r) : ∃ x1 x2 x3 x4 x5 x6 x7 x8, a = some (x1, x2, x3, x4, x5, x6, x7, x8) ∧ f x1 x2 x3 x4 x5 x6 x7 x8 = some r := by
  cases a with
  | none => cases h
  | some o => exact ⟨o.1, o.2.1, o.2.2.1, o.2.2.2.1, o.2.2.2.2.1, o.2.2.2.2.2.1, o.2.2.2.2.2.2.1, o.2.2.2.2.2.2.2, rfl, h⟩
def ob9 {A1 A2 A3 A4 A5 A6 A7 A8 A9 B : Type} (a : Option (A1 × A2 × A3 × A4 × A5 × A6 × A7 × A8 × A9)) (f : A1 → A2 → A3 → A4 → A5 → A6 → A7 → A8 → A9 → Option B) : Option B := a.bind fun o => f o.1 o.2.1 o.2.2.1 o.2.2.2.1 o.2.2.2.2.1 o.2.2.2.2.2.1 o.2.2.2.2.2.2.1 o.2.2.2.2.2.2.2.1 o.2.2.2.2.2.2.2.2
theorem ob9_ex {A1 A2 A3 A4 A5 A6 A7 A8 A9 B : Type} {a : Option (A1 × A2 × A3 × A4 × A5 × A6 × A7 × A8 × A9)} {f : A1 → A2 → A3 → A4 → A5 → A6 → A7 → A8 → A9 → Option B} {r : B} (h : ob9 a f = some r) : ∃ x1 x2 x3 x4 x5 x6 x7 x8 x9, a = some (x1, x2, x3, x4, x5, x6, x7, x8, x9) ∧ f x1 x2 x3 x4 x5 x6 x7 x8 x9 = some r := by
  cases a with
  | none => cases h
  | some o => exact ⟨o.1, o.2.1, o.2.2.1, o.2.2.2.1, o.2.2.2.2.1, o.2.2.2.2.2.1, o.2.2.2.2.2.2.1, o.2.2.2.2.2.2.2.1, o.2.2.2.2.2.2.2.2, rfl, h⟩
def ob10 {A1 A2 A3 A4 A5 A6 A7 A8 A9 A10 B : Type} (a : Option (A1 × A2 × A3 × A4 × A5 × A6 × A7 × A8 × A9 × A10)) (f : A1 → A2 → A3 → A4 → A5 → A6 → A7 → A8 → A9 → A10 → Option B) : Option B := a.bind fun o => f o.1 o.2.1 o.2.2.1 o.2.2.2.1 o.2.2.2.2.1 o.2.2.2.2.2.1 o.2.2.2.2.2.2.1 o.2.2.2.2.2.2.2.1 o.2.2.2.2.2.2.2.2.1 o.2.2.2.2.2.2.2.2.2
theorem ob10_ex {A1 A2 A3 A4 A5 A6 A7 A8 A9 A10 B : Type} {a : Option (A1 × A2 × A3 × A4 × A5 × A6 × A7 × A8 × A9 × A10)} {f : A1 → A2 → A3 → A4 → A5 → A6 → A7 → A8 → A9 → A10 → Option B} {r : B} (h : ob10 a f = some r) : ∃ x1 x2 x3 x4 x5 x6 x7 x8 x9 x10, a = some (x1, x2, x3, x4, x5, x6, x7, x8, x9, x10) ∧ f x1 x2 x3 x4 x5 x6 x7 x8 x9 x10 = some r := by
  cases a with
  | none => cases h
  | some o => exact ⟨o.1, o.2.1, o.2.2.1, o.2.2.2.1, o.2.2.2.2.1, o.2.2.2.2.2.1, o.2.2.2.2.2.2.1, o.2.2.2.2.2.2.2.1, o.2.2.2.2.2.2.2.2.1, o.2.2.2.2.2.2.2.2.2, rfl, h⟩
def ob11 {A1 A2 A3 A4 A5 A6 A7 A8 A9 A10 A11 B : Type} (a : Option (A1 × A2 × A3 × A4 × A5 × A6 × A7 × A8 × A9 × A10 × A11)) (f : A1 → A2 → A3 → A4 → A5 → A6 → A7 → A8 → A9 → A10 → A11 → Option B) : Option B := a.bind fun o => f o.1 o.2.1 o.2.2.1 o.2.2.2.1 o.2.2.2.2.1 o.2.2.2.2.2.1 o.2.2.2.2.2.2.1 o.2.2.2.2.2.2.2.1 o.2.2.2.2.2.2.2.2.1 o.2.2.2.2.2.2.2.2.2.1 o.2.2.2.2.2.2.2.2.2.2
theorem ob11_ex {A1 A2 A3 A4 A5 A6 A7 A8 A9 A10 A11 B : Type} {a : Option (A1 × A2 × A3 × A4 × A5 × A6 × A7 × A8 × A9 × A10 × A11)} {f : A1 → A2 → A3 → A4 → A5 → A6 → A7 → A8 → A9 → A10 → A11 → Option B} {r : B} (h : ob11 a f = some r) : ∃ x1 x2 x3 x4 x5 x6 x7 x8 x9 x10 x11, a = some (x1, x2, x3, x4, x5, x6, x7, x8, x9, x10, x11) ∧ f x1 x2 x3 x4 x5 x6 x7 x8 x9 x10 x11 = some r := by
  cases a with
  | none => cases h
  | some o => exact ⟨o.1, o.2.1, o.2.2.1, o.2.2.2.1, o.2.2.2.2.1, o.2.2.2.2.2.1, o.2.2.2.2.2.2.1, o.2.2.2.2.2.2.2.1, o.2.2.2.2.2.2.2.2.1, o.2.2.2.2.2.2.2.2.2.1, o.2.2.2.2.2.2.2.2.2.2, rfl, h⟩
def ob12 {A1 A2 A3 A4 A5 A6 A7 A8 A9 A10 A11 A12 B : Type} (a : Option (A1 × A2 × A3 × A4 × A5 × A6 × A7 × A8 × A9 × A10 × A11 × A12)) (f : A1 → A2 → A3 → A4 → A5 → A6 → A7 → A8 → A9 → A10 → A11 → A12 → Option B) : Option B := a.bind fun o => f o.1 o.2.1 o.2.2.1 o.2.2.2.1 o.2.2.2.2.1 o.2.2.2.2.2.1 o.2.2.2.2.2.2.1 o.2.2.2.2.2.2.2.1 o.2.2.2.2.2.2.2.2.1 o.2.2.2.2.2.2.2.2.2.1 o.2.2.2.2.2.2.2.2.2.2.1 o.2.2.2.2.2.2.2.2.2.2.2
theorem ob12_ex {A1 A2 A3 A4 A5 A6 A7 A8 A9 A10 A11 A12 B : Type} {a : Option (A1 × A2 × A3 × A4 × A5 × A6 × A7 × A8 × A9 × A10 × A11 × A12)} {f : A1 → A2 → A3 → A4 → A5 → A6 → A7 → A8 → A9 → A10 → A11 → A12 → Option B} {r : B} (h : ob12 a f = some r) : ∃ x1 x2 x3 x4 x5 x6 x7 x8 x9 x10 x11 x12, a = some (x1, x2, x3, x4, x5, x6, x7, x8, x9, x10, x11, x12) ∧ f x1 x2 x3 x4 x5 x6 x7 x8 x9 x10 x11 x12 = some r := by
  cases a with
  | none => cases h
  | some o => exact ⟨o.1, o.2.1, o.2.2.1, o.2.2.2.1, o.2.2.2.2.1, o.2.2.2.2.2.1, o.2.2.2.2.2.2.1, o.2.2.2.2.2.2.2.1, o.2.2.2.2.2.2.2.2.1, o.2.2.2.2.2.2.2.2.2.1, o.2.2.2.2.2.2.2.2.2.2.1, o.2.2.2.2.2.2.2.2.2.2.2, rfl, h⟩
/-! Rows over the kit's -/
/-- what a method takes as given of the state it begins in -/
def pW (D : va_G) (cl : List vw_C) (tys : List (ClassId × FieldType)) (N : State → Prop) (w : va_W) (sz : Nat) (U : State) : Prop := U.heap.size = sz ∧ va_P D cl w U.heap ∧ va_K D cl tys U ∧ va_D (fun _ => True) w ∧ N U
def CtI (l : Launch) (y : MethodName) (ws : List Cond) (rm : Room) (av : List Value) (D : va_G) (cl : List vw_C) (tys : List (ClassId × FieldType)) (N : State → Prop) (w w1 : va_W) (r1 : Int32) : Prop := ∀ sz : Nat, Met l y ws rm (va_Pc av (pW D cl tys N w sz)) (va_Qi (fun r (_ : Unit) => r = r1) (fun _ t => va_P D cl w1 t.heap) (va_A w sz)) 0 0 (va_A w sz)
def CtL (l : Launch) (y : MethodName) (ws : List Cond) (rm : Room) (av : List Value) (D : va_G) (cl : List vw_C) (tys : List (ClassId × FieldType)) (N : State → Prop) (w w1 : va_W) (r1 : Int64) : Prop := ∀ sz : Nat, Met l y ws rm (va_Pc av (pW D cl tys N w sz)) (va_Ql (fun r (_ : Unit) => r = r1) (fun _ t => va_P D cl w1 t.heap) (va_A w sz)) 0 0 (va_A w sz)
def CtV (l : Launch) (y : MethodName) (ws : List Cond) (rm : Room) (av : List Value) (D : va_G) (cl : List vw_C) (tys : List (ClassId × FieldType)) (N : State → Prop) (w w1 : va_W) : Prop := ∀ sz : Nat, Met l y ws rm (va_Pc av (pW D cl tys N w sz)) (va_Qv (fun (_ : Unit) => True) (fun _ t => va_P D cl w1 t.heap) (va_A w sz)) 0 0 (va_A w sz)
def CtQ (l : Launch) (y : MethodName) (ws : List Cond) (rm : Room) (av : List Value) (D : va_G) (cl : List vw_C) (tys : List (ClassId × FieldType)) (N : State → Prop) (w w1 : va_W) (r1 : Option Nat) : Prop := ∀ sz : Nat, Met l y ws rm (va_Pc av (pW D cl tys N w sz)) (va_Qq (fun r (_ : Unit) => r = r1) (fun _ t => va_P D cl w1 t.heap) (va_A w sz)) 0 0 (va_A w sz)
/-- a set of words that stays: as nest words do -/
def nW (L : List Cond) (U : State) : Prop := ∀ w ∈ L, va_Nw w U
section JDW
variable {p : Program} {l : Launch} {e : Env} {R : Room} {s : State} {m : MethodId} {args : Array Value} {below : List Frame} {meth : Method} {c : Code} {H : Heap} {locs : List Loc} {cells slots : Nat} {Q : State → Prop}
variable {cc : ByteArray} {pc : Nat} {ls : Array Slot} {rest st0 : List Value} {D : va_G} {cl : List vw_C} {A : Nat → Prop} {a : Nat} {tys : List (ClassId × FieldType)} {H0 : Heap} {N : State → Prop}
theorem jd_free {w : va_W} (hD : va_D A w) (hS : va_S A H0 H locs) (hA : ∀ q, H0.size ≤ q → A q) : ∀ q, va_A w H.size q → A q := by
  intro q h
  rcases h with ⟨k, e, h⟩ | h
  · exact hD.2 k (q, e) h
  · exact hA q (Nat.le_trans hS.1 h)
theorem jd_blind {av : List Value} {w : va_W} {sz : Nat} (hN : ∀ (U : State) (g : JFrame) (mk : MethodId) (a : Array Value), N U → N (U.calling g mk a)) : FrameBlind (va_Pc av (pW D cl tys N w sz)) := fun a U g mk q => by
  obtain ⟨q0, q1, qP, qK, qD, qN⟩ := q
  exact ⟨q0, q1, qP, va_K.moved (u := U) (U := U.calling g mk a) (Vm.Alike.refl U.vm) qK, qD, hN U g mk a qN⟩
theorem jd_pre {av : List Value} {w : va_W} (hP : va_P D cl w H) (hK : va_K D cl tys s) (hD : va_D A w) (hN : ∀ U : State, s.WarmedH U.vm → N U) : ∀ U : State, U.heap = H → s.WarmedH U.vm → va_Pc av (pW D cl tys N w H.size) av.toArray U := fun U hU hW =>
  ⟨rfl, by rw [hU], by rw [hU]; exact hP, va_K.moved hW.alike hK, hD.weaken (fun _ _ _ _ => trivial), hN U hW⟩
theorem jd_tni {x y : Int32} (h : y = x) (k : W p l e R s m args below meth c H locs cells slots Q (F0 m pc ls (.int y :: rest))) : W p l e R s m args below meth c H locs cells slots Q (F0 m pc ls (.int x :: rest)) := h ▸ k
theorem jd_tnl {x y : Int64} (h : y = x) (k : W p l e R s m args below meth c H locs cells slots Q (F0 m pc ls (.long y :: rest))) : W p l e R s m args below meth c H locs cells slots Q (F0 m pc ls (.long x :: rest)) := h ▸ k
theorem jd_ci {w w1 : va_W} {r1 : Int32} {av : Array Value} (hr : va_Run p l e R s m args below meth c H locs cells slots 0 0 (F0 m pc ls st0) rest (va_Qi (fun r (_ : Unit) => r = r1) (fun _ t => va_P D cl w1 t.heap) (va_A w H.size) av) (va_A w H.size)) (hS : va_S A H0 H locs) (hD : va_D A w) (hA : ∀ q, H0.size ≤ q → A q)
    (kk : ∀ (H1 : Heap) (locs1 : List Loc), va_P D cl w1 H1 → va_S A H0 H1 locs1 → W p l e R s m args below meth c H1 locs1 cells slots Q (F0 m (pc + 3) ls (.int r1 :: rest))) : W p l e R s m args below meth c H locs cells slots Q (F0 m pc ls st0) :=
  va_calli hr hS (fun q _ h => jd_free hD hS hA q h) (jd_free hD hS hA) (fun r _ t H1 locs1 ht _ hp hB _ _ hS1 => by subst hp; subst ht; exact kk _ _ hB hS1)
theorem jd_cl {w w1 : va_W} {r1 : Int64} {av : Array Value} (hr : va_Run p l e R s m args below meth c H locs cells slots 0 0 (F0 m pc ls st0) rest (va_Ql (fun r (_ : Unit) => r = r1) (fun _ t => va_P D cl w1 t.heap) (va_A w H.size) av) (va_A w H.size)) (hS : va_S A H0 H locs) (hD : va_D A w) (hA : ∀ q, H0.size ≤ q → A q)
    (kk : ∀ (H1 : Heap) (locs1 : List Loc), va_P D cl w1 H1 → va_S A H0 H1 locs1 → W p l e R s m args below meth c H1 locs1 cells slots Q (F0 m (pc + 3) ls (.long r1 :: rest))) : W p l e R s m args below meth c H locs cells slots Q (F0 m pc ls st0) :=
  va_calll hr hS (fun q _ h => jd_free hD hS hA q h) (jd_free hD hS hA) (fun r _ t H1 locs1 ht _ hp hB _ _ hS1 => by subst hp; subst ht; exact kk _ _ hB hS1)
theorem jd_cv {w w1 : va_W} {av : Array Value} (hr : va_Run p l e R s m args below meth c H locs cells slots 0 0 (F0 m pc ls st0) rest (va_Qv (fun (_ : Unit) => True) (fun _ t => va_P D cl w1 t.heap) (va_A w H.size) av) (va_A w H.size)) (hS : va_S A H0 H locs) (hD : va_D A w) (hA : ∀ q, H0.size ≤ q → A q)
    (kk : ∀ (H1 : Heap) (locs1 : List Loc), va_P D cl w1 H1 → va_S A H0 H1 locs1 → W p l e R s m args below meth c H1 locs1 cells slots Q (F0 m (pc + 3) ls rest)) : W p l e R s m args below meth c H locs cells slots Q (F0 m pc ls st0) :=
  va_callv hr hS (fun q _ h => jd_free hD hS hA q h) (jd_free hD hS hA) (fun _ t H1 locs1 ht _ _ hB _ _ hS1 => by subst ht; exact kk _ _ hB hS1)
theorem jd_cq {w w1 : va_W} {r1 : Option Nat} {av : Array Value} (hr : va_Run p l e R s m args below meth c H locs cells slots 0 0 (F0 m pc ls st0) rest (va_Qq (fun r (_ : Unit) => r = r1) (fun _ t => va_P D cl w1 t.heap) (va_A w H.size) av) (va_A w H.size)) (hS : va_S A H0 H locs) (hD : va_D A w) (hA : ∀ q, H0.size ≤ q → A q)
    (kk : ∀ (H1 : Heap) (locs1 : List Loc), va_P D cl w1 H1 → va_S A H0 H1 locs1 → W p l e R s m args below meth c H1 locs1 cells slots Q (F0 m (pc + 3) ls (va_rf r1 :: rest))) : W p l e R s m args below meth c H locs cells slots Q (F0 m pc ls st0) :=
  va_callq hr hS (fun q _ h => jd_free hD hS hA q h) (jd_free hD hS hA) (fun r _ t H1 locs1 ht _ hp hB _ _ hS1 => by subst hp; subst ht; exact kk _ _ hB hS1)
theorem jd_iret {w1 : va_W} {r1 : Int32} (hx : p.tables.exec = Jvm.exec) (hb : c.code = cc) (hr : meth.sig.returnType = some .int) (hlk : meth.locks = false) (hP : va_P D cl w1 H) (hS : va_S A s.heap H locs) (hdg : decode cc pc = .ok (.ireturn, 1)) : W p l e R s m args below meth c H locs cells slots (MQ below (va_Qi (fun r (_ : Unit) => r = r1) (fun _ t => va_P D cl w1 t.heap) A) args s cells slots A) (F0 m pc ls [.int r1]) :=
  W.iret (v := r1) hx hb hr (fun t ht hW => ⟨⟨r1, (), rfl, rfl, (by show va_P D cl w1 t.heap; rw [ht]; exact hP)⟩, hS.F ht⟩) hS.2.2 hdg hlk
theorem jd_zret {w1 : va_W} {r1 : Int32} (hx : p.tables.exec = Jvm.exec) (hb : c.code = cc) (hr : meth.sig.returnType = some .boolean) (hlk : meth.locks = false) (hn : narrow .boolean (.int r1) = .int r1) (hP : va_P D cl w1 H) (hS : va_S A s.heap H locs) (hdg : decode cc pc = .ok (.ireturn, 1)) : W p l e R s m args below meth c H locs cells slots (MQ below (va_Qi (fun r (_ : Unit) => r = r1) (fun _ t => va_P D cl w1 t.heap) A) args s cells slots A) (F0 m pc ls [.int r1]) :=
  W.zret (v := r1) hx hb hr hn (fun t ht hW => ⟨⟨r1, (), rfl, rfl, (by show va_P D cl w1 t.heap; rw [ht]; exact hP)⟩, hS.F ht⟩) hS.2.2 hdg hlk
theorem jd_lret {w1 : va_W} {r1 : Int64} (hx : p.tables.exec = Jvm.exec) (hb : c.code = cc) (hr : meth.sig.returnType = some .long) (hlk : meth.locks = false) (hP : va_P D cl w1 H) (hS : va_S A s.heap H locs) (hdg : decode cc pc = .ok (.lreturn, 1)) : W p l e R s m args below meth c H locs cells slots (MQ below (va_Ql (fun r (_ : Unit) => r = r1) (fun _ t => va_P D cl w1 t.heap) A) args s cells slots A) (F0 m pc ls [.long r1]) :=
  W.lret (v := r1) hx hb hr (fun t ht hW => ⟨⟨r1, (), rfl, rfl, (by show va_P D cl w1 t.heap; rw [ht]; exact hP)⟩, hS.F ht⟩) hS.2.2 hdg hlk
theorem jd_vret {w1 : va_W} (hx : p.tables.exec = Jvm.exec) (hb : c.code = cc) (hr : meth.sig.returnType = none) (hlk : meth.locks = false) (hP : va_P D cl w1 H) (hS : va_S A s.heap H locs) (hdg : decode cc pc = .ok (.return_, 1)) : W p l e R s m args below meth c H locs cells slots (MQ below (va_Qv (fun (_ : Unit) => True) (fun _ t => va_P D cl w1 t.heap) A) args s cells slots A) (F0 m pc ls []) :=
  W.vret hx hb hr (fun t ht hW => ⟨⟨(), rfl, trivial, (by show va_P D cl w1 t.heap; rw [ht]; exact hP)⟩, hS.F ht⟩) hS.2.2 hdg hlk
theorem jd_aret {w1 : va_W} {r1 : Option Nat} {rt : FieldType} (hx : p.tables.exec = Jvm.exec) (hb : c.code = cc) (hr : meth.sig.returnType = some rt) (hrt : (∃ n, rt = .object n) ∨ ∃ t, rt = .array t) (hlk : meth.locks = false) (hP : va_P D cl w1 H) (hS : va_S A s.heap H locs) (hdg : decode cc pc = .ok (.areturn, 1)) : W p l e R s m args below meth c H locs cells slots (MQ below (va_Qq (fun r (_ : Unit) => r = r1) (fun _ t => va_P D cl w1 t.heap) A) args s cells slots A) (F0 m pc ls [va_rf r1]) :=
  W.aret (v := va_rf r1) hx hb hr hrt (va_rf_or r1) (fun t ht hW => ⟨⟨r1, (), rfl, rfl, (by show va_P D cl w1 t.heap; rw [ht]; exact hP)⟩, hS.F ht⟩) hS.2.2 hdg hlk
theorem jd_aldS (hexec : p.tables.exec = Jvm.exec) (hb : c.code = cc) {ws : va_W} (hK : va_K D cl tys s) (hP : va_P D cl ws H) (q0 t0 : Nat) {cA : ClassId} {C : String} {n b : Nat} {f : Nat → Option Nat} (ha : ws[q0]? = some (a, .inl (cA, n, .inr (.inr (.inr (.inr f)))))) (ht : tys[t0]? = some (cA, .object C)) {i : Int32} (hin : vp_in i n) (hf : f i.toNatClampNeg = some b) (hdg : decode cc pc = .ok (.aaload, 1))
    (kk : W p l e R s m args below meth c H locs cells slots Q (F0 m (pc + 1) ls (.ref b :: rest))) : W p l e R s m args below meth c H locs cells slots Q (F0 m pc ls (.int i :: .ref a :: rest)) :=
  va_aldq hexec hb hK hP q0 t0 ha ht hin hdg (by rw [hf]; exact kk)
theorem jd_aldN (hexec : p.tables.exec = Jvm.exec) (hb : c.code = cc) {ws : va_W} (hK : va_K D cl tys s) (hP : va_P D cl ws H) (q0 t0 : Nat) {cA : ClassId} {C : String} {n : Nat} {f : Nat → Option Nat} (ha : ws[q0]? = some (a, .inl (cA, n, .inr (.inr (.inr (.inr f)))))) (ht : tys[t0]? = some (cA, .object C)) {i : Int32} (hin : vp_in i n) (hf : f i.toNatClampNeg = none) (hdg : decode cc pc = .ok (.aaload, 1))
    (kk : W p l e R s m args below meth c H locs cells slots Q (F0 m (pc + 1) ls (.null :: rest))) : W p l e R s m args below meth c H locs cells slots Q (F0 m pc ls (.int i :: .ref a :: rest)) :=
  va_aldq hexec hb hK hP q0 t0 ha ht hin hdg (by rw [hf]; exact kk)
theorem jd_sw {x : Int32} {n : Nat} {lo : Int} (h : x = nI n) (hn : n < 2 ^ 31) (hlo : lo = 0) : (x.toInt - lo).toNat = n := by
  rw [h, nI_toInt hn, hlo]; omega
theorem jd_newa {ws : va_W} (hexec : p.tables.exec = Jvm.exec) (hb : c.code = cc) {atype : ArrayType} (harr : (Cond.arrayClass (newarray.typeOf atype)).before args s = true) {ty : FieldType} (hty : newarray.typeOf atype = ty) (hra : ∀ (U : State) (cA : ClassId), va_RA U cA ty → U.vm.findClass ("[" ++ ty.toString) = some cA) (hK : va_K D cl tys s) (hP : va_P D cl ws H) (hD : va_D A ws) (hS : va_S A H0 H locs) (hA : ∀ q, H0.size ≤ q → A q) (t0 : Nat) {cA : ClassId} (ht : tys[t0]? = some (cA, ty))
    {n : Int32} {N' : Nat} {a0 : vp_A} (ha : ∀ cA : ClassId, vp_cell cA a0 = arrV cA N' (fun _ => defaultValue ty)) (hn : ¬ n < 0) (hN : n.toNatClampNeg = N') (hbytes : N' * componentBytes ty ≤ 536870912) (hcells : cells + 1 ≤ R.cells) (hslots : slots + N' ≤ R.slots) (hdg : decode cc pc = .ok (.newarray atype, 2)) {c' s' : Nat} (hc' : cells + 1 = c') (hs' : slots + N' = s')
    (kk : ∀ (q : Nat) (H1 : Heap), va_P D cl (ws ++ [(q, .inl (cA, a0))]) H1 → va_D A (ws ++ [(q, .inl (cA, a0))]) → va_S A H0 H1 locs → W p l e R s m args below meth c H1 locs c' s' Q (F0 m (pc + 2) ls (.ref q :: rest))) : W p l e R s m args below meth c H locs cells slots Q (F0 m pc ls (.int n :: rest)) :=
  va_newa hexec hb harr hty hK hP hD hS hA ha hn hN hbytes hcells hslots hdg (fun q cA2 H1 hK2 hP hD hS => by
    have h1 := hra _ _ (hK2.2 tys.length (cA2, ty) (by simp)).2
    have h2 := hra _ _ (hK.2 t0 _ ht).2
    have e : cA2 = cA := Option.some.inj (h1.symm.trans h2)
    subst e; subst hc'; subst hs'
    exact kk q H1 hP hD hS)
theorem jd_newq {ws : va_W} (hexec : p.tables.exec = Jvm.exec) (hb : c.code = cc) {own C : String} {index : Nat} (hown : s.vm.findClass own = some m.cls) (hclink : (Cond.classLink own index C).before args s = true) (hover : va_AO C s) (hK : va_K D cl tys s) (hP : va_P D cl ws H) (hD : va_D A ws) (hS : va_S A H0 H locs) (hA : ∀ q, H0.size ≤ q → A q) (t0 : Nat) {cA : ClassId} (ht : tys[t0]? = some (cA, .object C))
    {n : Int32} {N' : Nat} (hn : ¬ n < 0) (hN : n.toNatClampNeg = N') (hbytes : N' * 4 ≤ 536870912) (hcells : cells + 1 ≤ R.cells) (hslots : slots + N' ≤ R.slots) (hdg : decode cc pc = .ok (.anewarray index, 3)) {c' s' : Nat} (hc' : cells + 1 = c') (hs' : slots + N' = s')
    (kk : ∀ (q : Nat) (H1 : Heap), va_P D cl (ws ++ [(q, .inl (cA, N', .inr (.inr (.inr (.inr (fun _ => none))))))]) H1 → va_D A (ws ++ [(q, .inl (cA, N', .inr (.inr (.inr (.inr (fun _ => none))))))]) → va_S A H0 H1 locs → W p l e R s m args below meth c H1 locs c' s' Q (F0 m (pc + 3) ls (.ref q :: rest))) : W p l e R s m args below meth c H locs cells slots Q (F0 m pc ls (.int n :: rest)) :=
  va_newq hexec hb hown hclink hover hK hP hD hS hA hn hN hbytes hcells hslots hdg (fun q cA2 H1 hK2 hP hD hS => by
    obtain ⟨_, _, _, _, _, h1⟩ := (hK2.2 tys.length (cA2, .object C) (by simp)).2
    obtain ⟨_, _, _, _, _, h2⟩ := (hK.2 t0 _ ht).2
    have e : cA2 = cA := Option.some.inj (h1.symm.trans h2)
    subst e; subst hc'; subst hs'
    exact kk q H1 hP hD hS)
theorem jd_out3 {x : Int32} (h0 : ¬ x = 0) (h1 : ¬ x = 1) (h2 : ¬ x = 2) : x.toInt < 0 ∨ 2 < x.toInt := by
  have a0 := lv_neT h0 (a := 0) (by decide)
  have a1 := lv_neT h1 (a := 1) (by decide)
  have a2 := lv_neT h2 (a := 2) (by decide)
  omega
end JDW
abbrev kw (w : va_W) (_ : IS) (_ : JS) : va_W := w
theorem jd_Dc {A : Nat → Prop} {w w' : va_W} (h : va_D A w) (e : w.map Prod.fst = w'.map Prod.fst) : va_D A w' := by
  have key : ∀ (k : Nat) (q : Nat × va_E), w'[k]? = some q → ∃ q0, w[k]? = some q0 ∧ q0.1 = q.1 := by
    intro k q hq
    have h1 : (w'.map Prod.fst)[k]? = some q.1 := by rw [List.getElem?_map, hq]; rfl
    rw [← e, List.getElem?_map] at h1
    cases hw : w[k]? with
    | none => rw [hw] at h1; cases h1
    | some q0 => rw [hw] at h1; exact ⟨q0, rfl, Option.some.inj h1⟩
  refine ⟨fun i j x y hi hj hxy => ?_, fun k q hk => ?_⟩
  · obtain ⟨x0, h1, h2⟩ := key i x hi
    obtain ⟨y0, h3, h4⟩ := key j y hj
    exact h.1 i j x0 y0 h1 h3 (h2.trans (hxy.trans h4.symm))
  · obtain ⟨q0, h1, h2⟩ := key k q hk
    rw [← h2]
    exact h.2 k q0 h1
/-- a method's body, from its entry: the end is a hypothesis -/
abbrev jdB (l : Launch) (y : MethodName) (ws : List Cond) (rm : Room) (D : va_G) (cl : List vw_C) (tys : List (ClassId × FieldType)) (N : State → Prop) (w : va_W) (cc : ByteArray) (maxL : Nat) (ret : Option FieldType) (lv : List (Nat × Value)) (E : (p : Program) → (e : Env) → (R : Room) → (s : State) → (m : MethodId) → (args : Array Value) → (below : List Frame) → (meth : Method) → (c : Code) → (A : Nat → Prop) → (Q : State → Prop) → Prop) : Prop :=
  ∀ (p : Program) (e : Env) (R : Room) (s : State) (m : MethodId) (args : Array Value) (below : List Frame) (meth : Method) (c : Code) (A : Nat → Prop) (Q : State → Prop) (ls : Array Slot), CallFix p m c cc maxL s args ws y.cls → R = rm → va_K D cl tys s → N s → va_D A w → (∀ q, s.heap.size ≤ q → A q) → va_P D cl w s.heap → va_S A s.heap s.heap [] → lv_has ls maxL lv → E p e R s m args below meth c A Q →
      W p l e R s m args below meth c s.heap [] 0 0 Q (F0 m 0 ls [])
abbrev jdEi (l : Launch) (D : va_G) (cl : List vw_C) (w1 : va_W) (cc : ByteArray) (r1 : Int32) (p : Program) (e : Env) (R : Room) (s : State) (m : MethodId) (args : Array Value) (below : List Frame) (meth : Method) (c : Code) (A : Nat → Prop) (Q : State → Prop) : Prop :=
  ∀ (H : Heap) (locs : List Loc) (pc : Nat) (ls : Array Slot), va_P D cl w1 H → va_S A s.heap H locs → decode cc pc = .ok (.ireturn, 1) → W p l e R s m args below meth c H locs 0 0 Q (F0 m pc ls [.int r1])
abbrev jdEz (l : Launch) (D : va_G) (cl : List vw_C) (w1 : va_W) (cc : ByteArray) (r1 : Int32) (p : Program) (e : Env) (R : Room) (s : State) (m : MethodId) (args : Array Value) (below : List Frame) (meth : Method) (c : Code) (A : Nat → Prop) (Q : State → Prop) : Prop :=
  ∀ (H : Heap) (locs : List Loc) (pc : Nat) (ls : Array Slot), narrow .boolean (.int r1) = .int r1 → va_P D cl w1 H → va_S A s.heap H locs → decode cc pc = .ok (.ireturn, 1) → W p l e R s m args below meth c H locs 0 0 Q (F0 m pc ls [.int r1])
abbrev jdEl (l : Launch) (D : va_G) (cl : List vw_C) (w1 : va_W) (cc : ByteArray) (r1 : Int64) (p : Program) (e : Env) (R : Room) (s : State) (m : MethodId) (args : Array Value) (below : List Frame) (meth : Method) (c : Code) (A : Nat → Prop) (Q : State → Prop) : Prop :=
  ∀ (H : Heap) (locs : List Loc) (pc : Nat) (ls : Array Slot), va_P D cl w1 H → va_S A s.heap H locs → decode cc pc = .ok (.lreturn, 1) → W p l e R s m args below meth c H locs 0 0 Q (F0 m pc ls [.long r1])
abbrev jdEv (l : Launch) (D : va_G) (cl : List vw_C) (w1 : va_W) (cc : ByteArray) (p : Program) (e : Env) (R : Room) (s : State) (m : MethodId) (args : Array Value) (below : List Frame) (meth : Method) (c : Code) (A : Nat → Prop) (Q : State → Prop) : Prop :=
  ∀ (H : Heap) (locs : List Loc) (pc : Nat) (ls : Array Slot), va_P D cl w1 H → va_S A s.heap H locs → decode cc pc = .ok (.return_, 1) → W p l e R s m args below meth c H locs 0 0 Q (F0 m pc ls [])
abbrev jdEq (l : Launch) (D : va_G) (cl : List vw_C) (w1 : va_W) (cc : ByteArray) (r1 : Option Nat) (p : Program) (e : Env) (R : Room) (s : State) (m : MethodId) (args : Array Value) (below : List Frame) (meth : Method) (c : Code) (A : Nat → Prop) (Q : State → Prop) : Prop :=
  ∀ (H : Heap) (locs : List Loc) (pc : Nat) (ls : Array Slot), va_P D cl w1 H → va_S A s.heap H locs → decode cc pc = .ok (.areturn, 1) → W p l e R s m args below meth c H locs 0 0 Q (F0 m pc ls [va_rf r1])
section JDM
variable {l : Launch} {y : MethodName} {ws ws' : List Cond} {rm : Room} {av : List Value} {D : va_G} {cl : List vw_C} {tys : List (ClassId × FieldType)} {N : State → Prop} {w w1 : va_W} {cc : ByteArray} {maxL : Nat} {ret : Option FieldType} {lv : List (Nat × Value)}
theorem jd_met {Qc : (Nat → Prop) → Array Value → State → Outcome → State → Prop} {E : (p : Program) → (e : Env) → (R : Room) → (s : State) → (m : MethodId) → (args : Array Value) → (below : List Frame) → (meth : Method) → (c : Code) → (A : Nat → Prop) → (Q : State → Prop) → Prop}
    (hE : ∀ (p : Program) (e : Env) (s : State) (m : MethodId) (args : Array Value) (below : List Frame) (meth : Method) (c : Code) (A : Nat → Prop), p.tables.exec = Jvm.exec → c.code = cc → meth.sig.returnType = ret → meth.locks = false → E p e rm s m args below meth c A (MQ below (Qc A) args s 0 0 A))
    (hy : plainName y.cls = true) (hw : ws = Cond.code y cc maxL ret :: ws') (hlen : (lg_sl av).length ≤ maxL) (hlv : lv_args 0 av = lv)
    (body : jdB l y ws rm D cl tys N w cc maxL ret lv E) : ∀ sz : Nat, Met l y ws rm (va_Pc av (pW D cl tys N w sz)) (Qc (va_A w sz)) 0 0 (va_A w sz) := by
  intro sz
  refine Met.ofW (cc := cc) (maxL := maxL) (ret := ret) hy hw ?_
  intro p e s m args below meth c s₁ B hml hv
  obtain ⟨rfl, hsz, hP, hK, hD0, hN⟩ := hv
  subst hsz
  have hl := lv_entry av (n := maxL) hlen
  rw [lg_entry_eq]
  generalize (lg_sl av ++ List.replicate (maxL - (lg_sl av).length) Slot.unset).toArray = ls at hl ⊢
  rw [hlv] at hl
  exact body p e rm s m _ below meth c (va_A w s.heap.size) _ ls ⟨B.exec, B.bytes, hml, findClass_of_methodNamed B.named, atoms_spec (ws := ws) B.pre⟩ rfl hK hN hD0.self (fun q h => Or.inr h) hP va_S.rf hl (hE p e s m _ below meth c _ B.exec B.bytes B.returns B.notSynchronized)
theorem jd_metI {r1 : Int32} (hy : plainName y.cls = true) (hw : ws = Cond.code y cc maxL (some .int) :: ws') (hlen : (lg_sl av).length ≤ maxL) (hlv : lv_args 0 av = lv)
    (body : jdB l y ws rm D cl tys N w cc maxL (some .int) lv (jdEi l D cl w1 cc r1)) : CtI l y ws rm av D cl tys N w w1 r1 :=
  jd_met (Qc := fun A => va_Qi (fun r (_ : Unit) => r = r1) (fun _ t => va_P D cl w1 t.heap) A) (fun _ _ _ _ _ _ _ _ _ hx hb hr hlk _ _ _ _ hP hS hd => jd_iret hx hb hr hlk hP hS hd) hy hw hlen hlv body
theorem jd_metZ {r1 : Int32} (hy : plainName y.cls = true) (hw : ws = Cond.code y cc maxL (some .boolean) :: ws') (hlen : (lg_sl av).length ≤ maxL) (hlv : lv_args 0 av = lv)
    (body : jdB l y ws rm D cl tys N w cc maxL (some .boolean) lv (jdEz l D cl w1 cc r1)) : CtI l y ws rm av D cl tys N w w1 r1 :=
  jd_met (Qc := fun A => va_Qi (fun r (_ : Unit) => r = r1) (fun _ t => va_P D cl w1 t.heap) A) (fun _ _ _ _ _ _ _ _ _ hx hb hr hlk _ _ _ _ hn hP hS hd => jd_zret hx hb hr hlk hn hP hS hd) hy hw hlen hlv body
theorem jd_metL {r1 : Int64} (hy : plainName y.cls = true) (hw : ws = Cond.code y cc maxL (some .long) :: ws') (hlen : (lg_sl av).length ≤ maxL) (hlv : lv_args 0 av = lv)
    (body : jdB l y ws rm D cl tys N w cc maxL (some .long) lv (jdEl l D cl w1 cc r1)) : CtL l y ws rm av D cl tys N w w1 r1 :=
  jd_met (Qc := fun A => va_Ql (fun r (_ : Unit) => r = r1) (fun _ t => va_P D cl w1 t.heap) A) (fun _ _ _ _ _ _ _ _ _ hx hb hr hlk _ _ _ _ hP hS hd => jd_lret hx hb hr hlk hP hS hd) hy hw hlen hlv body
theorem jd_metV (hy : plainName y.cls = true) (hw : ws = Cond.code y cc maxL none :: ws') (hlen : (lg_sl av).length ≤ maxL) (hlv : lv_args 0 av = lv)
    (body : jdB l y ws rm D cl tys N w cc maxL none lv (jdEv l D cl w1 cc)) : CtV l y ws rm av D cl tys N w w1 :=
  jd_met (Qc := fun A => va_Qv (fun (_ : Unit) => True) (fun _ t => va_P D cl w1 t.heap) A) (fun _ _ _ _ _ _ _ _ _ hx hb hr hlk _ _ _ _ hP hS hd => jd_vret hx hb hr hlk hP hS hd) hy hw hlen hlv body
theorem jd_metQ {r1 : Option Nat} {C : String} (hy : plainName y.cls = true) (hw : ws = Cond.code y cc maxL (some (.object C)) :: ws') (hlen : (lg_sl av).length ≤ maxL) (hlv : lv_args 0 av = lv)
    (body : jdB l y ws rm D cl tys N w cc maxL (some (.object C)) lv (jdEq l D cl w1 cc r1)) : CtQ l y ws rm av D cl tys N w w1 r1 :=
  jd_met (Qc := fun A => va_Qq (fun r (_ : Unit) => r = r1) (fun _ t => va_P D cl w1 t.heap) A) (fun _ _ _ _ _ _ _ _ _ hx hb hr hlk _ _ _ _ hP hS hd => jd_aret hx hb hr (Or.inl ⟨C, rfl⟩) hlk hP hS hd) hy hw hlen hlv body
end JDM
