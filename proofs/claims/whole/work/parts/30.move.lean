/-! What throwing takes as given, carried to a later state: warmer tables, old cells as they were -/
theorem st_lays {s U : State} {C n d : String} (hW : s.vm.Alike U.vm) (hh : ∀ q, q < s.heap.size → U.heap[q]? = s.heap[q]?) (h : (Cond.laysStatic C n d).before #[] s = true) : (Cond.laysStatic C n d).before #[] U = true := by
  obtain ⟨c, k, i, f, a, cell, h1, h2, h3, h4, h5, h6, h7, h8, h9⟩ := Cond.laysStatic_spec h
  obtain ⟨k', hi0, he⟩ := State.fieldFound?_setVm hW h2
  have hi' : U.fieldFound? C n d = some (c, k', i, f) := hi0
  have h1' : U.vm.findClass C = some c := by rw [hW.findClass]; exact h1
  have h4' : k'.statics = some a := by rw [he]; exact h4
  have h9' : k'.staticTypes[f.slot]? = some f.type := by rw [he]; exact h9
  have h5' : U.heap[a]? = some cell := by rw [hh a (Array.getElem?_eq_some_iff.mp h5).1]; exact h5
  simp [Cond.before, Cond.holds, Cond.value, h1', hi', h4', h5', h3, h6, h7, h8, h9']
theorem st_ref {s U : State} {C n d : String} (hW : s.vm.Alike U.vm) (hh : ∀ q, q < s.heap.size → U.heap[q]? = s.heap[q]?) (h : (Cond.isRef (.static C n d)).before #[] s = true) : (Cond.isRef (.static C n d)).before #[] U = true := by
  cases hv : (Term.static C n d).eval #[] s none [] s with
  | none => simp [Cond.before, Cond.holds, Cond.value, hv] at h
  | some v =>
    cases hf : s.fieldFound? C n d with
    | none =>
      simp [Term.eval, State.fieldNamed?, hf] at hv
    | some x =>
      obtain ⟨c, k, i, f⟩ := x
      obtain ⟨h1, a, cell, h2, h3, h4, h5⟩ := Term.static_spec hf hv
      obtain ⟨k', hi0, he⟩ := State.fieldFound?_setVm hW hf
      have hi' : U.fieldFound? C n d = some (c, k', i, f) := hi0
      have hv2 := hv
      simp only [Term.eval, State.fieldNamed?, hf, Option.bind_eq_bind, Option.bind_some, h1, beq_self_eq_true, if_true, Option.pure_def, h2, h3] at hv2
      have h2' : k'.statics = some a := by rw [he]; exact h2
      have h3' : U.heap[a]? = some cell := by rw [hh a (Array.getElem?_eq_some_iff.mp h3).1]; exact h3
      have hv' : (Term.static C n d).eval #[] U none [] U = some v := by
        simp only [Term.eval, State.fieldNamed?, hi', Option.bind_eq_bind, Option.bind_some, h1, beq_self_eq_true, if_true, Option.pure_def, h2', h3']
        exact hv2
      simp only [Cond.before, Cond.holds, Cond.value, hv] at h
      simp only [Cond.before, Cond.holds, Cond.value, hv']
      exact h
def xg (w : Cond) : Bool := goodWord w || match w with
  | .isRef (.static ..) => true
  | .laysStatic .. => true
  | .castable .. => true
  | .declares _ => true
  | _ => false
theorem xAt_g : xAt.all xg = true := by decide +kernel
theorem xg_move {s U : State} (hW : s.WarmedH U.vm) (hh : ∀ q, q < s.heap.size → U.heap[q]? = s.heap[q]?) {w : Cond} (h : xg w = true) (hb : w.before #[] s = true) : w.before #[] U = true := by
  by_cases hg : goodWord w = true
  · exact word_at hW (good_of_word hg) hb
  · cases w <;> first | (simp [xg] at h; exact absurd h hg) | skip
    all_goals first | exact va_Nw.warmC hW hb | exact va_Nw.warmD hW hb | exact st_lays hW.alike hh hb | skip
    all_goals rename_i t; cases t <;> first | exact st_ref hW.alike hh hb | (simp [xg] at h; exact absurd h hg)
theorem XF.move {s U : State} (h : XF s) (hW : s.WarmedH U.vm) (hh : ∀ q, q < s.heap.size → U.heap[q]? = s.heap[q]?) : XF U :=
  ⟨fun w hw => xg_move hW hh (List.all_eq_true.mp xAt_g w hw) (h.1 w hw), h.2.1.elim fun q z => ⟨q, z.warm hW⟩, h.2.2.1.elim fun q z => ⟨q, z.warm hW⟩, h.2.2.2.elim fun q z => ⟨q, z.warm hW⟩⟩
theorem XF.call {U : State} (g : JFrame) (mk : MethodId) (a : Array Value) (h : XF U) : XF (U.calling g mk a) :=
  XF.move h (State.WarmedH.refl U) (fun _ _ => rfl)
