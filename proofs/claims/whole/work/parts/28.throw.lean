/-! Throwing a new IllegalArgumentException: the callee's side -/
def IAE : String := "java/lang/IllegalArgumentException"
def UPS : List String := ["java/lang/RuntimeException", "java/lang/Exception"]
def xAt : List Cond := Bundle.ownAtoms "JuryDesk" 47 IAE UPS
/-- the end of a method that throws such an object and has written nothing -/
def ThrQ (_ : Array Value) (s : State) (o : Outcome) (t : State) : Prop := ∃ (x : Nat) (ce : Cell), o = .threw x ∧ s.heap.size ≤ x ∧ t.heap[x]? = some ce ∧ s.vm.findClass IAE = some ce.cls ∧ ce.vm = .none ∧ s.WarmedH t.vm ∧ s.sameButNew ({ t with vm := s.vm } : State) [] 1 6
def MetT (l : Launch) (y : MethodName) (ws : List Cond) (rm : Room) (Pc : Array Value → State → Prop) : Prop := MetFree l y (headSpec ws rm) Pc (fun _ _ _ _ _ => True) ThrQ
def TQ (below : List Frame) (a : Array Value) (s : State) : State → Prop := fun t => ∃ o, t.status = .running ∧ Ended t below o ∧ ThrQ a s o t
theorem MetT.ofW {l : Launch} {y : MethodName} {ws ws' : List Cond} {rm : Room} {Pc : Array Value → State → Prop} {cc : ByteArray} {maxL : Nat} {ret : Option FieldType}
    (hy : plainName y.cls = true) (hw : ws = Cond.code y cc maxL ret :: ws')
    (body : ∀ p e s m args below meth c s₁, BodyLoose p l y (headSpec ws rm) cc maxL ret e s m args below meth c s₁ → c.maxLocals = maxL → (∀ (x : ExceptionTableEntry), x ∈ c.exceptionTable.toList → ∀ pc, covers x pc = false) → l.admits e → Pc args s →
      W p l e (headSpec ws rm).room s m args below meth c s.heap [] 0 0 (TQ below args s) (entryFrame m args maxL)) : MetT l y ws rm Pc := by
  refine MetFree.of_bodyS (code := cc) (maxLocals := maxL) (ret := ret) hy ?_ ?_
  · intro args s m h hn
    obtain ⟨meth, c, h1, h2, h3, h4, h5, h6, -, -⟩ := Cond.code_spec hn (atoms_spec (ws := ws) h _ (by rw [hw]; exact List.mem_cons_self))
    exact ⟨meth, c, h1, h2, h3, h4, h5, h6⟩
  · intro p e s m args below meth c s₁ B hml hP _
    have hh0 : s₁.heap = s.heap := by rw [B.state]; rfl
    have hcode : (Cond.code y cc maxL ret).before args s = true := atoms_spec (ws := ws) B.pre _ (by rw [hw]; exact List.mem_cons_self)
    obtain ⟨t, a1, o, b1, b2, b3⟩ := body p e s m args below meth c s₁ B hml (fun x hx pc => covers_of_empty (B.noHandlers hcode) pc x hx) (Stand.of_body B).admits hP s₁ hh0 (Stand.of_body B)
    exact ⟨t, o, a1, b1, b2, b3⟩
section JTH
variable {p : Program} {l : Launch} {e : Env} {R : Room} {s : State} {m : MethodId} {args : Array Value} {below : List Frame} {meth : Method} {c : Code} {cc : ByteArray} {pc tk q : Nat} {ls : Array Slot} {tx : String}
theorem jd_throw (hx : p.tables.exec = Jvm.exec) (hb : c.code = cc) (hml : ls.size = c.maxLocals) (hown : s.vm.findClass "JuryDesk" = some m.cls) (hlk : meth.locks = false) (htr : e.platform.stackTraces = false) (hat : ∀ a ∈ xAt, a.before args s = true) (hcl : (Cond.classLink "JuryDesk" 43 IAE).before args s = true) (hini : (Cond.initialized IAE).before args s = true) (hZ : vk_R "JuryDesk" tk tx q s)
    (hout : ∀ (x : ExceptionTableEntry), x ∈ c.exceptionTable.toList → ∀ pc, covers x pc = false) (hRc : 0 + 1 ≤ R.cells) (hRs : 0 + 6 ≤ R.slots) (hRf : 5 < R.frames) (hRl : 82 ≤ R.locals)
    (d0 : decode cc pc = .ok (.new 43, 3)) (d3 : decode cc (pc + 3) = .ok (.dup, 1)) (d4 : decode cc (pc + 4) = .ok (.ldc tk, 2)) (d6 : decode cc (pc + 6) = .ok (.invokespecial 47, 3)) (d9 : decode cc (pc + 9) = .ok (.athrow, 1)) : W p l e R s m args below meth c s.heap [] 0 0 (TQ below args s) (F0 m pc ls []) := by
  have hins := hat (.instantiable IAE 6) (by simp [xAt, Bundle.ownAtoms])
  obtain ⟨c1, kX, hc1, hk, -⟩ := Cond.instantiable_spec hins
  refine W.newcK hx hb hown hcl hins hini rfl d0 hRc hRs hc1 rfl (fun H' kC hkC e1 z1 o1 => ?_)
  refine W.eq (g2 := F0 m (pc + 3) ls [.ref s.heap.size]) rfl ?_
  refine lv_dup hx hb d3 rfl ?_
  refine va_ldcS hx hb hown hZ d4 ?_
  intro T hT X
  obtain ⟨U, hsteps, hrun, hend, hW, hsame, ce, hce, K⟩ := X.ctorThrowS hx htr (own := "JuryDesk") (cls := IAE) (names := UPS) (ic := 47) hown (by decide +kernel) (by decide +kernel) hat (fun y hy => by cases hy) hc1 hkC (by rw [hT]; exact e1) (Nat.le_refl _) (msg := .ref q) rfl (g := F0 m (pc + 6) ls [.ref q, .ref s.heap.size, .ref s.heap.size]) rfl hml rfl rfl (rest := []) rfl (by rw [hb]; exact d6) (by rw [hb]; exact d9) (fun x h => hout x h _) hRf hRl hlk
  exact ⟨U, hsteps, .threw s.heap.size, hrun, hend, s.heap.size, ce, rfl, Nat.le_refl _, hce, K.cls, K.vm, hW, hsame⟩
end JTH
