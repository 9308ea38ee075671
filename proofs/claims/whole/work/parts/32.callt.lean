/-! A call that throws, and the calling method's handler -/
section JCT
variable {p : Program} {l : Launch} {e : Env} {R : Room} {s : State} {m : MethodId} {args : Array Value} {below : List Frame} {meth : Method} {c : Code} {H : Heap} {locs : List Loc} {cells slots : Nat} {Q : State → Prop}
variable {y : MethodName} {bytes cc : ByteArray} {maxL nL n index : Nat} {ret : Option FieldType} {ws : List Cond} {rm : Room} {Pc : Array Value → State → Prop} {Ts : List Cond} {own C : String} {b : Addr} {As rest : List Value} {pc : Nat} {ls : Array Slot}
theorem jd_callT (S : CallFix p m c cc nL s args Ts own) (hM : MetT l y ws rm Pc) (cw : CallW R s args own C index y bytes maxL ret ws rm 1 6 n) (hp : PreV s H C b Pc As)
    (hn : As.length = n) (hsize : ls.size = nL) (hW : 2 * (F0 m pc ls rest).monitorRoom + (rest.map fun v => v.category).sum ≤ 8) (hdg : decode cc pc = .ok (.invokevirtual index, 3)) (hf : cells + 1 ≤ R.cells ∧ slots + 6 ≤ R.slots)
    {x : ExceptionTableEntry} (htab : c.exceptionTable.toList = [x]) (hcov : covers x pc = true) (h0 : x.catchType ≠ 0) (hlink : (Cond.classLink own x.catchType IAE).before args s = true)
    (kk : ∀ (a : Nat) (H1 : Heap), H.size ≤ a → H.size ≤ H1.size → (∀ q : Nat, q < H.size → H1[q]? = H[q]?) → W p l e R s m args below meth c H1 locs (cells + 1) (slots + 6) Q (F0 m x.handlerPc ls [.ref a])) :
    W p l e R s m args below meth c H locs cells slots Q (F0 m pc ls (As.reverse ++ .ref b :: rest)) := by
  obtain ⟨⟨hrc, hrs, hfr, hlo, hws, hcw, hcode, hini, hy, hlen, hl⟩, hinst, hsel⟩ := cw
  obtain ⟨hx, hb, hml, ho, -⟩ := S
  obtain ⟨hblind, ⟨cellB, hcB, hoB, hclB⟩, hPc⟩ := hp
  intro T hT X
  obtain ⟨mk, methM, hnamed, hmethM, hstM, habM⟩ := Cond.instanceMethod_spec hinst
  obtain ⟨methM', cM, hmethM', hcM, -, hlM, -, -, -, hsigM⟩ := Cond.code_spec hnamed hcode
  cases hmethM.symm.trans hmethM'
  obtain ⟨c2, r2, m2, q1, q2, q3, q4, kP, hkP, hkPi⟩ := Cond.selects_spec hsel
  cases hclB.symm.trans q1
  cases (State.methodFound?_of_named hnamed hy).symm.trans q2
  cases hnamed.symm.trans q3
  have hselP : selectMethod e.platform s.vm cellB.cls mk = .method mk := by rw [Launch.admits_selectMethod X.admits]; exact q4
  obtain ⟨vm₁, X₁, hstep₁⟩ := X.invokevirtual hx ho hl hnamed hmethM hstM hkP hkPi hy (a := b) (cell := cellB) (by rw [hT]; exact hcB)
    (fun z h => by rw [h] at hoB; cases hoB) hselP hmethM habM hkP hkPi (g := F0 m pc ls (As.reverse ++ .ref b :: rest)) rfl (argsL := As) (rest := rest) (hn.trans (hlen _ hsigM)) rfl (by rw [hb]; exact hdg)
  generalize hU : T.setVm vm₁ = U at X₁ hstep₁
  have hUH : U.heap = H := by rw [← hU]; exact hT
  have h : At U m c below := X₁.here
  have hn' : U.methodNamed? y = some mk := X₁.named hnamed
  have h2 : (Cond.code y bytes maxL ret).before (Value.ref b :: As).toArray U = true := hws _ hcw _ _ X₁.warmed
  have h3 : (Cond.initialized y.cls).before (Value.ref b :: As).toArray U = true := word_at X₁.warmed (Or.inl (by first | rfl | simp [Cond.onTables, Cond.keeps, Cond.steady])) hini
  obtain ⟨methY, cY, hmY, hcY, -, hlY, -, -, -, -⟩ := Cond.code_spec hn' h2
  obtain ⟨kY, hkY, -⟩ := className_of_methodNamed hn'
  have hinitY : kY.init = .initialized := Cond.initialized_spec (findClass_of_methodNamed hn') hkY h3
  have happ : (headSpec ws rm).appliesLoose y e.platform (U.calling (F0 m pc ls rest) mk (Value.ref b :: As).toArray) = true :=
    Spec.appliesLoose_calling (g := F0 m pc ls rest) h (by rw [hb]; exact hdg) hn' hkY hinitY
      (X₁.room_calling (g := F0 m pc ls rest) (R' := (headSpec ws rm).room) (hsize.trans hml.symm) hmY hcY hfr (by rw [hlY]; have h8 : 8 + (maxL + 11) + (headSpec ws rm).room.locals ≤ R.locals := hlo; have h9 : 2 * (F0 m pc ls rest).monitorRoom + ((F0 m pc ls rest).stack.map fun v => v.category).sum ≤ 8 := hW; omega) (by rw [show (headSpec ws rm).room.cells = 1 from hrc]; exact hf.1) (by rw [show (headSpec ws rm).room.slots = 6 from hrs]; exact hf.2)) (atoms_intro fun w hw => hws w hw _ _ X₁.warmed)
  obtain ⟨mid, hmid⟩ := h.above
  have hfrm : (U.setTop (F0 m pc ls rest)).frames = (.java (F0 m pc ls rest) :: mid) ++ below := by rw [State.frames_setTop' _ h.top, hmid]; rfl
  obtain ⟨o, s₂, hsteps, -, hend, hq⟩ := Steps.callFree hM p X₁.admits X₁.cas X₁.clock (acts := []) hfrm happ (hblind _ _ (F0 m pc ls rest) mk (hPc U hUH X₁.warmed)) trivial
  have hq' : ThrQ (Value.ref b :: As).toArray (U.calling (F0 m pc ls rest) mk (Value.ref b :: As).toArray) o s₂ := hq
  clear hq
  obtain ⟨a, ce, rfl, ha1, ha2, ha3, ha4, hW₂, hsame2⟩ := hq'
  have hend' : s₂.frames = .throwing a :: (U.setTop (F0 m pc ls rest)).frames := hend
  rw [State.frames_setTop' _ h.top] at hend'
  obtain ⟨g₀, hg0⟩ := Option.isSome_iff_exists.mp h.top
  obtain ⟨r, hr⟩ := State.topJava?_eq_some.mp hg0
  have hold := jd_same hsame2
  obtain ⟨e2, q2, q3, q4, q5, q6⟩ := id hsame2
  have hW' : U.WarmedH s₂.vm := hW₂
  have e3 : s₂ = ({ (U.calling (F0 m pc ls rest) mk (Value.ref b :: As).toArray).setFrames s₂.frames with heap := s₂.heap, slotsUsed := s₂.slotsUsed } : State).setVm s₂.vm := by
    have : s₂ = ({ s₂ with vm := (U.calling (F0 m pc ls rest) mk (Value.ref b :: As).toArray).vm } : State).setVm s₂.vm := rfl
    rw [e2] at this
    exact this
  have hr' : (({ U with heap := s₂.heap, slotsUsed := s₂.slotsUsed } : State).setVm s₂.vm).frames = .java g₀ :: r := hr
  have hs₂ : s₂ = ((({ U with heap := s₂.heap, slotsUsed := s₂.slotsUsed } : State).setVm s₂.vm).setTop (F0 m pc ls rest)).pushFrame (.throwing a) := by
    refine e3.trans ?_
    have hVt : (({ U with heap := s₂.heap, slotsUsed := s₂.slotsUsed } : State).setVm s₂.vm).topJava?.isSome := by
      rw [State.topJava?_eq_some.mpr ⟨r, hr'⟩]; rfl
    rw [hend', State.calling_eq h.top, State.setFrames_setFrames, State.pushFrame, State.frames_setTop' _ hVt, State.setTop_of_frames _ hr', State.setFrames_setFrames, hr', hr]
    rfl
  have hsame : U.sameButNew ({ U with heap := s₂.heap, slotsUsed := s₂.slotsUsed } : State) [] 1 6 := by
    refine ⟨?_, q2, q3, q4, q5, q6⟩
    obtain ⟨t, ht, -⟩ := State.frames_cons hr
    show ({ U with heap := s₂.heap, slotsUsed := s₂.slotsUsed } : State) = { U.setFrames U.frames with heap := s₂.heap, slotsUsed := s₂.slotsUsed }
    rw [State.setFrames_self ht]
  have X₂ : Stand p l e R s m args below meth c (({ U with heap := s₂.heap, slotsUsed := s₂.slotsUsed } : State).setVm s₂.vm) (locs ++ []) (cells + 1) (slots + 6) :=
    ⟨X₁.admits, X₁.cas, X₁.clock, X₁.frames, X₁.room, X₁.hears, X₁.method, X₁.code, (X₁.here.setHeapUsed s₂.heap s₂.slotsUsed).setVm hW'.alike, X₁.tail, State.WarmedH.trans X₁.warmed hW', X₁.limits, X₁.bytes, X₁.same.trans (hsame.setVm s.vm)⟩
  rw [List.append_nil] at X₂
  obtain ⟨vm', X₃, hst⟩ := jd_caught X₂ a (g := F0 m pc ls rest) rfl ho htab hcov h0 hlink (cell := ce) (by have h9 : U.vm.findClass IAE = some ce.cls := ha3; rw [X₁.warmed.alike.findClass] at h9; exact h9) ha2 ha4
  obtain ⟨t, t1, t2⟩ := kk a s₂.heap (by rw [← hUH]; exact ha1) (by rw [← hUH]; exact q2) (fun q hq => by rw [← hUH] at hq ⊢; exact hold q hq) ((({ U with heap := s₂.heap, slotsUsed := s₂.slotsUsed } : State).setVm s₂.vm).setVm vm') rfl X₃
  refine ⟨t, ?_, t2⟩
  refine hstep₁ _ fun acts => ?_
  rw [doInvoke_state]
  exact hsteps.trans (by rw [hs₂]; exact hst t t1)
end JCT
