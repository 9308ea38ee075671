theorem jd_in {c c2 : Cond} (h5 : c2 ∈ TB) : ∀ w ∈ c2 :: TB, w ∈ TB := fun w h => (List.mem_cons.mp h).elim (fun q => q ▸ h5) id
theorem jd_gw {c : Cond} {ws : List Cond} (h : ∀ w ∈ ws, w ∈ TB) : GoodIn (c :: TB) ws := fun w hw => ⟨List.mem_cons_of_mem _ (h w hw), good_of_word (TB_ok w (h w hw))⟩
theorem jd_gB {c c2 : Cond} (h5 : c2 ∈ TB) : GoodIn (c :: TB) (c2 :: TB) := jd_gw (jd_in (c := c) h5)
theorem jd_gV {own C : String} {idx : Nat} {y : MethodName} {c c2 : Cond} (h1 : Cond.methodLink own idx y ∈ TB) (h2 : Cond.instanceMethod y ∈ TB) (h3 : Cond.selects C y y ∈ TB) (h4 : Cond.initialized C ∈ TB) (h5 : c2 ∈ TB) : GoodIn (c :: TB) (wsV own idx C y (c2 :: TB)) := jd_gw fun w hw => by
  rcases List.mem_append.mp hw with h | h
  · rcases List.mem_cons.mp h with rfl | h
    · exact h1
    rcases List.mem_cons.mp h with rfl | h
    · exact h2
    rcases List.mem_cons.mp h with rfl | h
    · exact h3
    rcases List.mem_cons.mp h with rfl | h
    · exact h4
    · cases h
  · exact jd_in (c := c) h5 w h
theorem jd_gS2 {own : String} {idx : Nat} {y : MethodName} {c c2 : Cond} (h1 : Cond.methodLink own idx y ∈ TB) (h2 : Cond.static y ∈ TB) (h4 : Cond.initialized y.cls ∈ TB) (h5 : c2 ∈ TB) : GoodIn (c :: TB) (va_wsS own idx y (c2 :: TB)) := jd_gw fun w hw => by
  rcases List.mem_append.mp hw with h | h
  · rcases List.mem_cons.mp h with rfl | h
    · exact h1
    rcases List.mem_cons.mp h with rfl | h
    · exact h2
    rcases List.mem_cons.mp h with rfl | h
    · exact h4
    · cases h
  · exact jd_in (c := c) h5 w h
def NL : List Cond := [(Jvm.Cond.methodLinkNest "JuryDesk" (21 : Nat) ({ cls := "JuryDesk$Reason", name := "<init>", desc := "()V" } : Jvm.MethodName) "JuryDesk"), (Jvm.Cond.methodLinkNest "JuryDesk" (28 : Nat) ({ cls := "JuryDesk$Lattice", name := "<init>", desc := "()V" } : Jvm.MethodName) "JuryDesk"), (Jvm.Cond.methodLinkNest "JuryDesk$Heat" (53 : Nat) ({ cls := "JuryDesk", name := "holds", desc := "(II)Z" } : Jvm.MethodName) "JuryDesk"), (Jvm.Cond.methodLinkNest "JuryDesk$Rows" (54 : Nat) ({ cls := "JuryDesk", name := "holds", desc := "(II)Z" } : Jvm.MethodName) "JuryDesk"), (Jvm.Cond.methodLinkNest "JuryDesk" (50 : Nat) ({ cls := "JuryDesk$Heat", name := "<init>", desc := "()V" } : Jvm.MethodName) "JuryDesk"), (Jvm.Cond.methodLinkNest "JuryDesk$Heat" (31 : Nat) ({ cls := "JuryDesk$Tally", name := "<init>", desc := "()V" } : Jvm.MethodName) "JuryDesk"), (Jvm.Cond.methodLinkNest "JuryDesk$Heat" (38 : Nat) ({ cls := "JuryDesk$Rows", name := "<init>", desc := "()V" } : Jvm.MethodName) "JuryDesk")]
abbrev NN : State → Prop := nW NL
abbrev NA : State → Prop := fun U => NN U ∧ va_AO "JuryDesk$Heat" U
theorem nw_0 : (Jvm.Cond.methodLinkNest "JuryDesk" (21 : Nat) ({ cls := "JuryDesk$Reason", name := "<init>", desc := "()V" } : Jvm.MethodName) "JuryDesk") ∈ NL := List.mem_of_getElem? (i := 0) rfl
theorem nw_1 : (Jvm.Cond.methodLinkNest "JuryDesk" (28 : Nat) ({ cls := "JuryDesk$Lattice", name := "<init>", desc := "()V" } : Jvm.MethodName) "JuryDesk") ∈ NL := List.mem_of_getElem? (i := 1) rfl
theorem nw_2 : (Jvm.Cond.methodLinkNest "JuryDesk$Heat" (53 : Nat) ({ cls := "JuryDesk", name := "holds", desc := "(II)Z" } : Jvm.MethodName) "JuryDesk") ∈ NL := List.mem_of_getElem? (i := 2) rfl
theorem nw_3 : (Jvm.Cond.methodLinkNest "JuryDesk$Rows" (54 : Nat) ({ cls := "JuryDesk", name := "holds", desc := "(II)Z" } : Jvm.MethodName) "JuryDesk") ∈ NL := List.mem_of_getElem? (i := 3) rfl
theorem nw_4 : (Jvm.Cond.methodLinkNest "JuryDesk" (50 : Nat) ({ cls := "JuryDesk$Heat", name := "<init>", desc := "()V" } : Jvm.MethodName) "JuryDesk") ∈ NL := List.mem_of_getElem? (i := 4) rfl
theorem nw_5 : (Jvm.Cond.methodLinkNest "JuryDesk$Heat" (31 : Nat) ({ cls := "JuryDesk$Tally", name := "<init>", desc := "()V" } : Jvm.MethodName) "JuryDesk") ∈ NL := List.mem_of_getElem? (i := 5) rfl
theorem nw_6 : (Jvm.Cond.methodLinkNest "JuryDesk$Heat" (38 : Nat) ({ cls := "JuryDesk$Rows", name := "<init>", desc := "()V" } : Jvm.MethodName) "JuryDesk") ∈ NL := List.mem_of_getElem? (i := 6) rfl
theorem nWm {s U : State} (h : s.WarmedH U.vm) (hN : NN s) : NN U := by
  intro w hw
  have h1 := hN w hw
  simp only [NL, List.mem_cons, List.not_mem_nil, or_false] at hw
  rcases hw with rfl | rfl | rfl | rfl | rfl | rfl | rfl <;> exact va_Nw.warmM h h1
theorem nWc (U : State) (g : JFrame) (mk : MethodId) (a : Array Value) (hN : NN U) : NN (U.calling g mk a) := by
  intro w hw
  have h1 := hN w hw
  simp only [NL, List.mem_cons, List.not_mem_nil, or_false] at hw
  rcases hw with rfl | rfl | rfl | rfl | rfl | rfl | rfl <;> exact va_Nw.same (u := U) (U := U.calling g mk a) rfl rfl h1
abbrev tysC (ca : Nat → ClassId) : List (ClassId × FieldType) := [(ca 0, .byte), (ca 1, .boolean), (ca 2, .int), (ca 3, .long), (ca 4, .object "JuryDesk$Heat")]
/-- the heat that a call is about -/
def wH (ca : Nat → ClassId) (ad : Nat → Nat) (I : IS) (J : JS) : va_W := [(ad 0, .inr (0, [.ref (ad 1), .ref (ad 2), .ref (ad 3), .ref (ad 4), .ref (ad 5), .ref (ad 6), .ref (ad 9), .int (I 5 0), .int (I 6 0)])), (ad 1, .inl (ca 0, 400, .inl (I 0))), (ad 2, .inl (ca 0, 400, .inl (I 1))), (ad 3, .inl (ca 1, 400, .inl (I 2))), (ad 4, .inl (ca 2, 16, .inl (I 3))), (ad 5, .inl (ca 2, 16, .inl (I 4))), (ad 6, .inr (1, [.int (I 7 0), .long (J 0 0), .ref (ad 7), .ref (ad 8)])), (ad 7, .inl (ca 3, 256, .inr (.inl (J 1)))), (ad 8, .inl (ca 3, 256, .inr (.inl (J 2)))), (ad 9, .inr (2, [.int (I 8 0), .int (I 9 0), .ref (ad 10), .int (I 11 0), .ref (ad 11), .ref (ad 12), .ref (ad 13), .ref (ad 14)])), (ad 10, .inl (ca 2, 16, .inl (I 10))), (ad 11, .inl (ca 2, 16, .inl (I 12))), (ad 12, .inl (ca 2, 16, .inl (I 13))), (ad 13, .inl (ca 2, 16, .inl (I 14))), (ad 14, .inl (ca 2, 16, .inl (I 15)))]
/-- the desk itself -/
def wD (ca : Nat → ClassId) (ad : Nat → Nat) (hs : Nat → Option Nat) (I : IS) (J : JS) : va_W := [(ad 15, .inr (3, [.ref (ad 16), .ref (ad 17), .ref (ad 18), .ref (ad 21), .int (I 17 0)])), (ad 16, .inl (ca 4, 12, .inr (.inr (.inr (.inr hs))))), (ad 17, .inl (ca 2, 16, .inl (I 16))), (ad 18, .inr (4, [.ref (ad 19), .int (I 19 0), .ref (ad 20)])), (ad 19, .inl (ca 2, 16, .inl (I 18))), (ad 20, .inl (ca 2, 16, .inl (I 20))), (ad 21, .inr (5, [.ref (ad 22), .ref (ad 23), .ref (ad 24), .ref (ad 25)])), (ad 22, .inl (ca 3, 65536, .inr (.inl (J 3)))), (ad 23, .inl (ca 3, 65536, .inr (.inl (J 4)))), (ad 24, .inl (ca 2, 256, .inl (I 21))), (ad 25, .inl (ca 2, 256, .inl (I 22)))]
def wC (ca : Nat → ClassId) (ad : Nat → Nat) (hs : Nat → Option Nat) (I : IS) (J : JS) : va_W := [(ad 0, .inr (0, [.ref (ad 1), .ref (ad 2), .ref (ad 3), .ref (ad 4), .ref (ad 5), .ref (ad 6), .ref (ad 9), .int (I 5 0), .int (I 6 0)])), (ad 1, .inl (ca 0, 400, .inl (I 0))), (ad 2, .inl (ca 0, 400, .inl (I 1))), (ad 3, .inl (ca 1, 400, .inl (I 2))), (ad 4, .inl (ca 2, 16, .inl (I 3))), (ad 5, .inl (ca 2, 16, .inl (I 4))), (ad 6, .inr (1, [.int (I 7 0), .long (J 0 0), .ref (ad 7), .ref (ad 8)])), (ad 7, .inl (ca 3, 256, .inr (.inl (J 1)))), (ad 8, .inl (ca 3, 256, .inr (.inl (J 2)))), (ad 9, .inr (2, [.int (I 8 0), .int (I 9 0), .ref (ad 10), .int (I 11 0), .ref (ad 11), .ref (ad 12), .ref (ad 13), .ref (ad 14)])), (ad 10, .inl (ca 2, 16, .inl (I 10))), (ad 11, .inl (ca 2, 16, .inl (I 12))), (ad 12, .inl (ca 2, 16, .inl (I 13))), (ad 13, .inl (ca 2, 16, .inl (I 14))), (ad 14, .inl (ca 2, 16, .inl (I 15))), (ad 15, .inr (3, [.ref (ad 16), .ref (ad 17), .ref (ad 18), .ref (ad 21), .int (I 17 0)])), (ad 16, .inl (ca 4, 12, .inr (.inr (.inr (.inr hs))))), (ad 17, .inl (ca 2, 16, .inl (I 16))), (ad 18, .inr (4, [.ref (ad 19), .int (I 19 0), .ref (ad 20)])), (ad 19, .inl (ca 2, 16, .inl (I 18))), (ad 20, .inl (ca 2, 16, .inl (I 20))), (ad 21, .inr (5, [.ref (ad 22), .ref (ad 23), .ref (ad 24), .ref (ad 25)])), (ad 22, .inl (ca 3, 65536, .inr (.inl (J 3)))), (ad 23, .inl (ca 3, 65536, .inr (.inl (J 4)))), (ad 24, .inl (ca 2, 256, .inl (I 21))), (ad 25, .inl (ca 2, 256, .inl (I 22)))]
/-- the reference -/
def wM (ca : Nat → ClassId) (am : Nat → Nat) (I : IS) (J : JS) : va_W := [(am 0, .inr (6, [.int (I 0 0), .ref (am 1), .ref (am 2), .ref (am 3), .ref (am 4), .ref (am 5), .ref (am 6), .int (I 7 0), .int (I 8 0), .ref (am 7), .ref (am 8), .int (I 11 0), .ref (am 9), .ref (am 10), .int (I 12 0), .ref (am 11), .ref (am 12), .ref (am 13), .ref (am 14), .ref (am 15), .ref (am 16), .ref (am 17), .ref (am 18), .int (I 20 0)])), (am 1, .inl (ca 2, 12, .inl (I 1))), (am 2, .inl (ca 2, 12, .inl (I 2))), (am 3, .inl (ca 2, 12, .inl (I 3))), (am 4, .inl (ca 2, 4800, .inl (I 4))), (am 5, .inl (ca 2, 4800, .inl (I 5))), (am 6, .inl (ca 1, 4800, .inl (I 6))), (am 7, .inl (ca 2, 16, .inl (I 9))), (am 8, .inl (ca 2, 16, .inl (I 10))), (am 9, .inl (ca 3, 65536, .inr (.inl (J 0)))), (am 10, .inl (ca 3, 65536, .inr (.inl (J 1)))), (am 11, .inl (ca 2, 16, .inl (I 13))), (am 12, .inl (ca 2, 16, .inl (I 14))), (am 13, .inl (ca 2, 16, .inl (I 15))), (am 14, .inl (ca 2, 16, .inl (I 16))), (am 15, .inl (ca 2, 16, .inl (I 17))), (am 16, .inl (ca 2, 16, .inl (I 18))), (am 17, .inl (ca 2, 16, .inl (I 19))), (am 18, .inl (ca 3, 256, .inr (.inl (J 2))))]
