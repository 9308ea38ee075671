theorem jd_tab {L : List ExceptionTableEntry} {a b c d : Nat} (h : L.map (fun h => (h.startPc, h.endPc, h.handlerPc, h.catchType)) = [(a, b, c, d)]) : ∃ x : ExceptionTableEntry, L = [x] ∧ x.startPc = a ∧ x.endPc = b ∧ x.handlerPc = c ∧ x.catchType = d := by
  cases L with
  | nil => cases h
  | cons x t =>
    cases t with
    | nil =>
      simp only [List.map_cons, List.map_nil, List.cons.injEq, Prod.mk.injEq, and_true] at h
      exact ⟨x, rfl, h⟩
    | cons y t => simp at h
set_option maxHeartbeats 4000000 in
set_option maxRecDepth 100000 in
theorem ct_W_heat (l : Launch) (hfl : l.flags = flags0) (D : va_G) (ca : Nat → ClassId) {w : va_W} {q0 a0 : Nat} {fs : List Value} (hq0 : w[q0]? = some (a0, .inr (3, fs))) {p1 p2 : Int32} (hf : ft_K_heat p1 p2 = some ()) : ∀ sz : Nat, Met l y_W_heat (Cond.codeWith y_W_heat b_W_heat 4 (some .int) [((0 : Nat), (6 : Nat), (9 : Nat), (13 : Nat))] :: TB) { frames := 7, cells := 1, slots := 6, locals := 104 } (va_Pc [.ref a0, .int p1, .int p2] (fun U => pW D cls_all (tysC ca) NN w sz U ∧ XF U)) (va_Qi (fun r (_ : Unit) => r = 1) (fun _ t => va_P D cls_all w t.heap) (va_A w sz)) 1 6 (va_A w sz) := by
  intro sz
  refine va_MetW (cc := b_W_heat) (maxL := 4) (ret := some .int) (hh := [((0 : Nat), (6 : Nat), (9 : Nat), (13 : Nat))]) (by decide) rfl ?_
  intro p e s m args below meth c s₁ B hml hv
  obtain ⟨rfl, ⟨hsz, hP, hK, hD0, hN⟩, hX⟩ := hv
  subst hsz
  have hx := B.exec
  have hb := B.bytes
  have hts := atoms_spec (ws := Cond.codeWith y_W_heat b_W_heat 4 (some .int) [((0 : Nat), (6 : Nat), (9 : Nat), (13 : Nat))] :: TB) B.pre
  have hown : s.vm.findClass "JuryDeskLaw" = some m.cls := findClass_of_methodNamed B.named
  obtain ⟨m9, meth9, c9, hn9, h1, h2, -, -, ht9, -⟩ := Cond.codeWith_spec (hts _ List.mem_cons_self)
  cases B.named.symm.trans hn9
  cases B.method.symm.trans h1
  cases (Stand.of_body B).code.symm.trans h2
  obtain ⟨x, htab, x1, x2, x3, x4⟩ := jd_tab ht9
  have hD := hD0.self (sz := s.heap.size)
  have hS : va_S (va_A w s.heap.size) s.heap s.heap [] := va_S.rf
  have hl := lv_entry ([.ref a0, .int p1, .int p2]) (n := 4) (Nat.le_of_ble_eq_true rfl)
  rw [lg_entry_eq]
  generalize (lg_sl ([.ref a0, .int p1, .int p2]) ++ List.replicate (4 - (lg_sl ([.ref a0, .int p1, .int p2])).length) Slot.unset).toArray = ls at hl ⊢
  have hl : lv_has ls 4 [(0, .ref a0), (1, .int p1), (2, .int p2)] := hl
  refine lv_aload_n hx hb d_W_heat_0 rfl (lv_at hl 0 rfl) ?_
  refine lv_iload_n hx hb d_W_heat_1 rfl (lv_at hl 1 rfl) ?_
  refine lv_iload_n hx hb d_W_heat_2 rfl (lv_at hl 2 rfl) ?_
  refine jd_callT (As := [.int p1, .int p2]) (rest := []) ⟨hx, hb, hml, hown, hts⟩ (ct_K_heat l hfl a0 hf) (cwV 2 hts (jd_gV tb_423 tb_424 tb_425 tb_43 tb_426) rfl rfl rfl ⟨rfl, by decide, by decide, rfl⟩ ⟨Nat.le_of_ble_eq_true rfl, Nat.le_of_ble_eq_true rfl⟩) ⟨fun a U g mk q => ⟨q.1, q.2.call g mk a⟩, va_recv hK hP (ci := 3) (q0 := q0) rfl hq0, fun U hU hW => ⟨rfl, hX.move hW (fun q _ => by rw [hU])⟩⟩ rfl hl.1 (lv_room (Nat.le_of_ble_eq_true rfl)) d_W_heat_3 ⟨Nat.le_of_ble_eq_true rfl, Nat.le_of_ble_eq_true rfl⟩ htab (by simp [covers, x1, x2]) (by rw [x4]; decide) (by rw [x4]; exact (hts _ (List.mem_cons_of_mem _ tb_422))) (fun a H1 ha hz hk => ?_)
  rw [x3]
  refine lv_astore_n hx hb d_W_heat_9 rfl hl (by decide) (lv' := [(3, .ref a), (0, .ref a0), (1, .int p1), (2, .int p2)]) rfl (fun ls hl => ?_)
  refine lv_iconst (v := 1) hx hb d_W_heat_10 (by decide) ?_
  exact jd_iret hx hb B.returns B.notSynchronized (hP.kept (fun k q hq => hk q.1 ((hP k q hq).lt))) ⟨hz, fun q h1 _ => hk q h1, hS.2.2⟩ d_W_heat_11
set_option maxHeartbeats 4000000 in
set_option maxRecDepth 100000 in
theorem ct_W_chance (l : Launch) (hfl : l.flags = flags0) (D : va_G) (ca : Nat → ClassId) {w : va_W} {q0 a0 : Nat} {fs : List Value} (hq0 : w[q0]? = some (a0, .inr (3, fs))) {p1 p2 : Int64} {p3 : Int32} (ao : Nat) (hf : ft_K_chance p1 p2 p3 = some ()) : ∀ sz : Nat, Met l y_W_chance (Cond.codeWith y_W_chance b_W_chance 8 (some .int) [((0 : Nat), (12 : Nat), (15 : Nat), (13 : Nat))] :: TB) { frames := 7, cells := 1, slots := 6, locals := 107 } (va_Pc [.ref a0, .long p1, .long p2, .int p3, .ref ao] (fun U => pW D cls_all (tysC ca) NN w sz U ∧ XF U)) (va_Qi (fun r (_ : Unit) => r = 1) (fun _ t => va_P D cls_all w t.heap) (va_A w sz)) 1 6 (va_A w sz) := by
  intro sz
  refine va_MetW (cc := b_W_chance) (maxL := 8) (ret := some .int) (hh := [((0 : Nat), (12 : Nat), (15 : Nat), (13 : Nat))]) (by decide) rfl ?_
  intro p e s m args below meth c s₁ B hml hv
  obtain ⟨rfl, ⟨hsz, hP, hK, hD0, hN⟩, hX⟩ := hv
  subst hsz
  have hx := B.exec
  have hb := B.bytes
  have hts := atoms_spec (ws := Cond.codeWith y_W_chance b_W_chance 8 (some .int) [((0 : Nat), (12 : Nat), (15 : Nat), (13 : Nat))] :: TB) B.pre
  have hown : s.vm.findClass "JuryDeskLaw" = some m.cls := findClass_of_methodNamed B.named
  obtain ⟨m9, meth9, c9, hn9, h1, h2, -, -, ht9, -⟩ := Cond.codeWith_spec (hts _ List.mem_cons_self)
  cases B.named.symm.trans hn9
  cases B.method.symm.trans h1
  cases (Stand.of_body B).code.symm.trans h2
  obtain ⟨x, htab, x1, x2, x3, x4⟩ := jd_tab ht9
  have hD := hD0.self (sz := s.heap.size)
  have hS : va_S (va_A w s.heap.size) s.heap s.heap [] := va_S.rf
  have hl := lv_entry ([.ref a0, .long p1, .long p2, .int p3, .ref ao]) (n := 8) (Nat.le_of_ble_eq_true rfl)
  rw [lg_entry_eq]
  generalize (lg_sl ([.ref a0, .long p1, .long p2, .int p3, .ref ao]) ++ List.replicate (8 - (lg_sl ([.ref a0, .long p1, .long p2, .int p3, .ref ao])).length) Slot.unset).toArray = ls at hl ⊢
  have hl : lv_has ls 8 [(0, .ref a0), (1, .long p1), (3, .long p2), (5, .int p3), (6, .ref ao)] := hl
  refine lv_aload hx hb d_W_chance_0 (lv_at hl 4 rfl) ?_
  refine lv_iconst (v := 0) hx hb d_W_chance_2 (by decide) ?_
  refine lv_aload_n hx hb d_W_chance_3 rfl (lv_at hl 0 rfl) ?_
  refine lv_lload_n hx hb d_W_chance_4 rfl (lv_at hl 1 rfl) ?_
  refine lv_lload_n hx hb d_W_chance_5 rfl (lv_at hl 2 rfl) ?_
  refine lv_iload hx hb d_W_chance_6 (lv_at hl 3 rfl) ?_
  refine jd_callT (As := [.long p1, .long p2, .int p3]) (rest := [.int 0, .ref ao]) ⟨hx, hb, hml, hown, hts⟩ (ct_K_chance l hfl a0 hf) (cwV 3 hts (jd_gV tb_583 tb_584 tb_585 tb_43 tb_586) rfl rfl rfl ⟨rfl, by decide, by decide, rfl⟩ ⟨Nat.le_of_ble_eq_true rfl, Nat.le_of_ble_eq_true rfl⟩) ⟨fun a U g mk q => ⟨q.1, q.2.call g mk a⟩, va_recv hK hP (ci := 3) (q0 := q0) rfl hq0, fun U hU hW => ⟨rfl, hX.move hW (fun q _ => by rw [hU])⟩⟩ rfl hl.1 (lv_room (Nat.le_of_ble_eq_true rfl)) d_W_chance_8 ⟨Nat.le_of_ble_eq_true rfl, Nat.le_of_ble_eq_true rfl⟩ htab (by simp [covers, x1, x2]) (by rw [x4]; decide) (by rw [x4]; exact (hts _ (List.mem_cons_of_mem _ tb_422))) (fun a H1 ha hz hk => ?_)
  rw [x3]
  refine lv_astore hx hb d_W_chance_15 hl (by decide) (lv' := [(7, .ref a), (0, .ref a0), (1, .long p1), (3, .long p2), (5, .int p3), (6, .ref ao)]) rfl (fun ls hl => ?_)
  refine lv_iconst (v := 1) hx hb d_W_chance_17 (by decide) ?_
  exact jd_iret hx hb B.returns B.notSynchronized (hP.kept (fun k q hq => hk q.1 ((hP k q hq).lt))) ⟨hz, fun q h1 _ => hk q h1, hS.2.2⟩ d_W_chance_18
set_option maxHeartbeats 4000000 in
set_option maxRecDepth 100000 in
theorem ct_W_give (l : Launch) (hfl : l.flags = flags0) (D : va_G) (ca : Nat → ClassId) {w : va_W} {q0 a0 : Nat} {fs : List Value} (hq0 : w[q0]? = some (a0, .inr (3, fs))) {p1 p2 : Int32} (ao : Nat) (hf : ft_K_give p1 p2 = some ()) : ∀ sz : Nat, Met l y_W_give (Cond.codeWith y_W_give b_W_give 5 (some .int) [((0 : Nat), (10 : Nat), (13 : Nat), (13 : Nat))] :: TB) { frames := 7, cells := 1, slots := 6, locals := 105 } (va_Pc [.ref a0, .int p1, .int p2, .ref ao] (fun U => pW D cls_all (tysC ca) NN w sz U ∧ XF U)) (va_Qi (fun r (_ : Unit) => r = 1) (fun _ t => va_P D cls_all w t.heap) (va_A w sz)) 1 6 (va_A w sz) := by
  intro sz
  refine va_MetW (cc := b_W_give) (maxL := 5) (ret := some .int) (hh := [((0 : Nat), (10 : Nat), (13 : Nat), (13 : Nat))]) (by decide) rfl ?_
  intro p e s m args below meth c s₁ B hml hv
  obtain ⟨rfl, ⟨hsz, hP, hK, hD0, hN⟩, hX⟩ := hv
  subst hsz
  have hx := B.exec
  have hb := B.bytes
  have hts := atoms_spec (ws := Cond.codeWith y_W_give b_W_give 5 (some .int) [((0 : Nat), (10 : Nat), (13 : Nat), (13 : Nat))] :: TB) B.pre
  have hown : s.vm.findClass "JuryDeskLaw" = some m.cls := findClass_of_methodNamed B.named
  obtain ⟨m9, meth9, c9, hn9, h1, h2, -, -, ht9, -⟩ := Cond.codeWith_spec (hts _ List.mem_cons_self)
  cases B.named.symm.trans hn9
  cases B.method.symm.trans h1
  cases (Stand.of_body B).code.symm.trans h2
  obtain ⟨x, htab, x1, x2, x3, x4⟩ := jd_tab ht9
  have hD := hD0.self (sz := s.heap.size)
  have hS : va_S (va_A w s.heap.size) s.heap s.heap [] := va_S.rf
  have hl := lv_entry ([.ref a0, .int p1, .int p2, .ref ao]) (n := 5) (Nat.le_of_ble_eq_true rfl)
  rw [lg_entry_eq]
  generalize (lg_sl ([.ref a0, .int p1, .int p2, .ref ao]) ++ List.replicate (5 - (lg_sl ([.ref a0, .int p1, .int p2, .ref ao])).length) Slot.unset).toArray = ls at hl ⊢
  have hl : lv_has ls 5 [(0, .ref a0), (1, .int p1), (2, .int p2), (3, .ref ao)] := hl
  refine lv_aload_n hx hb d_W_give_0 rfl (lv_at hl 3 rfl) ?_
  refine lv_iconst (v := 0) hx hb d_W_give_1 (by decide) ?_
  refine lv_aload_n hx hb d_W_give_2 rfl (lv_at hl 0 rfl) ?_
  refine lv_iload_n hx hb d_W_give_3 rfl (lv_at hl 1 rfl) ?_
  refine lv_iload_n hx hb d_W_give_4 rfl (lv_at hl 2 rfl) ?_
  refine jd_callT (As := [.int p1, .int p2]) (rest := [.int 0, .ref ao]) ⟨hx, hb, hml, hown, hts⟩ (ct_K_give l hfl a0 hf) (cwV 2 hts (jd_gV tb_589 tb_590 tb_591 tb_43 tb_592) rfl rfl rfl ⟨rfl, by decide, by decide, rfl⟩ ⟨Nat.le_of_ble_eq_true rfl, Nat.le_of_ble_eq_true rfl⟩) ⟨fun a U g mk q => ⟨q.1, q.2.call g mk a⟩, va_recv hK hP (ci := 3) (q0 := q0) rfl hq0, fun U hU hW => ⟨rfl, hX.move hW (fun q _ => by rw [hU])⟩⟩ rfl hl.1 (lv_room (Nat.le_of_ble_eq_true rfl)) d_W_give_5 ⟨Nat.le_of_ble_eq_true rfl, Nat.le_of_ble_eq_true rfl⟩ htab (by simp [covers, x1, x2]) (by rw [x4]; decide) (by rw [x4]; exact (hts _ (List.mem_cons_of_mem _ tb_422))) (fun a H1 ha hz hk => ?_)
  rw [x3]
  refine lv_astore hx hb d_W_give_13 hl (by decide) (lv' := [(4, .ref a), (0, .ref a0), (1, .int p1), (2, .int p2), (3, .ref ao)]) rfl (fun ls hl => ?_)
  refine lv_iconst (v := 1) hx hb d_W_give_15 (by decide) ?_
  exact jd_iret hx hb B.returns B.notSynchronized (hP.kept (fun k q hq => hk q.1 ((hP k q hq).lt))) ⟨hz, fun q h1 _ => hk q h1, hS.2.2⟩ d_W_give_16
