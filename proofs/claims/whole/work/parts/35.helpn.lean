set_option maxHeartbeats 4000000 in
set_option maxRecDepth 100000 in
theorem cm_W_heat_n (l : Launch) (D : va_G) (ca : Nat → ClassId) (ad : Nat → Nat) (hs : Nat → Option Nat) {p1 p2 : Int32} {I0 : IS} {J0 : JS} {r : IS × JS} (hh : vp_in p1 12 → hs p1.toNatClampNeg = none) (hf : fm_K_heat_n p1 p2 I0 J0 = some r) : ∀ sz : Nat, Met l y_W_heat (Cond.codeWith y_W_heat b_W_heat 4 (some .int) [((0 : Nat), (6 : Nat), (9 : Nat), (13 : Nat))] :: TB) { frames := 5, cells := 15, slots := 1845, locals := 107 } (va_Pc [.ref (ad 15), .int p1, .int p2] (pW D cls_all (tysC ca) NN (wD ca ad hs I0 J0) sz)) (va_Qi (fun r0 (_ : (Nat → Nat) × (Nat → Option Nat)) => r0 = 0) (fun (u : (Nat → Nat) × (Nat → Option Nat)) (t : State) => (∀ k, 15 ≤ k → u.1 k = ad k) ∧ u.2 = va_up hs p1.toNatClampNeg (some (u.1 0)) ∧ va_P D cls_all (wC ca u.1 u.2 r.1 r.2) t.heap ∧ va_D (va_A (wD ca ad hs I0 J0) sz) (wC ca u.1 u.2 r.1 r.2)) (va_A (wD ca ad hs I0 J0) sz)) 15 1845 (va_A (wD ca ad hs I0 J0) sz) := by
  intro sz
  refine va_MetW (cc := b_W_heat) (maxL := 4) (ret := some .int) (hh := [((0 : Nat), (6 : Nat), (9 : Nat), (13 : Nat))]) (by decide) rfl ?_
  intro p e s m args below meth c s₁ B hml hv
  obtain ⟨rfl, hsz, hP, hK, hD0, hN⟩ := hv
  subst hsz
  have hx := B.exec
  have hb := B.bytes
  have hts := atoms_spec (ws := Cond.codeWith y_W_heat b_W_heat 4 (some .int) [((0 : Nat), (6 : Nat), (9 : Nat), (13 : Nat))] :: TB) B.pre
  have hown : s.vm.findClass "JuryDeskLaw" = some m.cls := findClass_of_methodNamed B.named
  have hD := hD0.self (sz := s.heap.size)
  have hA : ∀ q : Nat, s.heap.size ≤ q → va_A (wD ca ad hs I0 J0) s.heap.size q := fun q h => Or.inr h
  have hS : va_S (va_A (wD ca ad hs I0 J0) s.heap.size) s.heap s.heap [] := va_S.rf
  have hl := lv_entry ([.ref (ad 15), .int p1, .int p2]) (n := 4) (Nat.le_of_ble_eq_true rfl)
  rw [lg_entry_eq]
  generalize (lg_sl ([.ref (ad 15), .int p1, .int p2]) ++ List.replicate (4 - (lg_sl ([.ref (ad 15), .int p1, .int p2])).length) Slot.unset).toArray = ls at hl ⊢
  have hl : lv_has ls 4 [(0, .ref (ad 15)), (1, .int p1), (2, .int p2)] := hl
  refine lv_aload_n hx hb d_W_heat_0 rfl (lv_at hl 0 rfl) ?_
  refine lv_iload_n hx hb d_W_heat_1 rfl (lv_at hl 1 rfl) ?_
  refine lv_iload_n hx hb d_W_heat_2 rfl (lv_at hl 2 rfl) ?_
  refine va_callv (va_runV (As := [.int p1, .int p2]) (rest := []) ⟨hx, hb, hml, hown, hts⟩ (cm_K_heat_n l D ca ad hs hh hf s.heap.size) (cwV 2 hts (jd_gV tb_423 tb_424 tb_425 tb_43 tb_426) rfl rfl rfl ⟨rfl, by decide, by decide, rfl⟩ ⟨Nat.le_of_ble_eq_true rfl, Nat.le_of_ble_eq_true rfl⟩) ⟨jd_blind nWc, va_recv hK hP (ci := 3) (q0 := 0) rfl rfl, jd_pre (av := [.ref (ad 15), .int p1, .int p2]) hP hK hD (fun U h => nWm h hN)⟩ rfl rfl hl.1 rfl (lv_room (Nat.le_of_ble_eq_true rfl)) d_W_heat_3 ⟨Nat.le_of_ble_eq_true rfl, Nat.le_of_ble_eq_true rfl⟩) hS (fun q _ h => h) (fun q h => h) (fun u t H1 locs ht hvm _ hB hz1 hk1 hS => ?_)
  obtain ⟨b1, b2, b3, b4⟩ := hB
  rw [ht] at b3
  refine lv_goto (tgt := 12) hx hb d_W_heat_6 rfl ?_
  refine lv_iconst (v := 0) hx hb d_W_heat_12 (by decide) ?_
  refine W.cs (cells' := 15) (slots' := 1845) rfl rfl ?_
  exact W.iret (v := 0) hx hb B.returns (fun t2 ht2 hW => ⟨⟨0, u, rfl, rfl, b1, b2, by rw [ht2]; exact b3, b4⟩, hS.F ht2⟩) hS.2.2 d_W_heat_13 B.notSynchronized
