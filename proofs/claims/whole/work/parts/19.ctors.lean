theorem d_T_init_0 : decode b_T_init 0 = .ok (.aload_n 0, 1) := by decide +kernel
theorem d_T_init_1 : decode b_T_init 1 = .ok (.invokespecial 3, 3) := by decide +kernel
theorem d_T_init_4 : decode b_T_init 4 = .ok (.aload_n 0, 1) := by decide +kernel
theorem d_T_init_5 : decode b_T_init 5 = .ok (.sipush 256, 3) := by decide +kernel
theorem d_T_init_8 : decode b_T_init 8 = .ok (.newarray .long, 2) := by decide +kernel
theorem d_T_init_10 : decode b_T_init 10 = .ok (.putfield 9, 3) := by decide +kernel
theorem d_T_init_13 : decode b_T_init 13 = .ok (.aload_n 0, 1) := by decide +kernel
theorem d_T_init_14 : decode b_T_init 14 = .ok (.sipush 256, 3) := by decide +kernel
theorem d_T_init_17 : decode b_T_init 17 = .ok (.newarray .long, 2) := by decide +kernel
theorem d_T_init_19 : decode b_T_init 19 = .ok (.putfield 15, 3) := by decide +kernel
theorem d_T_init_22 : decode b_T_init 22 = .ok (.return_, 1) := by decide +kernel
abbrev cw_T (ca : Nat → ClassId) (a0 : Nat) (u : Nat → Nat) : va_W := [(a0, .inr (1, [.int 0, .long 0, .ref (u 0), .ref (u 1)])), ((u 0), .inl (ca 3, 256, .inr (.inl (fun _ => 0)))), ((u 1), .inl (ca 3, 256, .inr (.inl (fun _ => 0))))]
set_option maxHeartbeats 4000000 in
set_option maxRecDepth 100000 in
theorem cm_T_init (l : Launch) (D : va_G) (ca : Nat → ClassId) (a0 : Nat) : ∀ sz : Nat, Met l y_T_init (Cond.code y_T_init b_T_init 1 none :: TB) { frames := 1, cells := 2, slots := 512, locals := 12 } (va_Pc [.ref a0] (pW D cls_all (tysC ca) NN [(a0, .inr (1, [.int 0, .long 0, .null, .null]))] sz)) (va_Qv (fun (_ : Nat → Nat) => True) (fun u t => va_P D cls_all (cw_T ca a0 u) t.heap ∧ va_D (va_A [(a0, .inr (1, [.int 0, .long 0, .null, .null]))] sz) (cw_T ca a0 u)) (va_A [(a0, .inr (1, [.int 0, .long 0, .null, .null]))] sz)) 2 512 (va_A [(a0, .inr (1, [.int 0, .long 0, .null, .null]))] sz) := by
  intro sz
  refine Met.ofW (cc := b_T_init) (maxL := 1) (ret := none) (by decide) rfl ?_
  intro p e s m args below meth c s₁ B hml hv
  obtain ⟨rfl, hsz, hP, hK, hD0, hN⟩ := hv
  have hx := B.exec
  have hb := B.bytes
  have hr := B.returns
  have hts := atoms_spec (ws := Cond.code y_T_init b_T_init 1 none :: TB) B.pre
  have hown : s.vm.findClass R_T = some m.cls := findClass_of_methodNamed B.named
  have hlocks := B.notSynchronized
  have hin : meth.name = "<init>" := (name_of_methodNamed B.named B.method).1
  subst hsz
  have hD := hD0.self (sz := s.heap.size)
  generalize hAe : va_A [(a0, .inr (1, [.int 0, .long 0, .null, .null]))] s.heap.size = A at hD ⊢
  have hA : ∀ q : Nat, s.heap.size ≤ q → A q := fun q h => by rw [← hAe]; exact Or.inr h
  have hS : va_S A s.heap s.heap [] := va_S.rf
  have hl := lv_entry ([.ref a0]) (n := 1) (Nat.le_of_ble_eq_true rfl)
  rw [lg_entry_eq]
  generalize (lg_sl ([.ref a0]) ++ List.replicate (1 - (lg_sl ([.ref a0])).length) Slot.unset).toArray = ls at hl ⊢
  have hl : lv_has ls 1 [(0, .ref a0)] := hl
  refine lv_aload_n hx hb d_T_init_0 rfl (lv_at hl 0 rfl) ?_
  refine W.objInit hx hb hown (hts _ (List.mem_cons_of_mem _ tb_484)) (hts _ (List.mem_cons_of_mem _ tb_63)) (hts _ (List.mem_cons_of_mem _ tb_64)) rfl (by rw [hml]; exact hl.1) rfl d_T_init_1 (Nat.le_of_ble_eq_true rfl) (Nat.le_of_ble_eq_true rfl) ?_
  refine W.eq (g2 := F0 m 4 ls []) rfl ?_
  refine lv_aload_n hx hb d_T_init_4 rfl (lv_at hl 0 rfl) ?_
  refine lv_sipush (v := 256) hx hb d_T_init_5 (by decide) ?_
  refine jd_newa (atype := .long) (a0 := (256, .inr (.inl (fun _ => 0)))) (N' := 256) (ty := .long) hx hb (hts _ (List.mem_cons_of_mem _ tb_101)) rfl (fun _ _ h => h) hK hP hD hS hA 3 rfl (fun _ => rfl) (by decide) (by decide) (by decide) (Nat.le_of_ble_eq_true rfl) (Nat.le_of_ble_eq_true rfl) d_T_init_8 (c' := 1) (s' := 256) rfl rfl (fun q1 H hP hD hS => ?_)
  have hP : va_P D cls_all [(a0, .inr (1, [.int 0, .long 0, .null, .null])), (q1, .inl (ca 3, 256, .inr (.inl (fun _ => 0))))] H := hP
  have hD : va_D A [(a0, .inr (1, [.int 0, .long 0, .null, .null])), (q1, .inl (ca 3, 256, .inr (.inl (fun _ => 0))))] := hD
  refine va_putF (D := D) (ci := 1) (v := .ref q1) (ty := .array .long) (C := R_T) (T := F_T) (N := 4) hx hb hts (fun w h => List.mem_cons_of_mem _ (uw_T w h)) ft_T tk_T n_T hown hK hP hD hS 0 rfl rfl 2 (by decide) (hts _ (List.mem_cons_of_mem _ tb_489)) (fun _ h => h) rfl hin rfl (by decide +kernel) rfl rfl (Nat.le_of_ble_eq_true rfl) d_T_init_10 (fun H locs hP hD hS => ?_)
  have hP : va_P D cls_all [(a0, .inr (1, [.int 0, .long 0, .ref q1, .null])), (q1, .inl (ca 3, 256, .inr (.inl (fun _ => 0))))] H := hP
  have hD : va_D A [(a0, .inr (1, [.int 0, .long 0, .ref q1, .null])), (q1, .inl (ca 3, 256, .inr (.inl (fun _ => 0))))] := hD
  refine lv_aload_n hx hb d_T_init_13 rfl (lv_at hl 0 rfl) ?_
  refine lv_sipush (v := 256) hx hb d_T_init_14 (by decide) ?_
  refine jd_newa (atype := .long) (a0 := (256, .inr (.inl (fun _ => 0)))) (N' := 256) (ty := .long) hx hb (hts _ (List.mem_cons_of_mem _ tb_101)) rfl (fun _ _ h => h) hK hP hD hS hA 3 rfl (fun _ => rfl) (by decide) (by decide) (by decide) (Nat.le_of_ble_eq_true rfl) (Nat.le_of_ble_eq_true rfl) d_T_init_17 (c' := 2) (s' := 512) rfl rfl (fun q2 H hP hD hS => ?_)
  have hP : va_P D cls_all [(a0, .inr (1, [.int 0, .long 0, .ref q1, .null])), (q1, .inl (ca 3, 256, .inr (.inl (fun _ => 0)))), (q2, .inl (ca 3, 256, .inr (.inl (fun _ => 0))))] H := hP
  have hD : va_D A [(a0, .inr (1, [.int 0, .long 0, .ref q1, .null])), (q1, .inl (ca 3, 256, .inr (.inl (fun _ => 0)))), (q2, .inl (ca 3, 256, .inr (.inl (fun _ => 0))))] := hD
  refine va_putF (D := D) (ci := 1) (v := .ref q2) (ty := .array .long) (C := R_T) (T := F_T) (N := 4) hx hb hts (fun w h => List.mem_cons_of_mem _ (uw_T w h)) ft_T tk_T n_T hown hK hP hD hS 0 rfl rfl 3 (by decide) (hts _ (List.mem_cons_of_mem _ tb_492)) (fun _ h => h) rfl hin rfl (by decide +kernel) rfl rfl (Nat.le_of_ble_eq_true rfl) d_T_init_19 (fun H locs hP hD hS => ?_)
  have hP : va_P D cls_all [(a0, .inr (1, [.int 0, .long 0, .ref q1, .ref q2])), (q1, .inl (ca 3, 256, .inr (.inl (fun _ => 0)))), (q2, .inl (ca 3, 256, .inr (.inl (fun _ => 0))))] H := hP
  have hD : va_D A [(a0, .inr (1, [.int 0, .long 0, .ref q1, .ref q2])), (q1, .inl (ca 3, 256, .inr (.inl (fun _ => 0)))), (q2, .inl (ca 3, 256, .inr (.inl (fun _ => 0))))] := hD
  exact W.vret hx hb hr (fun t ht hW => ⟨⟨(fun k => ([q1, q2] : List Nat).getD k 0), rfl, trivial, by rw [ht]; exact hP, hD⟩, hS.F ht⟩) hS.2.2 d_T_init_22 hlocks
theorem d_R_init_0 : decode b_R_init 0 = .ok (.aload_n 0, 1) := by decide +kernel
theorem d_R_init_1 : decode b_R_init 1 = .ok (.invokespecial 3, 3) := by decide +kernel
theorem d_R_init_4 : decode b_R_init 4 = .ok (.aload_n 0, 1) := by decide +kernel
theorem d_R_init_5 : decode b_R_init 5 = .ok (.bipush 16, 2) := by decide +kernel
theorem d_R_init_7 : decode b_R_init 7 = .ok (.newarray .int, 2) := by decide +kernel
theorem d_R_init_9 : decode b_R_init 9 = .ok (.putfield 9, 3) := by decide +kernel
theorem d_R_init_12 : decode b_R_init 12 = .ok (.aload_n 0, 1) := by decide +kernel
theorem d_R_init_13 : decode b_R_init 13 = .ok (.bipush 16, 2) := by decide +kernel
theorem d_R_init_15 : decode b_R_init 15 = .ok (.newarray .int, 2) := by decide +kernel
theorem d_R_init_17 : decode b_R_init 17 = .ok (.putfield 15, 3) := by decide +kernel
theorem d_R_init_20 : decode b_R_init 20 = .ok (.aload_n 0, 1) := by decide +kernel
theorem d_R_init_21 : decode b_R_init 21 = .ok (.bipush 16, 2) := by decide +kernel
theorem d_R_init_23 : decode b_R_init 23 = .ok (.newarray .int, 2) := by decide +kernel
theorem d_R_init_25 : decode b_R_init 25 = .ok (.putfield 18, 3) := by decide +kernel
theorem d_R_init_28 : decode b_R_init 28 = .ok (.aload_n 0, 1) := by decide +kernel
theorem d_R_init_29 : decode b_R_init 29 = .ok (.bipush 16, 2) := by decide +kernel
theorem d_R_init_31 : decode b_R_init 31 = .ok (.newarray .int, 2) := by decide +kernel
theorem d_R_init_33 : decode b_R_init 33 = .ok (.putfield 21, 3) := by decide +kernel
theorem d_R_init_36 : decode b_R_init 36 = .ok (.aload_n 0, 1) := by decide +kernel
theorem d_R_init_37 : decode b_R_init 37 = .ok (.bipush 16, 2) := by decide +kernel
theorem d_R_init_39 : decode b_R_init 39 = .ok (.newarray .int, 2) := by decide +kernel
theorem d_R_init_41 : decode b_R_init 41 = .ok (.putfield 24, 3) := by decide +kernel
theorem d_R_init_44 : decode b_R_init 44 = .ok (.return_, 1) := by decide +kernel
abbrev cw_R (ca : Nat → ClassId) (a0 : Nat) (u : Nat → Nat) : va_W := [(a0, .inr (2, [.int 0, .int 0, .ref (u 0), .int 0, .ref (u 1), .ref (u 2), .ref (u 3), .ref (u 4)])), ((u 0), .inl (ca 2, 16, .inl (fun _ => 0))), ((u 1), .inl (ca 2, 16, .inl (fun _ => 0))), ((u 2), .inl (ca 2, 16, .inl (fun _ => 0))), ((u 3), .inl (ca 2, 16, .inl (fun _ => 0))), ((u 4), .inl (ca 2, 16, .inl (fun _ => 0)))]
set_option maxHeartbeats 4000000 in
set_option maxRecDepth 100000 in
theorem cm_R_init (l : Launch) (D : va_G) (ca : Nat → ClassId) (a0 : Nat) : ∀ sz : Nat, Met l y_R_init (Cond.code y_R_init b_R_init 1 none :: TB) { frames := 1, cells := 5, slots := 80, locals := 12 } (va_Pc [.ref a0] (pW D cls_all (tysC ca) NN [(a0, .inr (2, [.int 0, .int 0, .null, .int 0, .null, .null, .null, .null]))] sz)) (va_Qv (fun (_ : Nat → Nat) => True) (fun u t => va_P D cls_all (cw_R ca a0 u) t.heap ∧ va_D (va_A [(a0, .inr (2, [.int 0, .int 0, .null, .int 0, .null, .null, .null, .null]))] sz) (cw_R ca a0 u)) (va_A [(a0, .inr (2, [.int 0, .int 0, .null, .int 0, .null, .null, .null, .null]))] sz)) 5 80 (va_A [(a0, .inr (2, [.int 0, .int 0, .null, .int 0, .null, .null, .null, .null]))] sz) := by
  intro sz
  refine Met.ofW (cc := b_R_init) (maxL := 1) (ret := none) (by decide) rfl ?_
  intro p e s m args below meth c s₁ B hml hv
  obtain ⟨rfl, hsz, hP, hK, hD0, hN⟩ := hv
  have hx := B.exec
  have hb := B.bytes
  have hr := B.returns
  have hts := atoms_spec (ws := Cond.code y_R_init b_R_init 1 none :: TB) B.pre
  have hown : s.vm.findClass R_R = some m.cls := findClass_of_methodNamed B.named
  have hlocks := B.notSynchronized
  have hin : meth.name = "<init>" := (name_of_methodNamed B.named B.method).1
  subst hsz
  have hD := hD0.self (sz := s.heap.size)
  generalize hAe : va_A [(a0, .inr (2, [.int 0, .int 0, .null, .int 0, .null, .null, .null, .null]))] s.heap.size = A at hD ⊢
  have hA : ∀ q : Nat, s.heap.size ≤ q → A q := fun q h => by rw [← hAe]; exact Or.inr h
  have hS : va_S A s.heap s.heap [] := va_S.rf
  have hl := lv_entry ([.ref a0]) (n := 1) (Nat.le_of_ble_eq_true rfl)
  rw [lg_entry_eq]
  generalize (lg_sl ([.ref a0]) ++ List.replicate (1 - (lg_sl ([.ref a0])).length) Slot.unset).toArray = ls at hl ⊢
  have hl : lv_has ls 1 [(0, .ref a0)] := hl
  refine lv_aload_n hx hb d_R_init_0 rfl (lv_at hl 0 rfl) ?_
  refine W.objInit hx hb hown (hts _ (List.mem_cons_of_mem _ tb_506)) (hts _ (List.mem_cons_of_mem _ tb_63)) (hts _ (List.mem_cons_of_mem _ tb_64)) rfl (by rw [hml]; exact hl.1) rfl d_R_init_1 (Nat.le_of_ble_eq_true rfl) (Nat.le_of_ble_eq_true rfl) ?_
  refine W.eq (g2 := F0 m 4 ls []) rfl ?_
  refine lv_aload_n hx hb d_R_init_4 rfl (lv_at hl 0 rfl) ?_
  refine lv_bipush (v := 16) hx hb d_R_init_5 (by decide) ?_
  refine jd_newa (atype := .int) (a0 := (16, .inl (fun _ => 0))) (N' := 16) (ty := .int) hx hb (hts _ (List.mem_cons_of_mem _ tb_82)) rfl (fun _ _ h => h) hK hP hD hS hA 2 rfl (fun _ => rfl) (by decide) (by decide) (by decide) (Nat.le_of_ble_eq_true rfl) (Nat.le_of_ble_eq_true rfl) d_R_init_7 (c' := 1) (s' := 16) rfl rfl (fun q1 H hP hD hS => ?_)
  have hP : va_P D cls_all [(a0, .inr (2, [.int 0, .int 0, .null, .int 0, .null, .null, .null, .null])), (q1, .inl (ca 2, 16, .inl (fun _ => 0)))] H := hP
  have hD : va_D A [(a0, .inr (2, [.int 0, .int 0, .null, .int 0, .null, .null, .null, .null])), (q1, .inl (ca 2, 16, .inl (fun _ => 0)))] := hD
  refine va_putF (D := D) (ci := 2) (v := .ref q1) (ty := .array .int) (C := R_R) (T := F_R) (N := 8) hx hb hts (fun w h => List.mem_cons_of_mem _ (uw_R w h)) ft_R tk_R n_R hown hK hP hD hS 0 rfl rfl 2 (by decide) (hts _ (List.mem_cons_of_mem _ tb_512)) (fun _ h => h) rfl hin rfl (by decide +kernel) rfl rfl (Nat.le_of_ble_eq_true rfl) d_R_init_9 (fun H locs hP hD hS => ?_)
  have hP : va_P D cls_all [(a0, .inr (2, [.int 0, .int 0, .ref q1, .int 0, .null, .null, .null, .null])), (q1, .inl (ca 2, 16, .inl (fun _ => 0)))] H := hP
  have hD : va_D A [(a0, .inr (2, [.int 0, .int 0, .ref q1, .int 0, .null, .null, .null, .null])), (q1, .inl (ca 2, 16, .inl (fun _ => 0)))] := hD
  refine lv_aload_n hx hb d_R_init_12 rfl (lv_at hl 0 rfl) ?_
  refine lv_bipush (v := 16) hx hb d_R_init_13 (by decide) ?_
  refine jd_newa (atype := .int) (a0 := (16, .inl (fun _ => 0))) (N' := 16) (ty := .int) hx hb (hts _ (List.mem_cons_of_mem _ tb_82)) rfl (fun _ _ h => h) hK hP hD hS hA 2 rfl (fun _ => rfl) (by decide) (by decide) (by decide) (Nat.le_of_ble_eq_true rfl) (Nat.le_of_ble_eq_true rfl) d_R_init_15 (c' := 2) (s' := 32) rfl rfl (fun q2 H hP hD hS => ?_)
  have hP : va_P D cls_all [(a0, .inr (2, [.int 0, .int 0, .ref q1, .int 0, .null, .null, .null, .null])), (q1, .inl (ca 2, 16, .inl (fun _ => 0))), (q2, .inl (ca 2, 16, .inl (fun _ => 0)))] H := hP
  have hD : va_D A [(a0, .inr (2, [.int 0, .int 0, .ref q1, .int 0, .null, .null, .null, .null])), (q1, .inl (ca 2, 16, .inl (fun _ => 0))), (q2, .inl (ca 2, 16, .inl (fun _ => 0)))] := hD
  refine va_putF (D := D) (ci := 2) (v := .ref q2) (ty := .array .int) (C := R_R) (T := F_R) (N := 8) hx hb hts (fun w h => List.mem_cons_of_mem _ (uw_R w h)) ft_R tk_R n_R hown hK hP hD hS 0 rfl rfl 4 (by decide) (hts _ (List.mem_cons_of_mem _ tb_515)) (fun _ h => h) rfl hin rfl (by decide +kernel) rfl rfl (Nat.le_of_ble_eq_true rfl) d_R_init_17 (fun H locs hP hD hS => ?_)
  have hP : va_P D cls_all [(a0, .inr (2, [.int 0, .int 0, .ref q1, .int 0, .ref q2, .null, .null, .null])), (q1, .inl (ca 2, 16, .inl (fun _ => 0))), (q2, .inl (ca 2, 16, .inl (fun _ => 0)))] H := hP
  have hD : va_D A [(a0, .inr (2, [.int 0, .int 0, .ref q1, .int 0, .ref q2, .null, .null, .null])), (q1, .inl (ca 2, 16, .inl (fun _ => 0))), (q2, .inl (ca 2, 16, .inl (fun _ => 0)))] := hD
  refine lv_aload_n hx hb d_R_init_20 rfl (lv_at hl 0 rfl) ?_
  refine lv_bipush (v := 16) hx hb d_R_init_21 (by decide) ?_
  refine jd_newa (atype := .int) (a0 := (16, .inl (fun _ => 0))) (N' := 16) (ty := .int) hx hb (hts _ (List.mem_cons_of_mem _ tb_82)) rfl (fun _ _ h => h) hK hP hD hS hA 2 rfl (fun _ => rfl) (by decide) (by decide) (by decide) (Nat.le_of_ble_eq_true rfl) (Nat.le_of_ble_eq_true rfl) d_R_init_23 (c' := 3) (s' := 48) rfl rfl (fun q3 H hP hD hS => ?_)
  have hP : va_P D cls_all [(a0, .inr (2, [.int 0, .int 0, .ref q1, .int 0, .ref q2, .null, .null, .null])), (q1, .inl (ca 2, 16, .inl (fun _ => 0))), (q2, .inl (ca 2, 16, .inl (fun _ => 0))), (q3, .inl (ca 2, 16, .inl (fun _ => 0)))] H := hP
  have hD : va_D A [(a0, .inr (2, [.int 0, .int 0, .ref q1, .int 0, .ref q2, .null, .null, .null])), (q1, .inl (ca 2, 16, .inl (fun _ => 0))), (q2, .inl (ca 2, 16, .inl (fun _ => 0))), (q3, .inl (ca 2, 16, .inl (fun _ => 0)))] := hD
  refine va_putF (D := D) (ci := 2) (v := .ref q3) (ty := .array .int) (C := R_R) (T := F_R) (N := 8) hx hb hts (fun w h => List.mem_cons_of_mem _ (uw_R w h)) ft_R tk_R n_R hown hK hP hD hS 0 rfl rfl 5 (by decide) (hts _ (List.mem_cons_of_mem _ tb_516)) (fun _ h => h) rfl hin rfl (by decide +kernel) rfl rfl (Nat.le_of_ble_eq_true rfl) d_R_init_25 (fun H locs hP hD hS => ?_)
  have hP : va_P D cls_all [(a0, .inr (2, [.int 0, .int 0, .ref q1, .int 0, .ref q2, .ref q3, .null, .null])), (q1, .inl (ca 2, 16, .inl (fun _ => 0))), (q2, .inl (ca 2, 16, .inl (fun _ => 0))), (q3, .inl (ca 2, 16, .inl (fun _ => 0)))] H := hP
  have hD : va_D A [(a0, .inr (2, [.int 0, .int 0, .ref q1, .int 0, .ref q2, .ref q3, .null, .null])), (q1, .inl (ca 2, 16, .inl (fun _ => 0))), (q2, .inl (ca 2, 16, .inl (fun _ => 0))), (q3, .inl (ca 2, 16, .inl (fun _ => 0)))] := hD
  refine lv_aload_n hx hb d_R_init_28 rfl (lv_at hl 0 rfl) ?_
  refine lv_bipush (v := 16) hx hb d_R_init_29 (by decide) ?_
  refine jd_newa (atype := .int) (a0 := (16, .inl (fun _ => 0))) (N' := 16) (ty := .int) hx hb (hts _ (List.mem_cons_of_mem _ tb_82)) rfl (fun _ _ h => h) hK hP hD hS hA 2 rfl (fun _ => rfl) (by decide) (by decide) (by decide) (Nat.le_of_ble_eq_true rfl) (Nat.le_of_ble_eq_true rfl) d_R_init_31 (c' := 4) (s' := 64) rfl rfl (fun q4 H hP hD hS => ?_)
  have hP : va_P D cls_all [(a0, .inr (2, [.int 0, .int 0, .ref q1, .int 0, .ref q2, .ref q3, .null, .null])), (q1, .inl (ca 2, 16, .inl (fun _ => 0))), (q2, .inl (ca 2, 16, .inl (fun _ => 0))), (q3, .inl (ca 2, 16, .inl (fun _ => 0))), (q4, .inl (ca 2, 16, .inl (fun _ => 0)))] H := hP
  have hD : va_D A [(a0, .inr (2, [.int 0, .int 0, .ref q1, .int 0, .ref q2, .ref q3, .null, .null])), (q1, .inl (ca 2, 16, .inl (fun _ => 0))), (q2, .inl (ca 2, 16, .inl (fun _ => 0))), (q3, .inl (ca 2, 16, .inl (fun _ => 0))), (q4, .inl (ca 2, 16, .inl (fun _ => 0)))] := hD
  refine va_putF (D := D) (ci := 2) (v := .ref q4) (ty := .array .int) (C := R_R) (T := F_R) (N := 8) hx hb hts (fun w h => List.mem_cons_of_mem _ (uw_R w h)) ft_R tk_R n_R hown hK hP hD hS 0 rfl rfl 6 (by decide) (hts _ (List.mem_cons_of_mem _ tb_517)) (fun _ h => h) rfl hin rfl (by decide +kernel) rfl rfl (Nat.le_of_ble_eq_true rfl) d_R_init_33 (fun H locs hP hD hS => ?_)
  have hP : va_P D cls_all [(a0, .inr (2, [.int 0, .int 0, .ref q1, .int 0, .ref q2, .ref q3, .ref q4, .null])), (q1, .inl (ca 2, 16, .inl (fun _ => 0))), (q2, .inl (ca 2, 16, .inl (fun _ => 0))), (q3, .inl (ca 2, 16, .inl (fun _ => 0))), (q4, .inl (ca 2, 16, .inl (fun _ => 0)))] H := hP
  have hD : va_D A [(a0, .inr (2, [.int 0, .int 0, .ref q1, .int 0, .ref q2, .ref q3, .ref q4, .null])), (q1, .inl (ca 2, 16, .inl (fun _ => 0))), (q2, .inl (ca 2, 16, .inl (fun _ => 0))), (q3, .inl (ca 2, 16, .inl (fun _ => 0))), (q4, .inl (ca 2, 16, .inl (fun _ => 0)))] := hD
  refine lv_aload_n hx hb d_R_init_36 rfl (lv_at hl 0 rfl) ?_
  refine lv_bipush (v := 16) hx hb d_R_init_37 (by decide) ?_
  refine jd_newa (atype := .int) (a0 := (16, .inl (fun _ => 0))) (N' := 16) (ty := .int) hx hb (hts _ (List.mem_cons_of_mem _ tb_82)) rfl (fun _ _ h => h) hK hP hD hS hA 2 rfl (fun _ => rfl) (by decide) (by decide) (by decide) (Nat.le_of_ble_eq_true rfl) (Nat.le_of_ble_eq_true rfl) d_R_init_39 (c' := 5) (s' := 80) rfl rfl (fun q5 H hP hD hS => ?_)
  have hP : va_P D cls_all [(a0, .inr (2, [.int 0, .int 0, .ref q1, .int 0, .ref q2, .ref q3, .ref q4, .null])), (q1, .inl (ca 2, 16, .inl (fun _ => 0))), (q2, .inl (ca 2, 16, .inl (fun _ => 0))), (q3, .inl (ca 2, 16, .inl (fun _ => 0))), (q4, .inl (ca 2, 16, .inl (fun _ => 0))), (q5, .inl (ca 2, 16, .inl (fun _ => 0)))] H := hP
  have hD : va_D A [(a0, .inr (2, [.int 0, .int 0, .ref q1, .int 0, .ref q2, .ref q3, .ref q4, .null])), (q1, .inl (ca 2, 16, .inl (fun _ => 0))), (q2, .inl (ca 2, 16, .inl (fun _ => 0))), (q3, .inl (ca 2, 16, .inl (fun _ => 0))), (q4, .inl (ca 2, 16, .inl (fun _ => 0))), (q5, .inl (ca 2, 16, .inl (fun _ => 0)))] := hD
  refine va_putF (D := D) (ci := 2) (v := .ref q5) (ty := .array .int) (C := R_R) (T := F_R) (N := 8) hx hb hts (fun w h => List.mem_cons_of_mem _ (uw_R w h)) ft_R tk_R n_R hown hK hP hD hS 0 rfl rfl 7 (by decide) (hts _ (List.mem_cons_of_mem _ tb_518)) (fun _ h => h) rfl hin rfl (by decide +kernel) rfl rfl (Nat.le_of_ble_eq_true rfl) d_R_init_41 (fun H locs hP hD hS => ?_)
  have hP : va_P D cls_all [(a0, .inr (2, [.int 0, .int 0, .ref q1, .int 0, .ref q2, .ref q3, .ref q4, .ref q5])), (q1, .inl (ca 2, 16, .inl (fun _ => 0))), (q2, .inl (ca 2, 16, .inl (fun _ => 0))), (q3, .inl (ca 2, 16, .inl (fun _ => 0))), (q4, .inl (ca 2, 16, .inl (fun _ => 0))), (q5, .inl (ca 2, 16, .inl (fun _ => 0)))] H := hP
  have hD : va_D A [(a0, .inr (2, [.int 0, .int 0, .ref q1, .int 0, .ref q2, .ref q3, .ref q4, .ref q5])), (q1, .inl (ca 2, 16, .inl (fun _ => 0))), (q2, .inl (ca 2, 16, .inl (fun _ => 0))), (q3, .inl (ca 2, 16, .inl (fun _ => 0))), (q4, .inl (ca 2, 16, .inl (fun _ => 0))), (q5, .inl (ca 2, 16, .inl (fun _ => 0)))] := hD
  exact W.vret hx hb hr (fun t ht hW => ⟨⟨(fun k => ([q1, q2, q3, q4, q5] : List Nat).getD k 0), rfl, trivial, by rw [ht]; exact hP, hD⟩, hS.F ht⟩) hS.2.2 d_R_init_44 hlocks
theorem d_L_init_0 : decode b_L_init 0 = .ok (.aload_n 0, 1) := by decide +kernel
theorem d_L_init_1 : decode b_L_init 1 = .ok (.invokespecial 3, 3) := by decide +kernel
theorem d_L_init_4 : decode b_L_init 4 = .ok (.aload_n 0, 1) := by decide +kernel
theorem d_L_init_5 : decode b_L_init 5 = .ok (.ldc 9, 2) := by decide +kernel
theorem d_L_init_7 : decode b_L_init 7 = .ok (.newarray .long, 2) := by decide +kernel
theorem d_L_init_9 : decode b_L_init 9 = .ok (.putfield 10, 3) := by decide +kernel
theorem d_L_init_12 : decode b_L_init 12 = .ok (.aload_n 0, 1) := by decide +kernel
theorem d_L_init_13 : decode b_L_init 13 = .ok (.ldc 9, 2) := by decide +kernel
theorem d_L_init_15 : decode b_L_init 15 = .ok (.newarray .long, 2) := by decide +kernel
theorem d_L_init_17 : decode b_L_init 17 = .ok (.putfield 16, 3) := by decide +kernel
theorem d_L_init_20 : decode b_L_init 20 = .ok (.aload_n 0, 1) := by decide +kernel
theorem d_L_init_21 : decode b_L_init 21 = .ok (.sipush 256, 3) := by decide +kernel
theorem d_L_init_24 : decode b_L_init 24 = .ok (.newarray .int, 2) := by decide +kernel
theorem d_L_init_26 : decode b_L_init 26 = .ok (.putfield 19, 3) := by decide +kernel
theorem d_L_init_29 : decode b_L_init 29 = .ok (.aload_n 0, 1) := by decide +kernel
theorem d_L_init_30 : decode b_L_init 30 = .ok (.sipush 256, 3) := by decide +kernel
theorem d_L_init_33 : decode b_L_init 33 = .ok (.newarray .int, 2) := by decide +kernel
theorem d_L_init_35 : decode b_L_init 35 = .ok (.putfield 23, 3) := by decide +kernel
theorem d_L_init_38 : decode b_L_init 38 = .ok (.return_, 1) := by decide +kernel
abbrev cw_L (ca : Nat → ClassId) (a0 : Nat) (u : Nat → Nat) : va_W := [(a0, .inr (5, [.ref (u 0), .ref (u 1), .ref (u 2), .ref (u 3)])), ((u 0), .inl (ca 3, 65536, .inr (.inl (fun _ => 0)))), ((u 1), .inl (ca 3, 65536, .inr (.inl (fun _ => 0)))), ((u 2), .inl (ca 2, 256, .inl (fun _ => 0))), ((u 3), .inl (ca 2, 256, .inl (fun _ => 0)))]
set_option maxHeartbeats 4000000 in
set_option maxRecDepth 100000 in
theorem cm_L_init (l : Launch) (D : va_G) (ca : Nat → ClassId) (a0 : Nat) : ∀ sz : Nat, Met l y_L_init (Cond.code y_L_init b_L_init 1 none :: TB) { frames := 1, cells := 4, slots := 131584, locals := 12 } (va_Pc [.ref a0] (pW D cls_all (tysC ca) NN [(a0, .inr (5, [.null, .null, .null, .null]))] sz)) (va_Qv (fun (_ : Nat → Nat) => True) (fun u t => va_P D cls_all (cw_L ca a0 u) t.heap ∧ va_D (va_A [(a0, .inr (5, [.null, .null, .null, .null]))] sz) (cw_L ca a0 u)) (va_A [(a0, .inr (5, [.null, .null, .null, .null]))] sz)) 4 131584 (va_A [(a0, .inr (5, [.null, .null, .null, .null]))] sz) := by
  intro sz
  refine Met.ofW (cc := b_L_init) (maxL := 1) (ret := none) (by decide) rfl ?_
  intro p e s m args below meth c s₁ B hml hv
  obtain ⟨rfl, hsz, hP, hK, hD0, hN⟩ := hv
  have hx := B.exec
  have hb := B.bytes
  have hr := B.returns
  have hts := atoms_spec (ws := Cond.code y_L_init b_L_init 1 none :: TB) B.pre
  have hown : s.vm.findClass R_L = some m.cls := findClass_of_methodNamed B.named
  have hlocks := B.notSynchronized
  have hin : meth.name = "<init>" := (name_of_methodNamed B.named B.method).1
  subst hsz
  have hD := hD0.self (sz := s.heap.size)
  generalize hAe : va_A [(a0, .inr (5, [.null, .null, .null, .null]))] s.heap.size = A at hD ⊢
  have hA : ∀ q : Nat, s.heap.size ≤ q → A q := fun q h => by rw [← hAe]; exact Or.inr h
  have hS : va_S A s.heap s.heap [] := va_S.rf
  have hl := lv_entry ([.ref a0]) (n := 1) (Nat.le_of_ble_eq_true rfl)
  rw [lg_entry_eq]
  generalize (lg_sl ([.ref a0]) ++ List.replicate (1 - (lg_sl ([.ref a0])).length) Slot.unset).toArray = ls at hl ⊢
  have hl : lv_has ls 1 [(0, .ref a0)] := hl
  refine lv_aload_n hx hb d_L_init_0 rfl (lv_at hl 0 rfl) ?_
  refine W.objInit hx hb hown (hts _ (List.mem_cons_of_mem _ tb_87)) (hts _ (List.mem_cons_of_mem _ tb_63)) (hts _ (List.mem_cons_of_mem _ tb_64)) rfl (by rw [hml]; exact hl.1) rfl d_L_init_1 (Nat.le_of_ble_eq_true rfl) (Nat.le_of_ble_eq_true rfl) ?_
  refine W.eq (g2 := F0 m 4 ls []) rfl ?_
  refine lv_aload_n hx hb d_L_init_4 rfl (lv_at hl 0 rfl) ?_
  refine lv_ldc (v := 65536) hx hb hown (hts _ (List.mem_cons_of_mem _ tb_88)) d_L_init_5 ?_
  refine jd_newa (atype := .long) (a0 := (65536, .inr (.inl (fun _ => 0)))) (N' := 65536) (ty := .long) hx hb (hts _ (List.mem_cons_of_mem _ tb_101)) rfl (fun _ _ h => h) hK hP hD hS hA 3 rfl (fun _ => rfl) (by decide) (by decide) (by decide) (Nat.le_of_ble_eq_true rfl) (Nat.le_of_ble_eq_true rfl) d_L_init_7 (c' := 1) (s' := 65536) rfl rfl (fun q1 H hP hD hS => ?_)
  have hP : va_P D cls_all [(a0, .inr (5, [.null, .null, .null, .null])), (q1, .inl (ca 3, 65536, .inr (.inl (fun _ => 0))))] H := hP
  have hD : va_D A [(a0, .inr (5, [.null, .null, .null, .null])), (q1, .inl (ca 3, 65536, .inr (.inl (fun _ => 0))))] := hD
  refine va_putF (D := D) (ci := 5) (v := .ref q1) (ty := .array .long) (C := R_L) (T := F_L) (N := 4) hx hb hts (fun w h => List.mem_cons_of_mem _ (uw_L w h)) ft_L tk_L n_L hown hK hP hD hS 0 rfl rfl 0 (by decide) (hts _ (List.mem_cons_of_mem _ tb_89)) (fun _ h => h) rfl hin rfl (by decide +kernel) rfl rfl (Nat.le_of_ble_eq_true rfl) d_L_init_9 (fun H locs hP hD hS => ?_)
  have hP : va_P D cls_all [(a0, .inr (5, [.ref q1, .null, .null, .null])), (q1, .inl (ca 3, 65536, .inr (.inl (fun _ => 0))))] H := hP
  have hD : va_D A [(a0, .inr (5, [.ref q1, .null, .null, .null])), (q1, .inl (ca 3, 65536, .inr (.inl (fun _ => 0))))] := hD
  refine lv_aload_n hx hb d_L_init_12 rfl (lv_at hl 0 rfl) ?_
  refine lv_ldc (v := 65536) hx hb hown (hts _ (List.mem_cons_of_mem _ tb_88)) d_L_init_13 ?_
  refine jd_newa (atype := .long) (a0 := (65536, .inr (.inl (fun _ => 0)))) (N' := 65536) (ty := .long) hx hb (hts _ (List.mem_cons_of_mem _ tb_101)) rfl (fun _ _ h => h) hK hP hD hS hA 3 rfl (fun _ => rfl) (by decide) (by decide) (by decide) (Nat.le_of_ble_eq_true rfl) (Nat.le_of_ble_eq_true rfl) d_L_init_15 (c' := 2) (s' := 131072) rfl rfl (fun q2 H hP hD hS => ?_)
  have hP : va_P D cls_all [(a0, .inr (5, [.ref q1, .null, .null, .null])), (q1, .inl (ca 3, 65536, .inr (.inl (fun _ => 0)))), (q2, .inl (ca 3, 65536, .inr (.inl (fun _ => 0))))] H := hP
  have hD : va_D A [(a0, .inr (5, [.ref q1, .null, .null, .null])), (q1, .inl (ca 3, 65536, .inr (.inl (fun _ => 0)))), (q2, .inl (ca 3, 65536, .inr (.inl (fun _ => 0))))] := hD
  refine va_putF (D := D) (ci := 5) (v := .ref q2) (ty := .array .long) (C := R_L) (T := F_L) (N := 4) hx hb hts (fun w h => List.mem_cons_of_mem _ (uw_L w h)) ft_L tk_L n_L hown hK hP hD hS 0 rfl rfl 1 (by decide) (hts _ (List.mem_cons_of_mem _ tb_90)) (fun _ h => h) rfl hin rfl (by decide +kernel) rfl rfl (Nat.le_of_ble_eq_true rfl) d_L_init_17 (fun H locs hP hD hS => ?_)
  have hP : va_P D cls_all [(a0, .inr (5, [.ref q1, .ref q2, .null, .null])), (q1, .inl (ca 3, 65536, .inr (.inl (fun _ => 0)))), (q2, .inl (ca 3, 65536, .inr (.inl (fun _ => 0))))] H := hP
  have hD : va_D A [(a0, .inr (5, [.ref q1, .ref q2, .null, .null])), (q1, .inl (ca 3, 65536, .inr (.inl (fun _ => 0)))), (q2, .inl (ca 3, 65536, .inr (.inl (fun _ => 0))))] := hD
  refine lv_aload_n hx hb d_L_init_20 rfl (lv_at hl 0 rfl) ?_
  refine lv_sipush (v := 256) hx hb d_L_init_21 (by decide) ?_
  refine jd_newa (atype := .int) (a0 := (256, .inl (fun _ => 0))) (N' := 256) (ty := .int) hx hb (hts _ (List.mem_cons_of_mem _ tb_82)) rfl (fun _ _ h => h) hK hP hD hS hA 2 rfl (fun _ => rfl) (by decide) (by decide) (by decide) (Nat.le_of_ble_eq_true rfl) (Nat.le_of_ble_eq_true rfl) d_L_init_24 (c' := 3) (s' := 131328) rfl rfl (fun q3 H hP hD hS => ?_)
  have hP : va_P D cls_all [(a0, .inr (5, [.ref q1, .ref q2, .null, .null])), (q1, .inl (ca 3, 65536, .inr (.inl (fun _ => 0)))), (q2, .inl (ca 3, 65536, .inr (.inl (fun _ => 0)))), (q3, .inl (ca 2, 256, .inl (fun _ => 0)))] H := hP
  have hD : va_D A [(a0, .inr (5, [.ref q1, .ref q2, .null, .null])), (q1, .inl (ca 3, 65536, .inr (.inl (fun _ => 0)))), (q2, .inl (ca 3, 65536, .inr (.inl (fun _ => 0)))), (q3, .inl (ca 2, 256, .inl (fun _ => 0)))] := hD
  refine va_putF (D := D) (ci := 5) (v := .ref q3) (ty := .array .int) (C := R_L) (T := F_L) (N := 4) hx hb hts (fun w h => List.mem_cons_of_mem _ (uw_L w h)) ft_L tk_L n_L hown hK hP hD hS 0 rfl rfl 2 (by decide) (hts _ (List.mem_cons_of_mem _ tb_91)) (fun _ h => h) rfl hin rfl (by decide +kernel) rfl rfl (Nat.le_of_ble_eq_true rfl) d_L_init_26 (fun H locs hP hD hS => ?_)
  have hP : va_P D cls_all [(a0, .inr (5, [.ref q1, .ref q2, .ref q3, .null])), (q1, .inl (ca 3, 65536, .inr (.inl (fun _ => 0)))), (q2, .inl (ca 3, 65536, .inr (.inl (fun _ => 0)))), (q3, .inl (ca 2, 256, .inl (fun _ => 0)))] H := hP
  have hD : va_D A [(a0, .inr (5, [.ref q1, .ref q2, .ref q3, .null])), (q1, .inl (ca 3, 65536, .inr (.inl (fun _ => 0)))), (q2, .inl (ca 3, 65536, .inr (.inl (fun _ => 0)))), (q3, .inl (ca 2, 256, .inl (fun _ => 0)))] := hD
  refine lv_aload_n hx hb d_L_init_29 rfl (lv_at hl 0 rfl) ?_
  refine lv_sipush (v := 256) hx hb d_L_init_30 (by decide) ?_
  refine jd_newa (atype := .int) (a0 := (256, .inl (fun _ => 0))) (N' := 256) (ty := .int) hx hb (hts _ (List.mem_cons_of_mem _ tb_82)) rfl (fun _ _ h => h) hK hP hD hS hA 2 rfl (fun _ => rfl) (by decide) (by decide) (by decide) (Nat.le_of_ble_eq_true rfl) (Nat.le_of_ble_eq_true rfl) d_L_init_33 (c' := 4) (s' := 131584) rfl rfl (fun q4 H hP hD hS => ?_)
  have hP : va_P D cls_all [(a0, .inr (5, [.ref q1, .ref q2, .ref q3, .null])), (q1, .inl (ca 3, 65536, .inr (.inl (fun _ => 0)))), (q2, .inl (ca 3, 65536, .inr (.inl (fun _ => 0)))), (q3, .inl (ca 2, 256, .inl (fun _ => 0))), (q4, .inl (ca 2, 256, .inl (fun _ => 0)))] H := hP
  have hD : va_D A [(a0, .inr (5, [.ref q1, .ref q2, .ref q3, .null])), (q1, .inl (ca 3, 65536, .inr (.inl (fun _ => 0)))), (q2, .inl (ca 3, 65536, .inr (.inl (fun _ => 0)))), (q3, .inl (ca 2, 256, .inl (fun _ => 0))), (q4, .inl (ca 2, 256, .inl (fun _ => 0)))] := hD
  refine va_putF (D := D) (ci := 5) (v := .ref q4) (ty := .array .int) (C := R_L) (T := F_L) (N := 4) hx hb hts (fun w h => List.mem_cons_of_mem _ (uw_L w h)) ft_L tk_L n_L hown hK hP hD hS 0 rfl rfl 3 (by decide) (hts _ (List.mem_cons_of_mem _ tb_92)) (fun _ h => h) rfl hin rfl (by decide +kernel) rfl rfl (Nat.le_of_ble_eq_true rfl) d_L_init_35 (fun H locs hP hD hS => ?_)
  have hP : va_P D cls_all [(a0, .inr (5, [.ref q1, .ref q2, .ref q3, .ref q4])), (q1, .inl (ca 3, 65536, .inr (.inl (fun _ => 0)))), (q2, .inl (ca 3, 65536, .inr (.inl (fun _ => 0)))), (q3, .inl (ca 2, 256, .inl (fun _ => 0))), (q4, .inl (ca 2, 256, .inl (fun _ => 0)))] H := hP
  have hD : va_D A [(a0, .inr (5, [.ref q1, .ref q2, .ref q3, .ref q4])), (q1, .inl (ca 3, 65536, .inr (.inl (fun _ => 0)))), (q2, .inl (ca 3, 65536, .inr (.inl (fun _ => 0)))), (q3, .inl (ca 2, 256, .inl (fun _ => 0))), (q4, .inl (ca 2, 256, .inl (fun _ => 0)))] := hD
  exact W.vret hx hb hr (fun t ht hW => ⟨⟨(fun k => ([q1, q2, q3, q4] : List Nat).getD k 0), rfl, trivial, by rw [ht]; exact hP, hD⟩, hS.F ht⟩) hS.2.2 d_L_init_38 hlocks
theorem d_S_init_0 : decode b_S_init 0 = .ok (.aload_n 0, 1) := by decide +kernel
theorem d_S_init_1 : decode b_S_init 1 = .ok (.invokespecial 3, 3) := by decide +kernel
theorem d_S_init_4 : decode b_S_init 4 = .ok (.aload_n 0, 1) := by decide +kernel
theorem d_S_init_5 : decode b_S_init 5 = .ok (.bipush 16, 2) := by decide +kernel
theorem d_S_init_7 : decode b_S_init 7 = .ok (.newarray .int, 2) := by decide +kernel
theorem d_S_init_9 : decode b_S_init 9 = .ok (.putfield 9, 3) := by decide +kernel
theorem d_S_init_12 : decode b_S_init 12 = .ok (.aload_n 0, 1) := by decide +kernel
theorem d_S_init_13 : decode b_S_init 13 = .ok (.bipush 16, 2) := by decide +kernel
theorem d_S_init_15 : decode b_S_init 15 = .ok (.newarray .int, 2) := by decide +kernel
theorem d_S_init_17 : decode b_S_init 17 = .ok (.putfield 15, 3) := by decide +kernel
theorem d_S_init_20 : decode b_S_init 20 = .ok (.return_, 1) := by decide +kernel
abbrev cw_S (ca : Nat → ClassId) (a0 : Nat) (u : Nat → Nat) : va_W := [(a0, .inr (4, [.ref (u 0), .int 0, .ref (u 1)])), ((u 0), .inl (ca 2, 16, .inl (fun _ => 0))), ((u 1), .inl (ca 2, 16, .inl (fun _ => 0)))]
set_option maxHeartbeats 4000000 in
set_option maxRecDepth 100000 in
theorem cm_S_init (l : Launch) (D : va_G) (ca : Nat → ClassId) (a0 : Nat) : ∀ sz : Nat, Met l y_S_init (Cond.code y_S_init b_S_init 1 none :: TB) { frames := 1, cells := 2, slots := 32, locals := 12 } (va_Pc [.ref a0] (pW D cls_all (tysC ca) NN [(a0, .inr (4, [.null, .int 0, .null]))] sz)) (va_Qv (fun (_ : Nat → Nat) => True) (fun u t => va_P D cls_all (cw_S ca a0 u) t.heap ∧ va_D (va_A [(a0, .inr (4, [.null, .int 0, .null]))] sz) (cw_S ca a0 u)) (va_A [(a0, .inr (4, [.null, .int 0, .null]))] sz)) 2 32 (va_A [(a0, .inr (4, [.null, .int 0, .null]))] sz) := by
  intro sz
  refine Met.ofW (cc := b_S_init) (maxL := 1) (ret := none) (by decide) rfl ?_
  intro p e s m args below meth c s₁ B hml hv
  obtain ⟨rfl, hsz, hP, hK, hD0, hN⟩ := hv
  have hx := B.exec
  have hb := B.bytes
  have hr := B.returns
  have hts := atoms_spec (ws := Cond.code y_S_init b_S_init 1 none :: TB) B.pre
  have hown : s.vm.findClass R_S = some m.cls := findClass_of_methodNamed B.named
  have hlocks := B.notSynchronized
  have hin : meth.name = "<init>" := (name_of_methodNamed B.named B.method).1
  subst hsz
  have hD := hD0.self (sz := s.heap.size)
  generalize hAe : va_A [(a0, .inr (4, [.null, .int 0, .null]))] s.heap.size = A at hD ⊢
  have hA : ∀ q : Nat, s.heap.size ≤ q → A q := fun q h => by rw [← hAe]; exact Or.inr h
  have hS : va_S A s.heap s.heap [] := va_S.rf
  have hl := lv_entry ([.ref a0]) (n := 1) (Nat.le_of_ble_eq_true rfl)
  rw [lg_entry_eq]
  generalize (lg_sl ([.ref a0]) ++ List.replicate (1 - (lg_sl ([.ref a0])).length) Slot.unset).toArray = ls at hl ⊢
  have hl : lv_has ls 1 [(0, .ref a0)] := hl
  refine lv_aload_n hx hb d_S_init_0 rfl (lv_at hl 0 rfl) ?_
  refine W.objInit hx hb hown (hts _ (List.mem_cons_of_mem _ tb_70)) (hts _ (List.mem_cons_of_mem _ tb_63)) (hts _ (List.mem_cons_of_mem _ tb_64)) rfl (by rw [hml]; exact hl.1) rfl d_S_init_1 (Nat.le_of_ble_eq_true rfl) (Nat.le_of_ble_eq_true rfl) ?_
  refine W.eq (g2 := F0 m 4 ls []) rfl ?_
  refine lv_aload_n hx hb d_S_init_4 rfl (lv_at hl 0 rfl) ?_
  refine lv_bipush (v := 16) hx hb d_S_init_5 (by decide) ?_
  refine jd_newa (atype := .int) (a0 := (16, .inl (fun _ => 0))) (N' := 16) (ty := .int) hx hb (hts _ (List.mem_cons_of_mem _ tb_82)) rfl (fun _ _ h => h) hK hP hD hS hA 2 rfl (fun _ => rfl) (by decide) (by decide) (by decide) (Nat.le_of_ble_eq_true rfl) (Nat.le_of_ble_eq_true rfl) d_S_init_7 (c' := 1) (s' := 16) rfl rfl (fun q1 H hP hD hS => ?_)
  have hP : va_P D cls_all [(a0, .inr (4, [.null, .int 0, .null])), (q1, .inl (ca 2, 16, .inl (fun _ => 0)))] H := hP
  have hD : va_D A [(a0, .inr (4, [.null, .int 0, .null])), (q1, .inl (ca 2, 16, .inl (fun _ => 0)))] := hD
  refine va_putF (D := D) (ci := 4) (v := .ref q1) (ty := .array .int) (C := R_S) (T := F_S) (N := 3) hx hb hts (fun w h => List.mem_cons_of_mem _ (uw_S w h)) ft_S tk_S n_S hown hK hP hD hS 0 rfl rfl 0 (by decide) (hts _ (List.mem_cons_of_mem _ tb_71)) (fun _ h => h) rfl hin rfl (by decide +kernel) rfl rfl (Nat.le_of_ble_eq_true rfl) d_S_init_9 (fun H locs hP hD hS => ?_)
  have hP : va_P D cls_all [(a0, .inr (4, [.ref q1, .int 0, .null])), (q1, .inl (ca 2, 16, .inl (fun _ => 0)))] H := hP
  have hD : va_D A [(a0, .inr (4, [.ref q1, .int 0, .null])), (q1, .inl (ca 2, 16, .inl (fun _ => 0)))] := hD
  refine lv_aload_n hx hb d_S_init_12 rfl (lv_at hl 0 rfl) ?_
  refine lv_bipush (v := 16) hx hb d_S_init_13 (by decide) ?_
  refine jd_newa (atype := .int) (a0 := (16, .inl (fun _ => 0))) (N' := 16) (ty := .int) hx hb (hts _ (List.mem_cons_of_mem _ tb_82)) rfl (fun _ _ h => h) hK hP hD hS hA 2 rfl (fun _ => rfl) (by decide) (by decide) (by decide) (Nat.le_of_ble_eq_true rfl) (Nat.le_of_ble_eq_true rfl) d_S_init_15 (c' := 2) (s' := 32) rfl rfl (fun q2 H hP hD hS => ?_)
  have hP : va_P D cls_all [(a0, .inr (4, [.ref q1, .int 0, .null])), (q1, .inl (ca 2, 16, .inl (fun _ => 0))), (q2, .inl (ca 2, 16, .inl (fun _ => 0)))] H := hP
  have hD : va_D A [(a0, .inr (4, [.ref q1, .int 0, .null])), (q1, .inl (ca 2, 16, .inl (fun _ => 0))), (q2, .inl (ca 2, 16, .inl (fun _ => 0)))] := hD
  refine va_putF (D := D) (ci := 4) (v := .ref q2) (ty := .array .int) (C := R_S) (T := F_S) (N := 3) hx hb hts (fun w h => List.mem_cons_of_mem _ (uw_S w h)) ft_S tk_S n_S hown hK hP hD hS 0 rfl rfl 2 (by decide) (hts _ (List.mem_cons_of_mem _ tb_75)) (fun _ h => h) rfl hin rfl (by decide +kernel) rfl rfl (Nat.le_of_ble_eq_true rfl) d_S_init_17 (fun H locs hP hD hS => ?_)
  have hP : va_P D cls_all [(a0, .inr (4, [.ref q1, .int 0, .ref q2])), (q1, .inl (ca 2, 16, .inl (fun _ => 0))), (q2, .inl (ca 2, 16, .inl (fun _ => 0)))] H := hP
  have hD : va_D A [(a0, .inr (4, [.ref q1, .int 0, .ref q2])), (q1, .inl (ca 2, 16, .inl (fun _ => 0))), (q2, .inl (ca 2, 16, .inl (fun _ => 0)))] := hD
  exact W.vret hx hb hr (fun t ht hW => ⟨⟨(fun k => ([q1, q2] : List Nat).getD k 0), rfl, trivial, by rw [ht]; exact hP, hD⟩, hS.F ht⟩) hS.2.2 d_S_init_20 hlocks
theorem d_H_init_0 : decode b_H_init 0 = .ok (.aload_n 0, 1) := by decide +kernel
theorem d_H_init_1 : decode b_H_init 1 = .ok (.invokespecial 3, 3) := by decide +kernel
theorem d_H_init_4 : decode b_H_init 4 = .ok (.aload_n 0, 1) := by decide +kernel
theorem d_H_init_5 : decode b_H_init 5 = .ok (.sipush 400, 3) := by decide +kernel
theorem d_H_init_8 : decode b_H_init 8 = .ok (.newarray .byte, 2) := by decide +kernel
theorem d_H_init_10 : decode b_H_init 10 = .ok (.putfield 9, 3) := by decide +kernel
theorem d_H_init_13 : decode b_H_init 13 = .ok (.aload_n 0, 1) := by decide +kernel
theorem d_H_init_14 : decode b_H_init 14 = .ok (.sipush 400, 3) := by decide +kernel
theorem d_H_init_17 : decode b_H_init 17 = .ok (.newarray .byte, 2) := by decide +kernel
theorem d_H_init_19 : decode b_H_init 19 = .ok (.putfield 15, 3) := by decide +kernel
theorem d_H_init_22 : decode b_H_init 22 = .ok (.aload_n 0, 1) := by decide +kernel
theorem d_H_init_23 : decode b_H_init 23 = .ok (.sipush 400, 3) := by decide +kernel
theorem d_H_init_26 : decode b_H_init 26 = .ok (.newarray .boolean, 2) := by decide +kernel
theorem d_H_init_28 : decode b_H_init 28 = .ok (.putfield 18, 3) := by decide +kernel
theorem d_H_init_31 : decode b_H_init 31 = .ok (.aload_n 0, 1) := by decide +kernel
theorem d_H_init_32 : decode b_H_init 32 = .ok (.bipush 16, 2) := by decide +kernel
theorem d_H_init_34 : decode b_H_init 34 = .ok (.newarray .int, 2) := by decide +kernel
theorem d_H_init_36 : decode b_H_init 36 = .ok (.putfield 22, 3) := by decide +kernel
theorem d_H_init_39 : decode b_H_init 39 = .ok (.aload_n 0, 1) := by decide +kernel
theorem d_H_init_40 : decode b_H_init 40 = .ok (.bipush 16, 2) := by decide +kernel
theorem d_H_init_42 : decode b_H_init 42 = .ok (.newarray .int, 2) := by decide +kernel
theorem d_H_init_44 : decode b_H_init 44 = .ok (.putfield 26, 3) := by decide +kernel
theorem d_H_init_47 : decode b_H_init 47 = .ok (.aload_n 0, 1) := by decide +kernel
theorem d_H_init_48 : decode b_H_init 48 = .ok (.new 29, 3) := by decide +kernel
theorem d_H_init_51 : decode b_H_init 51 = .ok (.dup, 1) := by decide +kernel
theorem d_H_init_52 : decode b_H_init 52 = .ok (.invokespecial 31, 3) := by decide +kernel
theorem d_H_init_55 : decode b_H_init 55 = .ok (.putfield 32, 3) := by decide +kernel
theorem d_H_init_58 : decode b_H_init 58 = .ok (.aload_n 0, 1) := by decide +kernel
theorem d_H_init_59 : decode b_H_init 59 = .ok (.new 36, 3) := by decide +kernel
theorem d_H_init_62 : decode b_H_init 62 = .ok (.dup, 1) := by decide +kernel
theorem d_H_init_63 : decode b_H_init 63 = .ok (.invokespecial 38, 3) := by decide +kernel
theorem d_H_init_66 : decode b_H_init 66 = .ok (.putfield 39, 3) := by decide +kernel
theorem d_H_init_69 : decode b_H_init 69 = .ok (.return_, 1) := by decide +kernel
abbrev cw_H (ca : Nat → ClassId) (a0 : Nat) (u : Nat → Nat) : va_W := [(a0, .inr (0, [.ref (u 0), .ref (u 1), .ref (u 2), .ref (u 3), .ref (u 4), .ref (u 5), .ref (u 8), .int 0, .int 0])), ((u 0), .inl (ca 0, 400, .inl (fun _ => 0))), ((u 1), .inl (ca 0, 400, .inl (fun _ => 0))), ((u 2), .inl (ca 1, 400, .inl (fun _ => 0))), ((u 3), .inl (ca 2, 16, .inl (fun _ => 0))), ((u 4), .inl (ca 2, 16, .inl (fun _ => 0))), ((u 5), .inr (1, [.int 0, .long 0, .ref (u 6), .ref (u 7)])), ((u 6), .inl (ca 3, 256, .inr (.inl (fun _ => 0)))), ((u 7), .inl (ca 3, 256, .inr (.inl (fun _ => 0)))), ((u 8), .inr (2, [.int 0, .int 0, .ref (u 9), .int 0, .ref (u 10), .ref (u 11), .ref (u 12), .ref (u 13)])), ((u 9), .inl (ca 2, 16, .inl (fun _ => 0))), ((u 10), .inl (ca 2, 16, .inl (fun _ => 0))), ((u 11), .inl (ca 2, 16, .inl (fun _ => 0))), ((u 12), .inl (ca 2, 16, .inl (fun _ => 0))), ((u 13), .inl (ca 2, 16, .inl (fun _ => 0)))]
set_option maxHeartbeats 4000000 in
set_option maxRecDepth 100000 in
theorem cm_H_init (l : Launch) (D : va_G) (ca : Nat → ClassId) (a0 : Nat) : ∀ sz : Nat, Met l y_H_init (Cond.code y_H_init b_H_init 1 none :: TB) { frames := 2, cells := 14, slots := 1836, locals := 32 } (va_Pc [.ref a0] (pW D cls_all (tysC ca) NN [(a0, .inr (0, [.null, .null, .null, .null, .null, .null, .null, .int 0, .int 0]))] sz)) (va_Qv (fun (_ : Nat → Nat) => True) (fun u t => va_P D cls_all (cw_H ca a0 u) t.heap ∧ va_D (va_A [(a0, .inr (0, [.null, .null, .null, .null, .null, .null, .null, .int 0, .int 0]))] sz) (cw_H ca a0 u)) (va_A [(a0, .inr (0, [.null, .null, .null, .null, .null, .null, .null, .int 0, .int 0]))] sz)) 14 1836 (va_A [(a0, .inr (0, [.null, .null, .null, .null, .null, .null, .null, .int 0, .int 0]))] sz) := by
  intro sz
  refine Met.ofW (cc := b_H_init) (maxL := 1) (ret := none) (by decide) rfl ?_
  intro p e s m args below meth c s₁ B hml hv
  obtain ⟨rfl, hsz, hP, hK, hD0, hN⟩ := hv
  have hx := B.exec
  have hb := B.bytes
  have hr := B.returns
  have hts := atoms_spec (ws := Cond.code y_H_init b_H_init 1 none :: TB) B.pre
  have hown : s.vm.findClass R_H = some m.cls := findClass_of_methodNamed B.named
  have hlocks := B.notSynchronized
  have hin : meth.name = "<init>" := (name_of_methodNamed B.named B.method).1
  subst hsz
  have hD := hD0.self (sz := s.heap.size)
  generalize hAe : va_A [(a0, .inr (0, [.null, .null, .null, .null, .null, .null, .null, .int 0, .int 0]))] s.heap.size = A at hD ⊢
  have hA : ∀ q : Nat, s.heap.size ≤ q → A q := fun q h => by rw [← hAe]; exact Or.inr h
  have hS : va_S A s.heap s.heap [] := va_S.rf
  have hl := lv_entry ([.ref a0]) (n := 1) (Nat.le_of_ble_eq_true rfl)
  rw [lg_entry_eq]
  generalize (lg_sl ([.ref a0]) ++ List.replicate (1 - (lg_sl ([.ref a0])).length) Slot.unset).toArray = ls at hl ⊢
  have hl : lv_has ls 1 [(0, .ref a0)] := hl
  refine lv_aload_n hx hb d_H_init_0 rfl (lv_at hl 0 rfl) ?_
  refine W.objInit hx hb hown (hts _ (List.mem_cons_of_mem _ tb_479)) (hts _ (List.mem_cons_of_mem _ tb_63)) (hts _ (List.mem_cons_of_mem _ tb_64)) rfl (by rw [hml]; exact hl.1) rfl d_H_init_1 (Nat.le_of_ble_eq_true rfl) (Nat.le_of_ble_eq_true rfl) ?_
  refine W.eq (g2 := F0 m 4 ls []) rfl ?_
  refine lv_aload_n hx hb d_H_init_4 rfl (lv_at hl 0 rfl) ?_
  refine lv_sipush (v := 400) hx hb d_H_init_5 (by decide) ?_
  refine jd_newa (atype := .byte) (a0 := (400, .inl (fun _ => 0))) (N' := 400) (ty := .byte) hx hb (hts _ (List.mem_cons_of_mem _ tb_476)) rfl (fun _ _ h => h) hK hP hD hS hA 0 rfl (fun _ => rfl) (by decide) (by decide) (by decide) (Nat.le_of_ble_eq_true rfl) (Nat.le_of_ble_eq_true rfl) d_H_init_8 (c' := 1) (s' := 400) rfl rfl (fun q1 H hP hD hS => ?_)
  have hP : va_P D cls_all [(a0, .inr (0, [.null, .null, .null, .null, .null, .null, .null, .int 0, .int 0])), (q1, .inl (ca 0, 400, .inl (fun _ => 0)))] H := hP
  have hD : va_D A [(a0, .inr (0, [.null, .null, .null, .null, .null, .null, .null, .int 0, .int 0])), (q1, .inl (ca 0, 400, .inl (fun _ => 0)))] := hD
  refine va_putF (D := D) (ci := 0) (v := .ref q1) (ty := .array .byte) (C := R_H) (T := F_H) (N := 9) hx hb hts (fun w h => List.mem_cons_of_mem _ (uw_H w h)) ft_H tk_H n_H hown hK hP hD hS 0 rfl rfl 0 (by decide) (hts _ (List.mem_cons_of_mem _ tb_535)) (fun _ h => h) rfl hin rfl (by decide +kernel) rfl rfl (Nat.le_of_ble_eq_true rfl) d_H_init_10 (fun H locs hP hD hS => ?_)
  have hP : va_P D cls_all [(a0, .inr (0, [.ref q1, .null, .null, .null, .null, .null, .null, .int 0, .int 0])), (q1, .inl (ca 0, 400, .inl (fun _ => 0)))] H := hP
  have hD : va_D A [(a0, .inr (0, [.ref q1, .null, .null, .null, .null, .null, .null, .int 0, .int 0])), (q1, .inl (ca 0, 400, .inl (fun _ => 0)))] := hD
  refine lv_aload_n hx hb d_H_init_13 rfl (lv_at hl 0 rfl) ?_
  refine lv_sipush (v := 400) hx hb d_H_init_14 (by decide) ?_
  refine jd_newa (atype := .byte) (a0 := (400, .inl (fun _ => 0))) (N' := 400) (ty := .byte) hx hb (hts _ (List.mem_cons_of_mem _ tb_476)) rfl (fun _ _ h => h) hK hP hD hS hA 0 rfl (fun _ => rfl) (by decide) (by decide) (by decide) (Nat.le_of_ble_eq_true rfl) (Nat.le_of_ble_eq_true rfl) d_H_init_17 (c' := 2) (s' := 800) rfl rfl (fun q2 H hP hD hS => ?_)
  have hP : va_P D cls_all [(a0, .inr (0, [.ref q1, .null, .null, .null, .null, .null, .null, .int 0, .int 0])), (q1, .inl (ca 0, 400, .inl (fun _ => 0))), (q2, .inl (ca 0, 400, .inl (fun _ => 0)))] H := hP
  have hD : va_D A [(a0, .inr (0, [.ref q1, .null, .null, .null, .null, .null, .null, .int 0, .int 0])), (q1, .inl (ca 0, 400, .inl (fun _ => 0))), (q2, .inl (ca 0, 400, .inl (fun _ => 0)))] := hD
  refine va_putF (D := D) (ci := 0) (v := .ref q2) (ty := .array .byte) (C := R_H) (T := F_H) (N := 9) hx hb hts (fun w h => List.mem_cons_of_mem _ (uw_H w h)) ft_H tk_H n_H hown hK hP hD hS 0 rfl rfl 1 (by decide) (hts _ (List.mem_cons_of_mem _ tb_537)) (fun _ h => h) rfl hin rfl (by decide +kernel) rfl rfl (Nat.le_of_ble_eq_true rfl) d_H_init_19 (fun H locs hP hD hS => ?_)
  have hP : va_P D cls_all [(a0, .inr (0, [.ref q1, .ref q2, .null, .null, .null, .null, .null, .int 0, .int 0])), (q1, .inl (ca 0, 400, .inl (fun _ => 0))), (q2, .inl (ca 0, 400, .inl (fun _ => 0)))] H := hP
  have hD : va_D A [(a0, .inr (0, [.ref q1, .ref q2, .null, .null, .null, .null, .null, .int 0, .int 0])), (q1, .inl (ca 0, 400, .inl (fun _ => 0))), (q2, .inl (ca 0, 400, .inl (fun _ => 0)))] := hD
  refine lv_aload_n hx hb d_H_init_22 rfl (lv_at hl 0 rfl) ?_
  refine lv_sipush (v := 400) hx hb d_H_init_23 (by decide) ?_
  refine jd_newa (atype := .boolean) (a0 := (400, .inl (fun _ => 0))) (N' := 400) (ty := .boolean) hx hb (hts _ (List.mem_cons_of_mem _ tb_502)) rfl (fun _ _ h => h) hK hP hD hS hA 1 rfl (fun _ => rfl) (by decide) (by decide) (by decide) (Nat.le_of_ble_eq_true rfl) (Nat.le_of_ble_eq_true rfl) d_H_init_26 (c' := 3) (s' := 1200) rfl rfl (fun q3 H hP hD hS => ?_)
  have hP : va_P D cls_all [(a0, .inr (0, [.ref q1, .ref q2, .null, .null, .null, .null, .null, .int 0, .int 0])), (q1, .inl (ca 0, 400, .inl (fun _ => 0))), (q2, .inl (ca 0, 400, .inl (fun _ => 0))), (q3, .inl (ca 1, 400, .inl (fun _ => 0)))] H := hP
  have hD : va_D A [(a0, .inr (0, [.ref q1, .ref q2, .null, .null, .null, .null, .null, .int 0, .int 0])), (q1, .inl (ca 0, 400, .inl (fun _ => 0))), (q2, .inl (ca 0, 400, .inl (fun _ => 0))), (q3, .inl (ca 1, 400, .inl (fun _ => 0)))] := hD
  refine va_putF (D := D) (ci := 0) (v := .ref q3) (ty := .array .boolean) (C := R_H) (T := F_H) (N := 9) hx hb hts (fun w h => List.mem_cons_of_mem _ (uw_H w h)) ft_H tk_H n_H hown hK hP hD hS 0 rfl rfl 2 (by decide) (hts _ (List.mem_cons_of_mem _ tb_539)) (fun _ h => h) rfl hin rfl (by decide +kernel) rfl rfl (Nat.le_of_ble_eq_true rfl) d_H_init_28 (fun H locs hP hD hS => ?_)
  have hP : va_P D cls_all [(a0, .inr (0, [.ref q1, .ref q2, .ref q3, .null, .null, .null, .null, .int 0, .int 0])), (q1, .inl (ca 0, 400, .inl (fun _ => 0))), (q2, .inl (ca 0, 400, .inl (fun _ => 0))), (q3, .inl (ca 1, 400, .inl (fun _ => 0)))] H := hP
  have hD : va_D A [(a0, .inr (0, [.ref q1, .ref q2, .ref q3, .null, .null, .null, .null, .int 0, .int 0])), (q1, .inl (ca 0, 400, .inl (fun _ => 0))), (q2, .inl (ca 0, 400, .inl (fun _ => 0))), (q3, .inl (ca 1, 400, .inl (fun _ => 0)))] := hD
  refine lv_aload_n hx hb d_H_init_31 rfl (lv_at hl 0 rfl) ?_
  refine lv_bipush (v := 16) hx hb d_H_init_32 (by decide) ?_
  refine jd_newa (atype := .int) (a0 := (16, .inl (fun _ => 0))) (N' := 16) (ty := .int) hx hb (hts _ (List.mem_cons_of_mem _ tb_82)) rfl (fun _ _ h => h) hK hP hD hS hA 2 rfl (fun _ => rfl) (by decide) (by decide) (by decide) (Nat.le_of_ble_eq_true rfl) (Nat.le_of_ble_eq_true rfl) d_H_init_34 (c' := 4) (s' := 1216) rfl rfl (fun q4 H hP hD hS => ?_)
  have hP : va_P D cls_all [(a0, .inr (0, [.ref q1, .ref q2, .ref q3, .null, .null, .null, .null, .int 0, .int 0])), (q1, .inl (ca 0, 400, .inl (fun _ => 0))), (q2, .inl (ca 0, 400, .inl (fun _ => 0))), (q3, .inl (ca 1, 400, .inl (fun _ => 0))), (q4, .inl (ca 2, 16, .inl (fun _ => 0)))] H := hP
  have hD : va_D A [(a0, .inr (0, [.ref q1, .ref q2, .ref q3, .null, .null, .null, .null, .int 0, .int 0])), (q1, .inl (ca 0, 400, .inl (fun _ => 0))), (q2, .inl (ca 0, 400, .inl (fun _ => 0))), (q3, .inl (ca 1, 400, .inl (fun _ => 0))), (q4, .inl (ca 2, 16, .inl (fun _ => 0)))] := hD
  refine va_putF (D := D) (ci := 0) (v := .ref q4) (ty := .array .int) (C := R_H) (T := F_H) (N := 9) hx hb hts (fun w h => List.mem_cons_of_mem _ (uw_H w h)) ft_H tk_H n_H hown hK hP hD hS 0 rfl rfl 3 (by decide) (hts _ (List.mem_cons_of_mem _ tb_541)) (fun _ h => h) rfl hin rfl (by decide +kernel) rfl rfl (Nat.le_of_ble_eq_true rfl) d_H_init_36 (fun H locs hP hD hS => ?_)
  have hP : va_P D cls_all [(a0, .inr (0, [.ref q1, .ref q2, .ref q3, .ref q4, .null, .null, .null, .int 0, .int 0])), (q1, .inl (ca 0, 400, .inl (fun _ => 0))), (q2, .inl (ca 0, 400, .inl (fun _ => 0))), (q3, .inl (ca 1, 400, .inl (fun _ => 0))), (q4, .inl (ca 2, 16, .inl (fun _ => 0)))] H := hP
  have hD : va_D A [(a0, .inr (0, [.ref q1, .ref q2, .ref q3, .ref q4, .null, .null, .null, .int 0, .int 0])), (q1, .inl (ca 0, 400, .inl (fun _ => 0))), (q2, .inl (ca 0, 400, .inl (fun _ => 0))), (q3, .inl (ca 1, 400, .inl (fun _ => 0))), (q4, .inl (ca 2, 16, .inl (fun _ => 0)))] := hD
  refine lv_aload_n hx hb d_H_init_39 rfl (lv_at hl 0 rfl) ?_
  refine lv_bipush (v := 16) hx hb d_H_init_40 (by decide) ?_
  refine jd_newa (atype := .int) (a0 := (16, .inl (fun _ => 0))) (N' := 16) (ty := .int) hx hb (hts _ (List.mem_cons_of_mem _ tb_82)) rfl (fun _ _ h => h) hK hP hD hS hA 2 rfl (fun _ => rfl) (by decide) (by decide) (by decide) (Nat.le_of_ble_eq_true rfl) (Nat.le_of_ble_eq_true rfl) d_H_init_42 (c' := 5) (s' := 1232) rfl rfl (fun q5 H hP hD hS => ?_)
  have hP : va_P D cls_all [(a0, .inr (0, [.ref q1, .ref q2, .ref q3, .ref q4, .null, .null, .null, .int 0, .int 0])), (q1, .inl (ca 0, 400, .inl (fun _ => 0))), (q2, .inl (ca 0, 400, .inl (fun _ => 0))), (q3, .inl (ca 1, 400, .inl (fun _ => 0))), (q4, .inl (ca 2, 16, .inl (fun _ => 0))), (q5, .inl (ca 2, 16, .inl (fun _ => 0)))] H := hP
  have hD : va_D A [(a0, .inr (0, [.ref q1, .ref q2, .ref q3, .ref q4, .null, .null, .null, .int 0, .int 0])), (q1, .inl (ca 0, 400, .inl (fun _ => 0))), (q2, .inl (ca 0, 400, .inl (fun _ => 0))), (q3, .inl (ca 1, 400, .inl (fun _ => 0))), (q4, .inl (ca 2, 16, .inl (fun _ => 0))), (q5, .inl (ca 2, 16, .inl (fun _ => 0)))] := hD
  refine va_putF (D := D) (ci := 0) (v := .ref q5) (ty := .array .int) (C := R_H) (T := F_H) (N := 9) hx hb hts (fun w h => List.mem_cons_of_mem _ (uw_H w h)) ft_H tk_H n_H hown hK hP hD hS 0 rfl rfl 4 (by decide) (hts _ (List.mem_cons_of_mem _ tb_545)) (fun _ h => h) rfl hin rfl (by decide +kernel) rfl rfl (Nat.le_of_ble_eq_true rfl) d_H_init_44 (fun H locs hP hD hS => ?_)
  have hP : va_P D cls_all [(a0, .inr (0, [.ref q1, .ref q2, .ref q3, .ref q4, .ref q5, .null, .null, .int 0, .int 0])), (q1, .inl (ca 0, 400, .inl (fun _ => 0))), (q2, .inl (ca 0, 400, .inl (fun _ => 0))), (q3, .inl (ca 1, 400, .inl (fun _ => 0))), (q4, .inl (ca 2, 16, .inl (fun _ => 0))), (q5, .inl (ca 2, 16, .inl (fun _ => 0)))] H := hP
  have hD : va_D A [(a0, .inr (0, [.ref q1, .ref q2, .ref q3, .ref q4, .ref q5, .null, .null, .int 0, .int 0])), (q1, .inl (ca 0, 400, .inl (fun _ => 0))), (q2, .inl (ca 0, 400, .inl (fun _ => 0))), (q3, .inl (ca 1, 400, .inl (fun _ => 0))), (q4, .inl (ca 2, 16, .inl (fun _ => 0))), (q5, .inl (ca 2, 16, .inl (fun _ => 0)))] := hD
  refine lv_aload_n hx hb d_H_init_47 rfl (lv_at hl 0 rfl) ?_
  refine va_new (ci := 1) (fs := [.int 0, .long 0, .null, .null]) (C := R_T) (T := F_T) (N := 4) hx hb hts (fun w h => List.mem_cons_of_mem _ (uw_T w h)) ft_T tk_T hown (hts _ (List.mem_cons_of_mem _ tb_480)) (hts _ (List.mem_cons_of_mem _ tb_481)) (hts _ (List.mem_cons_of_mem _ tb_53)) hK hP hD hS hA rfl (fun j hj => by rcases (show j = 0 ∨ j = 1 ∨ j = 2 ∨ j = 3 by omega) with rfl | rfl | rfl | rfl <;> rfl) (Nat.le_of_ble_eq_true rfl) (Nat.le_of_ble_eq_true rfl) d_H_init_48 (fun q6 H hP hD hS => ?_)
  have hP : va_P D cls_all [(a0, .inr (0, [.ref q1, .ref q2, .ref q3, .ref q4, .ref q5, .null, .null, .int 0, .int 0])), (q1, .inl (ca 0, 400, .inl (fun _ => 0))), (q2, .inl (ca 0, 400, .inl (fun _ => 0))), (q3, .inl (ca 1, 400, .inl (fun _ => 0))), (q4, .inl (ca 2, 16, .inl (fun _ => 0))), (q5, .inl (ca 2, 16, .inl (fun _ => 0))), (q6, .inr (1, [.int 0, .long 0, .null, .null]))] H := hP
  have hD : va_D A [(a0, .inr (0, [.ref q1, .ref q2, .ref q3, .ref q4, .ref q5, .null, .null, .int 0, .int 0])), (q1, .inl (ca 0, 400, .inl (fun _ => 0))), (q2, .inl (ca 0, 400, .inl (fun _ => 0))), (q3, .inl (ca 1, 400, .inl (fun _ => 0))), (q4, .inl (ca 2, 16, .inl (fun _ => 0))), (q5, .inl (ca 2, 16, .inl (fun _ => 0))), (q6, .inr (1, [.int 0, .long 0, .null, .null]))] := hD
  refine W.cs (cells' := 6) (slots' := 1236) rfl rfl ?_
  refine lv_dup hx hb d_H_init_51 rfl ?_
  have hPc := hP.sub (ws' := [(q6, .inr (1, [.int 0, .long 0, .null, .null]))]) [6] rfl
  have hDc := hD.sub (ws' := [(q6, .inr (1, [.int 0, .long 0, .null, .null]))]) [6] (by decide) rfl
  have hFc := va_free (wc := [(q6, .inr (1, [.int 0, .long 0, .null, .null]))]) hD hS hA [6] rfl
  refine va_callv (va_runIN (As := []) (rest := [.ref q6, .ref a0]) ⟨hx, hb, hml, hown, hts⟩ (cm_T_init l D ca q6 H.size) ⟨va_cnB 0 hts (jd_gB tb_483) rfl rfl rfl (hN _ nw_5) (hts _ (List.mem_cons_of_mem _ tb_53)) ⟨by decide, by decide, rfl⟩ ⟨Nat.le_of_ble_eq_true rfl, Nat.le_of_ble_eq_true rfl⟩, rfl, (hts _ (List.mem_cons_of_mem _ tb_482))⟩ ⟨jd_blind nWc, jd_pre (av := [.ref q6]) hPc hK hDc (fun U h => nWm h hN)⟩ rfl rfl hl.1 rfl (lv_room (Nat.le_of_ble_eq_true rfl)) d_H_init_52 ⟨Nat.le_of_ble_eq_true rfl, Nat.le_of_ble_eq_true rfl⟩) hS (fun q _ h => hFc q h) hFc (fun u7 t H1 locs ht hvm _ hB hz1 hk1 hS => ?_)
  obtain ⟨hP1, hD1⟩ := hB
  rw [ht] at hP1
  have hP1 : va_P D cls_all [(q6, .inr (1, [.int 0, .long 0, .ref (u7 0), .ref (u7 1)])), ((u7 0), .inl (ca 3, 256, .inr (.inl (fun _ => 0)))), ((u7 1), .inl (ca 3, 256, .inr (.inl (fun _ => 0))))] H1 := hP1
  have hD1 : va_D _ [(q6, .inr (1, [.int 0, .long 0, .ref (u7 0), .ref (u7 1)])), ((u7 0), .inl (ca 3, 256, .inr (.inl (fun _ => 0)))), ((u7 1), .inl (ca 3, 256, .inr (.inl (fun _ => 0))))] := hD1
  obtain ⟨hP, hD⟩ := va_join (wr := [(a0, .inr (0, [.ref q1, .ref q2, .ref q3, .ref q4, .ref q5, .null, .null, .int 0, .int 0])), (q1, .inl (ca 0, 400, .inl (fun _ => 0))), (q2, .inl (ca 0, 400, .inl (fun _ => 0))), (q3, .inl (ca 1, 400, .inl (fun _ => 0))), (q4, .inl (ca 2, 16, .inl (fun _ => 0))), (q5, .inl (ca 2, 16, .inl (fun _ => 0)))]) (w1 := [(q6, .inr (1, [.int 0, .long 0, .ref (u7 0), .ref (u7 1)])), ((u7 0), .inl (ca 3, 256, .inr (.inl (fun _ => 0)))), ((u7 1), .inl (ca 3, 256, .inr (.inl (fun _ => 0))))]) hP hD [6] [0, 1, 2, 3, 4, 5] rfl rfl (by decide) (by decide) hk1 hFc hP1 hD1
  generalize H1 = H at hP hS ⊢
  have hP : va_P D cls_all [(a0, .inr (0, [.ref q1, .ref q2, .ref q3, .ref q4, .ref q5, .null, .null, .int 0, .int 0])), (q1, .inl (ca 0, 400, .inl (fun _ => 0))), (q2, .inl (ca 0, 400, .inl (fun _ => 0))), (q3, .inl (ca 1, 400, .inl (fun _ => 0))), (q4, .inl (ca 2, 16, .inl (fun _ => 0))), (q5, .inl (ca 2, 16, .inl (fun _ => 0))), (q6, .inr (1, [.int 0, .long 0, .ref (u7 0), .ref (u7 1)])), ((u7 0), .inl (ca 3, 256, .inr (.inl (fun _ => 0)))), ((u7 1), .inl (ca 3, 256, .inr (.inl (fun _ => 0))))] H := hP
  have hD : va_D A [(a0, .inr (0, [.ref q1, .ref q2, .ref q3, .ref q4, .ref q5, .null, .null, .int 0, .int 0])), (q1, .inl (ca 0, 400, .inl (fun _ => 0))), (q2, .inl (ca 0, 400, .inl (fun _ => 0))), (q3, .inl (ca 1, 400, .inl (fun _ => 0))), (q4, .inl (ca 2, 16, .inl (fun _ => 0))), (q5, .inl (ca 2, 16, .inl (fun _ => 0))), (q6, .inr (1, [.int 0, .long 0, .ref (u7 0), .ref (u7 1)])), ((u7 0), .inl (ca 3, 256, .inr (.inl (fun _ => 0)))), ((u7 1), .inl (ca 3, 256, .inr (.inl (fun _ => 0))))] := hD
  refine W.cs (cells' := 8) (slots' := 1748) rfl rfl ?_
  refine va_putF (D := D) (ci := 0) (v := .ref q6) (ty := .object "JuryDesk$Tally") (C := R_H) (T := F_H) (N := 9) hx hb hts (fun w h => List.mem_cons_of_mem _ (uw_H w h)) ft_H tk_H n_H hown hK hP hD hS 0 rfl rfl 5 (by decide) (hts _ (List.mem_cons_of_mem _ tb_548)) (fun _ h => h) rfl hin rfl (by decide +kernel) rfl rfl (Nat.le_of_ble_eq_true rfl) d_H_init_55 (fun H locs hP hD hS => ?_)
  have hP : va_P D cls_all [(a0, .inr (0, [.ref q1, .ref q2, .ref q3, .ref q4, .ref q5, .ref q6, .null, .int 0, .int 0])), (q1, .inl (ca 0, 400, .inl (fun _ => 0))), (q2, .inl (ca 0, 400, .inl (fun _ => 0))), (q3, .inl (ca 1, 400, .inl (fun _ => 0))), (q4, .inl (ca 2, 16, .inl (fun _ => 0))), (q5, .inl (ca 2, 16, .inl (fun _ => 0))), (q6, .inr (1, [.int 0, .long 0, .ref (u7 0), .ref (u7 1)])), ((u7 0), .inl (ca 3, 256, .inr (.inl (fun _ => 0)))), ((u7 1), .inl (ca 3, 256, .inr (.inl (fun _ => 0))))] H := hP
  have hD : va_D A [(a0, .inr (0, [.ref q1, .ref q2, .ref q3, .ref q4, .ref q5, .ref q6, .null, .int 0, .int 0])), (q1, .inl (ca 0, 400, .inl (fun _ => 0))), (q2, .inl (ca 0, 400, .inl (fun _ => 0))), (q3, .inl (ca 1, 400, .inl (fun _ => 0))), (q4, .inl (ca 2, 16, .inl (fun _ => 0))), (q5, .inl (ca 2, 16, .inl (fun _ => 0))), (q6, .inr (1, [.int 0, .long 0, .ref (u7 0), .ref (u7 1)])), ((u7 0), .inl (ca 3, 256, .inr (.inl (fun _ => 0)))), ((u7 1), .inl (ca 3, 256, .inr (.inl (fun _ => 0))))] := hD
  refine lv_aload_n hx hb d_H_init_58 rfl (lv_at hl 0 rfl) ?_
  refine va_new (ci := 2) (fs := [.int 0, .int 0, .null, .int 0, .null, .null, .null, .null]) (C := R_R) (T := F_R) (N := 8) hx hb hts (fun w h => List.mem_cons_of_mem _ (uw_R w h)) ft_R tk_R hown (hts _ (List.mem_cons_of_mem _ tb_503)) (hts _ (List.mem_cons_of_mem _ tb_369)) (hts _ (List.mem_cons_of_mem _ tb_54)) hK hP hD hS hA rfl (fun j hj => by rcases (show j = 0 ∨ j = 1 ∨ j = 2 ∨ j = 3 ∨ j = 4 ∨ j = 5 ∨ j = 6 ∨ j = 7 by omega) with rfl | rfl | rfl | rfl | rfl | rfl | rfl | rfl <;> rfl) (Nat.le_of_ble_eq_true rfl) (Nat.le_of_ble_eq_true rfl) d_H_init_59 (fun q8 H hP hD hS => ?_)
  have hP : va_P D cls_all [(a0, .inr (0, [.ref q1, .ref q2, .ref q3, .ref q4, .ref q5, .ref q6, .null, .int 0, .int 0])), (q1, .inl (ca 0, 400, .inl (fun _ => 0))), (q2, .inl (ca 0, 400, .inl (fun _ => 0))), (q3, .inl (ca 1, 400, .inl (fun _ => 0))), (q4, .inl (ca 2, 16, .inl (fun _ => 0))), (q5, .inl (ca 2, 16, .inl (fun _ => 0))), (q6, .inr (1, [.int 0, .long 0, .ref (u7 0), .ref (u7 1)])), ((u7 0), .inl (ca 3, 256, .inr (.inl (fun _ => 0)))), ((u7 1), .inl (ca 3, 256, .inr (.inl (fun _ => 0)))), (q8, .inr (2, [.int 0, .int 0, .null, .int 0, .null, .null, .null, .null]))] H := hP
  have hD : va_D A [(a0, .inr (0, [.ref q1, .ref q2, .ref q3, .ref q4, .ref q5, .ref q6, .null, .int 0, .int 0])), (q1, .inl (ca 0, 400, .inl (fun _ => 0))), (q2, .inl (ca 0, 400, .inl (fun _ => 0))), (q3, .inl (ca 1, 400, .inl (fun _ => 0))), (q4, .inl (ca 2, 16, .inl (fun _ => 0))), (q5, .inl (ca 2, 16, .inl (fun _ => 0))), (q6, .inr (1, [.int 0, .long 0, .ref (u7 0), .ref (u7 1)])), ((u7 0), .inl (ca 3, 256, .inr (.inl (fun _ => 0)))), ((u7 1), .inl (ca 3, 256, .inr (.inl (fun _ => 0)))), (q8, .inr (2, [.int 0, .int 0, .null, .int 0, .null, .null, .null, .null]))] := hD
  refine W.cs (cells' := 9) (slots' := 1756) rfl rfl ?_
  refine lv_dup hx hb d_H_init_62 rfl ?_
  have hPc := hP.sub (ws' := [(q8, .inr (2, [.int 0, .int 0, .null, .int 0, .null, .null, .null, .null]))]) [9] rfl
  have hDc := hD.sub (ws' := [(q8, .inr (2, [.int 0, .int 0, .null, .int 0, .null, .null, .null, .null]))]) [9] (by decide) rfl
  have hFc := va_free (wc := [(q8, .inr (2, [.int 0, .int 0, .null, .int 0, .null, .null, .null, .null]))]) hD hS hA [9] rfl
  refine va_callv (va_runIN (As := []) (rest := [.ref q8, .ref a0]) ⟨hx, hb, hml, hown, hts⟩ (cm_R_init l D ca q8 H.size) ⟨va_cnB 0 hts (jd_gB tb_505) rfl rfl rfl (hN _ nw_6) (hts _ (List.mem_cons_of_mem _ tb_54)) ⟨by decide, by decide, rfl⟩ ⟨Nat.le_of_ble_eq_true rfl, Nat.le_of_ble_eq_true rfl⟩, rfl, (hts _ (List.mem_cons_of_mem _ tb_504))⟩ ⟨jd_blind nWc, jd_pre (av := [.ref q8]) hPc hK hDc (fun U h => nWm h hN)⟩ rfl rfl hl.1 rfl (lv_room (Nat.le_of_ble_eq_true rfl)) d_H_init_63 ⟨Nat.le_of_ble_eq_true rfl, Nat.le_of_ble_eq_true rfl⟩) hS (fun q _ h => hFc q h) hFc (fun u9 t H1 locs ht hvm _ hB hz1 hk1 hS => ?_)
  obtain ⟨hP1, hD1⟩ := hB
  rw [ht] at hP1
  have hP1 : va_P D cls_all [(q8, .inr (2, [.int 0, .int 0, .ref (u9 0), .int 0, .ref (u9 1), .ref (u9 2), .ref (u9 3), .ref (u9 4)])), ((u9 0), .inl (ca 2, 16, .inl (fun _ => 0))), ((u9 1), .inl (ca 2, 16, .inl (fun _ => 0))), ((u9 2), .inl (ca 2, 16, .inl (fun _ => 0))), ((u9 3), .inl (ca 2, 16, .inl (fun _ => 0))), ((u9 4), .inl (ca 2, 16, .inl (fun _ => 0)))] H1 := hP1
  have hD1 : va_D _ [(q8, .inr (2, [.int 0, .int 0, .ref (u9 0), .int 0, .ref (u9 1), .ref (u9 2), .ref (u9 3), .ref (u9 4)])), ((u9 0), .inl (ca 2, 16, .inl (fun _ => 0))), ((u9 1), .inl (ca 2, 16, .inl (fun _ => 0))), ((u9 2), .inl (ca 2, 16, .inl (fun _ => 0))), ((u9 3), .inl (ca 2, 16, .inl (fun _ => 0))), ((u9 4), .inl (ca 2, 16, .inl (fun _ => 0)))] := hD1
  obtain ⟨hP, hD⟩ := va_join (wr := [(a0, .inr (0, [.ref q1, .ref q2, .ref q3, .ref q4, .ref q5, .ref q6, .null, .int 0, .int 0])), (q1, .inl (ca 0, 400, .inl (fun _ => 0))), (q2, .inl (ca 0, 400, .inl (fun _ => 0))), (q3, .inl (ca 1, 400, .inl (fun _ => 0))), (q4, .inl (ca 2, 16, .inl (fun _ => 0))), (q5, .inl (ca 2, 16, .inl (fun _ => 0))), (q6, .inr (1, [.int 0, .long 0, .ref (u7 0), .ref (u7 1)])), ((u7 0), .inl (ca 3, 256, .inr (.inl (fun _ => 0)))), ((u7 1), .inl (ca 3, 256, .inr (.inl (fun _ => 0))))]) (w1 := [(q8, .inr (2, [.int 0, .int 0, .ref (u9 0), .int 0, .ref (u9 1), .ref (u9 2), .ref (u9 3), .ref (u9 4)])), ((u9 0), .inl (ca 2, 16, .inl (fun _ => 0))), ((u9 1), .inl (ca 2, 16, .inl (fun _ => 0))), ((u9 2), .inl (ca 2, 16, .inl (fun _ => 0))), ((u9 3), .inl (ca 2, 16, .inl (fun _ => 0))), ((u9 4), .inl (ca 2, 16, .inl (fun _ => 0)))]) hP hD [9] [0, 1, 2, 3, 4, 5, 6, 7, 8] rfl rfl (by decide) (by decide) hk1 hFc hP1 hD1
  generalize H1 = H at hP hS ⊢
  have hP : va_P D cls_all [(a0, .inr (0, [.ref q1, .ref q2, .ref q3, .ref q4, .ref q5, .ref q6, .null, .int 0, .int 0])), (q1, .inl (ca 0, 400, .inl (fun _ => 0))), (q2, .inl (ca 0, 400, .inl (fun _ => 0))), (q3, .inl (ca 1, 400, .inl (fun _ => 0))), (q4, .inl (ca 2, 16, .inl (fun _ => 0))), (q5, .inl (ca 2, 16, .inl (fun _ => 0))), (q6, .inr (1, [.int 0, .long 0, .ref (u7 0), .ref (u7 1)])), ((u7 0), .inl (ca 3, 256, .inr (.inl (fun _ => 0)))), ((u7 1), .inl (ca 3, 256, .inr (.inl (fun _ => 0)))), (q8, .inr (2, [.int 0, .int 0, .ref (u9 0), .int 0, .ref (u9 1), .ref (u9 2), .ref (u9 3), .ref (u9 4)])), ((u9 0), .inl (ca 2, 16, .inl (fun _ => 0))), ((u9 1), .inl (ca 2, 16, .inl (fun _ => 0))), ((u9 2), .inl (ca 2, 16, .inl (fun _ => 0))), ((u9 3), .inl (ca 2, 16, .inl (fun _ => 0))), ((u9 4), .inl (ca 2, 16, .inl (fun _ => 0)))] H := hP
  have hD : va_D A [(a0, .inr (0, [.ref q1, .ref q2, .ref q3, .ref q4, .ref q5, .ref q6, .null, .int 0, .int 0])), (q1, .inl (ca 0, 400, .inl (fun _ => 0))), (q2, .inl (ca 0, 400, .inl (fun _ => 0))), (q3, .inl (ca 1, 400, .inl (fun _ => 0))), (q4, .inl (ca 2, 16, .inl (fun _ => 0))), (q5, .inl (ca 2, 16, .inl (fun _ => 0))), (q6, .inr (1, [.int 0, .long 0, .ref (u7 0), .ref (u7 1)])), ((u7 0), .inl (ca 3, 256, .inr (.inl (fun _ => 0)))), ((u7 1), .inl (ca 3, 256, .inr (.inl (fun _ => 0)))), (q8, .inr (2, [.int 0, .int 0, .ref (u9 0), .int 0, .ref (u9 1), .ref (u9 2), .ref (u9 3), .ref (u9 4)])), ((u9 0), .inl (ca 2, 16, .inl (fun _ => 0))), ((u9 1), .inl (ca 2, 16, .inl (fun _ => 0))), ((u9 2), .inl (ca 2, 16, .inl (fun _ => 0))), ((u9 3), .inl (ca 2, 16, .inl (fun _ => 0))), ((u9 4), .inl (ca 2, 16, .inl (fun _ => 0)))] := hD
  refine W.cs (cells' := 14) (slots' := 1836) rfl rfl ?_
  refine va_putF (D := D) (ci := 0) (v := .ref q8) (ty := .object "JuryDesk$Rows") (C := R_H) (T := F_H) (N := 9) hx hb hts (fun w h => List.mem_cons_of_mem _ (uw_H w h)) ft_H tk_H n_H hown hK hP hD hS 0 rfl rfl 6 (by decide) (hts _ (List.mem_cons_of_mem _ tb_551)) (fun _ h => h) rfl hin rfl (by decide +kernel) rfl rfl (Nat.le_of_ble_eq_true rfl) d_H_init_66 (fun H locs hP hD hS => ?_)
  have hP : va_P D cls_all [(a0, .inr (0, [.ref q1, .ref q2, .ref q3, .ref q4, .ref q5, .ref q6, .ref q8, .int 0, .int 0])), (q1, .inl (ca 0, 400, .inl (fun _ => 0))), (q2, .inl (ca 0, 400, .inl (fun _ => 0))), (q3, .inl (ca 1, 400, .inl (fun _ => 0))), (q4, .inl (ca 2, 16, .inl (fun _ => 0))), (q5, .inl (ca 2, 16, .inl (fun _ => 0))), (q6, .inr (1, [.int 0, .long 0, .ref (u7 0), .ref (u7 1)])), ((u7 0), .inl (ca 3, 256, .inr (.inl (fun _ => 0)))), ((u7 1), .inl (ca 3, 256, .inr (.inl (fun _ => 0)))), (q8, .inr (2, [.int 0, .int 0, .ref (u9 0), .int 0, .ref (u9 1), .ref (u9 2), .ref (u9 3), .ref (u9 4)])), ((u9 0), .inl (ca 2, 16, .inl (fun _ => 0))), ((u9 1), .inl (ca 2, 16, .inl (fun _ => 0))), ((u9 2), .inl (ca 2, 16, .inl (fun _ => 0))), ((u9 3), .inl (ca 2, 16, .inl (fun _ => 0))), ((u9 4), .inl (ca 2, 16, .inl (fun _ => 0)))] H := hP
  have hD : va_D A [(a0, .inr (0, [.ref q1, .ref q2, .ref q3, .ref q4, .ref q5, .ref q6, .ref q8, .int 0, .int 0])), (q1, .inl (ca 0, 400, .inl (fun _ => 0))), (q2, .inl (ca 0, 400, .inl (fun _ => 0))), (q3, .inl (ca 1, 400, .inl (fun _ => 0))), (q4, .inl (ca 2, 16, .inl (fun _ => 0))), (q5, .inl (ca 2, 16, .inl (fun _ => 0))), (q6, .inr (1, [.int 0, .long 0, .ref (u7 0), .ref (u7 1)])), ((u7 0), .inl (ca 3, 256, .inr (.inl (fun _ => 0)))), ((u7 1), .inl (ca 3, 256, .inr (.inl (fun _ => 0)))), (q8, .inr (2, [.int 0, .int 0, .ref (u9 0), .int 0, .ref (u9 1), .ref (u9 2), .ref (u9 3), .ref (u9 4)])), ((u9 0), .inl (ca 2, 16, .inl (fun _ => 0))), ((u9 1), .inl (ca 2, 16, .inl (fun _ => 0))), ((u9 2), .inl (ca 2, 16, .inl (fun _ => 0))), ((u9 3), .inl (ca 2, 16, .inl (fun _ => 0))), ((u9 4), .inl (ca 2, 16, .inl (fun _ => 0)))] := hD
  exact W.vret hx hb hr (fun t ht hW => ⟨⟨(fun k => ([q1, q2, q3, q4, q5, q6, (u7 0), (u7 1), q8, (u9 0), (u9 1), (u9 2), (u9 3), (u9 4)] : List Nat).getD k 0), rfl, trivial, by rw [ht]; exact hP, hD⟩, hS.F ht⟩) hS.2.2 d_H_init_69 hlocks
