theorem d_T_clear_0 : decode b_T_clear 0 = .ok (.aload_n 0, 1) := by decide +kernel
theorem d_T_clear_1 : decode b_T_clear 1 = .ok (.getfield 9, 3) := by decide +kernel
theorem d_T_clear_4 : decode b_T_clear 4 = .ok (.lconst 0, 1) := by decide +kernel
theorem d_T_clear_5 : decode b_T_clear 5 = .ok (.invokestatic 26, 3) := by decide +kernel
theorem d_T_clear_8 : decode b_T_clear 8 = .ok (.aload_n 0, 1) := by decide +kernel
theorem d_T_clear_9 : decode b_T_clear 9 = .ok (.getfield 15, 3) := by decide +kernel
theorem d_T_clear_12 : decode b_T_clear 12 = .ok (.lconst 0, 1) := by decide +kernel
theorem d_T_clear_13 : decode b_T_clear 13 = .ok (.invokestatic 26, 3) := by decide +kernel
theorem d_T_clear_16 : decode b_T_clear 16 = .ok (.return_, 1) := by decide +kernel
def fm_T_clear (J0 : JS) : Option (JS) :=
  ob1 (fm_A_fillJ 1 256 (0 : Int64) J0) (fun J1 => ob1 (fm_A_fillJ 2 256 (0 : Int64) J1) (fun J8 => some J8))
set_option maxHeartbeats 4000000 in
set_option maxRecDepth 100000 in
theorem cm_T_clear (l : Launch) (D : va_G) (ca : Nat → ClassId) (ad : Nat → Nat) (hs : Nat → Option Nat) {I0 : IS} {J0 : JS} {r : JS} (hf : fm_T_clear J0 = some r) : CtV l y_T_clear (Cond.code y_T_clear b_T_clear 1 none :: TB) { frames := 1, cells := 0, slots := 0, locals := 24 } [.ref (ad 6)] D cls_all (tysC ca) NN (wC ca ad hs I0 J0) (wC ca ad hs I0 r) := by
  refine jd_metV (cc := b_T_clear) (by decide) rfl (Nat.le_of_ble_eq_true rfl) (lv := [(0, .ref (ad 6))]) rfl ?_
  intro p e R s m args below meth c A Q ls cx hR hK hN hD0 hA hP hS hl hend
  have hx := cx.1
  have hb := cx.2.1
  have hml := cx.2.2.1
  have hown := cx.2.2.2.1
  have hts := cx.2.2.2.2
  have hD : ∀ I J, va_D A (wC ca ad hs I J) := fun I J => jd_Dc hD0 rfl
  unfold fm_T_clear at hf
  refine lv_aload_n hx hb d_T_clear_0 rfl (lv_at hl 0 rfl) ?_
  refine va_get (D := D) (ci := 1) (v := .ref (ad 7)) (C := R_T) (T := F_T) (N := 4) hx hb hts (fun w h => List.mem_cons_of_mem _ (uw_T w h)) hown hK hP 6 rfl rfl 2 (by decide) (hts _ (List.mem_cons_of_mem _ tb_489)) (fun _ h => h) rfl d_T_clear_1 ?_
  refine lv_lconst (v := 0) hx hb d_T_clear_4 (by decide) ?_
  obtain ⟨J1, hc2, hf3⟩ := ob1_ex hf
  refine jd_cv (va_runS (As := [.ref (ad 7), .long (0 : Int64)]) (rest := []) cx (cm_A_fillJ l D ca (wC ca ad hs) (ad 7) (fun _ _ _ _ => rfl) (k := 1) (n := 256) (q := 7) (fun _ _ => rfl) (fun _ _ _ _ => rfl) hc2 s.heap.size) (va_cwS 2 hts (jd_gS2 tb_280 tb_281 tb_46 tb_282) rfl rfl rfl ⟨by decide, by decide, rfl⟩ (by rw [hR]; decide)) ⟨jd_blind nWc, (jd_pre (av := [.ref (ad 7), .long (0 : Int64)]) hP hK (hD I0 J0) (fun U h => nWm h hN))⟩ rfl rfl hl.1 rfl (lv_room (Nat.le_of_ble_eq_true rfl)) d_T_clear_5 ⟨Nat.zero_le _, Nat.zero_le _⟩) hS (hD I0 J0) hA (fun H4 L5 hP6 hS7 => ?_)
  refine lv_aload_n hx hb d_T_clear_8 rfl (lv_at hl 0 rfl) ?_
  refine va_get (D := D) (ci := 1) (v := .ref (ad 8)) (C := R_T) (T := F_T) (N := 4) hx hb hts (fun w h => List.mem_cons_of_mem _ (uw_T w h)) hown hK hP6 6 rfl rfl 3 (by decide) (hts _ (List.mem_cons_of_mem _ tb_492)) (fun _ h => h) rfl d_T_clear_9 ?_
  refine lv_lconst (v := 0) hx hb d_T_clear_12 (by decide) ?_
  obtain ⟨J8, hc9, hf10⟩ := ob1_ex hf3
  refine jd_cv (va_runS (As := [.ref (ad 8), .long (0 : Int64)]) (rest := []) cx (cm_A_fillJ l D ca (wC ca ad hs) (ad 8) (fun _ _ _ _ => rfl) (k := 2) (n := 256) (q := 8) (fun _ _ => rfl) (fun _ _ _ _ => rfl) hc9 H4.size) (va_cwS 2 hts (jd_gS2 tb_280 tb_281 tb_46 tb_282) rfl rfl rfl ⟨by decide, by decide, rfl⟩ (by rw [hR]; decide)) ⟨jd_blind nWc, (jd_pre (av := [.ref (ad 8), .long (0 : Int64)]) hP6 hK (hD I0 J1) (fun U h => nWm h hN))⟩ rfl rfl hl.1 rfl (lv_room (Nat.le_of_ble_eq_true rfl)) d_T_clear_13 ⟨Nat.zero_le _, Nat.zero_le _⟩) hS7 (hD I0 J1) hA (fun H11 L12 hP13 hS14 => ?_)
  cases hf10
  exact hend H11 L12 16 ls hP13 hS14 d_T_clear_16
theorem d_T_add_0 : decode b_T_add 0 = .ok (.iload_n 1, 1) := by decide +kernel
theorem d_T_add_1 : decode b_T_add 1 = .ok (.iconst 1, 1) := by decide +kernel
theorem d_T_add_2 : decode b_T_add 2 = .ok (.iadd, 1) := by decide +kernel
theorem d_T_add_3 : decode b_T_add 3 = .ok (.istore 5, 2) := by decide +kernel
theorem d_T_add_5 : decode b_T_add 5 = .ok (.iload 5, 2) := by decide +kernel
theorem d_T_add_7 : decode b_T_add 7 = .ok (.bipush 16, 2) := by decide +kernel
theorem d_T_add_9 : decode b_T_add 9 = .ok (.if_icmp .ge 34, 3) := by decide +kernel
theorem d_T_add_12 : decode b_T_add 12 = .ok (.iload_n 2, 1) := by decide +kernel
theorem d_T_add_13 : decode b_T_add 13 = .ok (.iload 5, 2) := by decide +kernel
theorem d_T_add_15 : decode b_T_add 15 = .ok (.ishr, 1) := by decide +kernel
theorem d_T_add_16 : decode b_T_add 16 = .ok (.iconst 1, 1) := by decide +kernel
theorem d_T_add_17 : decode b_T_add 17 = .ok (.iand, 1) := by decide +kernel
theorem d_T_add_18 : decode b_T_add 18 = .ok (.ifCond .eq 19, 3) := by decide +kernel
theorem d_T_add_21 : decode b_T_add 21 = .ok (.aload_n 0, 1) := by decide +kernel
theorem d_T_add_22 : decode b_T_add 22 = .ok (.getfield 15, 3) := by decide +kernel
theorem d_T_add_25 : decode b_T_add 25 = .ok (.iload_n 1, 1) := by decide +kernel
theorem d_T_add_26 : decode b_T_add 26 = .ok (.bipush 16, 2) := by decide +kernel
theorem d_T_add_28 : decode b_T_add 28 = .ok (.imul, 1) := by decide +kernel
theorem d_T_add_29 : decode b_T_add 29 = .ok (.iload 5, 2) := by decide +kernel
theorem d_T_add_31 : decode b_T_add 31 = .ok (.iadd, 1) := by decide +kernel
theorem d_T_add_32 : decode b_T_add 32 = .ok (.dup2, 1) := by decide +kernel
theorem d_T_add_33 : decode b_T_add 33 = .ok (.laload, 1) := by decide +kernel
theorem d_T_add_34 : decode b_T_add 34 = .ok (.lload_n 3, 1) := by decide +kernel
theorem d_T_add_35 : decode b_T_add 35 = .ok (.ladd, 1) := by decide +kernel
theorem d_T_add_36 : decode b_T_add 36 = .ok (.lastore, 1) := by decide +kernel
theorem d_T_add_37 : decode b_T_add 37 = .ok (.iinc 5 1, 3) := by decide +kernel
theorem d_T_add_40 : decode b_T_add 40 = .ok (.goto (-35), 3) := by decide +kernel
theorem d_T_add_43 : decode b_T_add 43 = .ok (.return_, 1) := by decide +kernel
def fm_T_add_B5 (p0 : Int32) (p1 : Int32) (p2 : Int64) (x10 : Int32) (J11 : JS) : Option (Nat × Int32 × JS) :=
  if (16 : Int32) ≤ x10 then some (1, x10, J11) else if ((p1 >>> (x10 &&& 31)) &&& (1 : Int32)) = 0 then bnd (x10 + (1 : Int32)) (fun x27 => some (0, x27, J11)) else grd (inB ((p0 * (16 : Int32)) + x10) 256) (grd (inB ((p0 * (16 : Int32)) + x10) 256) (bnd (sJ J11 2 ((p0 * (16 : Int32)) + x10).toNatClampNeg ((J11 2 ((p0 * (16 : Int32)) + x10).toNatClampNeg) + p2)) (fun J36 => bnd (x10 + (1 : Int32)) (fun x44 => some (0, x44, J36)))))
def fm_T_add (p0 : Int32) (p1 : Int32) (p2 : Int64) (J0 : JS) : Option (JS) :=
  bnd (p0 + (1 : Int32)) (fun x1 => ob3 (iter (fun z : Int32 × JS => fm_T_add_B5 p0 p1 p2 z.1 z.2) FU (x1, J0)) (fun _ x50 J51 => some J51))
set_option maxHeartbeats 4000000 in
set_option maxRecDepth 100000 in
theorem cm_T_add (l : Launch) (D : va_G) (ca : Nat → ClassId) (ad : Nat → Nat) (hs : Nat → Option Nat) {p0 : Int32} {p1 : Int32} {p2 : Int64} {I0 : IS} {J0 : JS} {r : JS} (hf : fm_T_add p0 p1 p2 J0 = some r) : CtV l y_T_add (Cond.code y_T_add b_T_add 6 none :: TB) { frames := 0, cells := 0, slots := 0, locals := 0 } [.ref (ad 6), .int p0, .int p1, .long p2] D cls_all (tysC ca) NN (wC ca ad hs I0 J0) (wC ca ad hs I0 r) := by
  refine jd_metV (cc := b_T_add) (by decide) rfl (Nat.le_of_ble_eq_true rfl) (lv := [(0, .ref (ad 6)), (1, .int p0), (2, .int p1), (3, .long p2)]) rfl ?_
  intro p e R s m args below meth c A Q ls cx hR hK hN hD0 hA hP hS hl hend
  have hx := cx.1
  have hb := cx.2.1
  have hml := cx.2.2.1
  have hown := cx.2.2.2.1
  have hts := cx.2.2.2.2
  have hD : ∀ I J, va_D A (wC ca ad hs I J) := fun I J => jd_Dc hD0 rfl
  unfold fm_T_add at hf
  refine lv_iload_n hx hb d_T_add_0 rfl (lv_at hl 1 rfl) ?_
  refine lv_iconst (v := 1) hx hb d_T_add_1 (by decide) ?_
  refine lv_iadd hx hb d_T_add_2 ?_
  obtain ⟨x1, e2, hf3⟩ := bnd_ex hf
  refine jd_tni e2 ?_
  refine lv_istore hx hb d_T_add_3 hl (by decide) (lv' := [(5, .int x1), (0, .ref (ad 6)), (1, .int p0), (2, .int p1), (3, .long p2)]) rfl (fun ls4 hl5 => ?_)
  obtain ⟨tg49, x50, J51, ho52, hf53⟩ := ob3_ex hf3
  have kx5_1 : ∀ (H54 : Heap) (L55 : List Loc) (ls56 : Array Slot), va_P D cls_all (wC ca ad hs I0 J51) H54 → va_S A s.heap H54 L55 → lv_has ls56 6 [] → W p l e R s m args below meth c H54 L55 0 0 Q (F0 m 43 ls56 []) := by
    intro H54 L55 ls56 hP57 hS58 hl59
    cases hf53
    exact hend H54 L55 43 ls56 hP57 hS58 d_T_add_43
  refine iter_ind (C := fun z : Int32 × JS => ∀ (H12 : Heap) (L13 : List Loc) (ls14 : Array Slot), va_P D cls_all (wC ca ad hs I0 z.2) H12 → va_S A s.heap H12 L13 → lv_has ls14 6 [(0, .ref (ad 6)), (1, .int p0), (2, .int p1), (3, .long p2), (5, .int z.1)] → W p l e R s m args below meth c H12 L13 0 0 Q (F0 m 5 ls14 [])) (fun z9 o8 hz19 hc6 he7 => ?_) _ _ ho52 s.heap [] ls4 hP hS (lv_sub hl5 [1, 2, 3, 4, 0] rfl)
  obtain ⟨x10, J11⟩ := z9
  intro H12 L13 ls14 hP15 hS16 hl17
  have hf18 : fm_T_add_B5 p0 p1 p2 x10 J11 = some o8 := hz19
  unfold fm_T_add_B5 at hf18
  refine lv_iload hx hb d_T_add_5 (lv_at hl17 4 rfl) ?_
  refine lv_bipush (v := 16) hx hb d_T_add_7 (by decide) ?_
  refine lv_icmp_ge (tgt := 43) hx hb d_T_add_9 rfl (fun h20 => ?_) (fun h20 => ?_)
  · have hf21 := ifp hf18 h20
    cases hf21
    have e23 := he7 (by show (1 : Nat) ≠ 0; decide)
    cases e23
    exact kx5_1 H12 L13 ls14 hP15 hS16 (lv_sub hl17 [] rfl)
  · have hf22 := ifn hf18 h20
    refine lv_iload_n hx hb d_T_add_12 rfl (lv_at hl17 2 rfl) ?_
    refine lv_iload hx hb d_T_add_13 (lv_at hl17 4 rfl) ?_
    refine lv_ishr hx hb d_T_add_15 ?_
    refine lv_iconst (v := 1) hx hb d_T_add_16 (by decide) ?_
    refine lv_iand hx hb d_T_add_17 ?_
    refine lv_if_eq (tgt := 37) hx hb d_T_add_18 rfl (fun h24 => ?_) (fun h24 => ?_)
    · have hf25 := ifp hf22 h24
      obtain ⟨x27, e28, hf29⟩ := bnd_ex hf25
      refine lv_iinc hx hb d_T_add_37 hl17 (k := 4) rfl (v := x27) (by rw [e28]; rfl) (by decide) (lv' := [(5, .int x27), (0, .ref (ad 6)), (1, .int p0), (2, .int p1), (3, .long p2)]) rfl (fun ls30 hl31 => ?_)
      refine lv_goto (tgt := 5) hx hb d_T_add_40 rfl ?_
      cases hf29
      exact hc6 rfl H12 L13 ls30 hP15 hS16 (lv_sub hl31 [1, 2, 3, 4, 0] rfl)
    · have hf26 := ifn hf22 h24
      refine lv_aload_n hx hb d_T_add_21 rfl (lv_at hl17 0 rfl) ?_
      refine va_get (D := D) (ci := 1) (v := .ref (ad 8)) (C := R_T) (T := F_T) (N := 4) hx hb hts (fun w h => List.mem_cons_of_mem _ (uw_T w h)) hown hK hP15 6 rfl rfl 3 (by decide) (hts _ (List.mem_cons_of_mem _ tb_492)) (fun _ h => h) rfl d_T_add_22 ?_
      refine lv_iload_n hx hb d_T_add_25 rfl (lv_at hl17 1 rfl) ?_
      refine lv_bipush (v := 16) hx hb d_T_add_26 (by decide) ?_
      refine lv_imul hx hb d_T_add_28 ?_
      refine lv_iload hx hb d_T_add_29 (lv_at hl17 4 rfl) ?_
      refine lv_iadd hx hb d_T_add_31 ?_
      refine lv_dup2_11 hx hb d_T_add_32 rfl rfl ?_
      obtain ⟨hg32, hf33⟩ := grd_ex hf26
      refine va_lald hx hb hK hP15 8 3 rfl rfl (inB_in hg32) d_T_add_33 ?_
      refine lv_lload_n hx hb d_T_add_34 rfl (lv_at hl17 3 rfl) ?_
      refine lv_ladd hx hb d_T_add_35 ?_
      obtain ⟨hg34, hf35⟩ := grd_ex hf33
      obtain ⟨J36, e37, hf38⟩ := bnd_ex hf35
      refine va_last hx hb hK hP15 (hD I0 J11) hS16 8 3 rfl rfl (inB_in hg34) d_T_add_36 (fun H39 L40 hp43 _ hS42 => ?_)
      have hP41 : va_P D cls_all (wC ca ad hs I0 J36) H39 := by rw [e37]; exact hp43
      obtain ⟨x44, e45, hf46⟩ := bnd_ex hf38
      refine lv_iinc hx hb d_T_add_37 hl17 (k := 4) rfl (v := x44) (by rw [e45]; rfl) (by decide) (lv' := [(5, .int x44), (0, .ref (ad 6)), (1, .int p0), (2, .int p1), (3, .long p2)]) rfl (fun ls47 hl48 => ?_)
      refine lv_goto (tgt := 5) hx hb d_T_add_40 rfl ?_
      cases hf46
      exact hc6 rfl H39 L40 ls47 hP41 hS42 (lv_sub hl48 [1, 2, 3, 4, 0] rfl)
theorem d_T_complete_0 : decode b_T_complete 0 = .ok (.iconst 0, 1) := by decide +kernel
theorem d_T_complete_1 : decode b_T_complete 1 = .ok (.istore_n 2, 1) := by decide +kernel
theorem d_T_complete_2 : decode b_T_complete 2 = .ok (.iload_n 2, 1) := by decide +kernel
theorem d_T_complete_3 : decode b_T_complete 3 = .ok (.bipush 16, 2) := by decide +kernel
theorem d_T_complete_5 : decode b_T_complete 5 = .ok (.if_icmp .ge 68, 3) := by decide +kernel
theorem d_T_complete_8 : decode b_T_complete 8 = .ok (.iload_n 2, 1) := by decide +kernel
theorem d_T_complete_9 : decode b_T_complete 9 = .ok (.iconst 1, 1) := by decide +kernel
theorem d_T_complete_10 : decode b_T_complete 10 = .ok (.iadd, 1) := by decide +kernel
theorem d_T_complete_11 : decode b_T_complete 11 = .ok (.istore_n 3, 1) := by decide +kernel
theorem d_T_complete_12 : decode b_T_complete 12 = .ok (.iload_n 3, 1) := by decide +kernel
theorem d_T_complete_13 : decode b_T_complete 13 = .ok (.bipush 16, 2) := by decide +kernel
theorem d_T_complete_15 : decode b_T_complete 15 = .ok (.if_icmp .ge 52, 3) := by decide +kernel
theorem d_T_complete_18 : decode b_T_complete 18 = .ok (.aload_n 1, 1) := by decide +kernel
theorem d_T_complete_19 : decode b_T_complete 19 = .ok (.iload_n 2, 1) := by decide +kernel
theorem d_T_complete_20 : decode b_T_complete 20 = .ok (.invokevirtual 32, 3) := by decide +kernel
theorem d_T_complete_23 : decode b_T_complete 23 = .ok (.ifCond .eq 38, 3) := by decide +kernel
theorem d_T_complete_26 : decode b_T_complete 26 = .ok (.aload_n 1, 1) := by decide +kernel
theorem d_T_complete_27 : decode b_T_complete 27 = .ok (.iload_n 3, 1) := by decide +kernel
theorem d_T_complete_28 : decode b_T_complete 28 = .ok (.invokevirtual 32, 3) := by decide +kernel
theorem d_T_complete_31 : decode b_T_complete 31 = .ok (.ifCond .eq 30, 3) := by decide +kernel
theorem d_T_complete_34 : decode b_T_complete 34 = .ok (.aload_n 0, 1) := by decide +kernel
theorem d_T_complete_35 : decode b_T_complete 35 = .ok (.getfield 15, 3) := by decide +kernel
theorem d_T_complete_38 : decode b_T_complete 38 = .ok (.iload_n 3, 1) := by decide +kernel
theorem d_T_complete_39 : decode b_T_complete 39 = .ok (.bipush 16, 2) := by decide +kernel
theorem d_T_complete_41 : decode b_T_complete 41 = .ok (.imul, 1) := by decide +kernel
theorem d_T_complete_42 : decode b_T_complete 42 = .ok (.iload_n 2, 1) := by decide +kernel
theorem d_T_complete_43 : decode b_T_complete 43 = .ok (.iadd, 1) := by decide +kernel
theorem d_T_complete_44 : decode b_T_complete 44 = .ok (.aload_n 0, 1) := by decide +kernel
theorem d_T_complete_45 : decode b_T_complete 45 = .ok (.getfield 22, 3) := by decide +kernel
theorem d_T_complete_48 : decode b_T_complete 48 = .ok (.aload_n 0, 1) := by decide +kernel
theorem d_T_complete_49 : decode b_T_complete 49 = .ok (.getfield 15, 3) := by decide +kernel
theorem d_T_complete_52 : decode b_T_complete 52 = .ok (.iload_n 2, 1) := by decide +kernel
theorem d_T_complete_53 : decode b_T_complete 53 = .ok (.bipush 16, 2) := by decide +kernel
theorem d_T_complete_55 : decode b_T_complete 55 = .ok (.imul, 1) := by decide +kernel
theorem d_T_complete_56 : decode b_T_complete 56 = .ok (.iload_n 3, 1) := by decide +kernel
theorem d_T_complete_57 : decode b_T_complete 57 = .ok (.iadd, 1) := by decide +kernel
theorem d_T_complete_58 : decode b_T_complete 58 = .ok (.laload, 1) := by decide +kernel
theorem d_T_complete_59 : decode b_T_complete 59 = .ok (.lsub, 1) := by decide +kernel
theorem d_T_complete_60 : decode b_T_complete 60 = .ok (.lastore, 1) := by decide +kernel
theorem d_T_complete_61 : decode b_T_complete 61 = .ok (.iinc 3 1, 3) := by decide +kernel
theorem d_T_complete_64 : decode b_T_complete 64 = .ok (.goto (-52), 3) := by decide +kernel
theorem d_T_complete_67 : decode b_T_complete 67 = .ok (.iinc 2 1, 3) := by decide +kernel
theorem d_T_complete_70 : decode b_T_complete 70 = .ok (.goto (-68), 3) := by decide +kernel
theorem d_T_complete_73 : decode b_T_complete 73 = .ok (.aload_n 0, 1) := by decide +kernel
theorem d_T_complete_74 : decode b_T_complete 74 = .ok (.iconst 1, 1) := by decide +kernel
theorem d_T_complete_75 : decode b_T_complete 75 = .ok (.putfield 18, 3) := by decide +kernel
theorem d_T_complete_78 : decode b_T_complete 78 = .ok (.return_, 1) := by decide +kernel
def fm_T_complete_B12 (I0 : IS) (x7 : Int32) (x30 : Int32) (J31 : JS) : Option (Nat × Int32 × JS) :=
  if (16 : Int32) ≤ x30 then some (1, x30, J31) else ob1 (fm_H_has x7 I0) (fun x44 => if x44 = 0 then bnd (x30 + (1 : Int32)) (fun x54 => some (0, x54, J31)) else ob1 (fm_H_has x30 I0) (fun x59 => if x59 = 0 then bnd (x30 + (1 : Int32)) (fun x69 => some (0, x69, J31)) else grd (inB ((x7 * (16 : Int32)) + x30) 256) (grd (inB ((x30 * (16 : Int32)) + x7) 256) (bnd (sJ J31 2 ((x30 * (16 : Int32)) + x7).toNatClampNeg ((J31 0 0) - (J31 2 ((x7 * (16 : Int32)) + x30).toNatClampNeg))) (fun J78 => bnd (x30 + (1 : Int32)) (fun x86 => some (0, x86, J78)))))))
def fm_T_complete_B2 (I0 : IS) (x7 : Int32) (J8 : JS) : Option (Nat × Int32 × JS) :=
  if (16 : Int32) ≤ x7 then some (1, x7, J8) else bnd (x7 + (1 : Int32)) (fun x21 => ob3 (iter (fun z : Int32 × JS => fm_T_complete_B12 I0 x7 z.1 z.2) FU (x21, J8)) (fun _ x92 J93 => bnd (x7 + (1 : Int32)) (fun x102 => some (0, x102, J93))))
def fm_T_complete (I0 : IS) (J0 : JS) : Option (IS × JS) :=
  ob3 (iter (fun z : Int32 × JS => fm_T_complete_B2 I0 z.1 z.2) FU ((0 : Int32), J0)) (fun _ x108 J109 => bnd (sV I0 7 (1 : Int32)) (fun I118 => some (I118, J109)))
set_option maxHeartbeats 4000000 in
set_option maxRecDepth 100000 in
theorem cm_T_complete (l : Launch) (D : va_G) (ca : Nat → ClassId) (ad : Nat → Nat) (hs : Nat → Option Nat) {I0 : IS} {J0 : JS} {r : IS × JS} (hf : fm_T_complete I0 J0 = some r) : CtV l y_T_complete (Cond.code y_T_complete b_T_complete 4 none :: TB) { frames := 2, cells := 0, slots := 0, locals := 42 } [.ref (ad 6), .ref (ad 0)] D cls_all (tysC ca) NN (wC ca ad hs I0 J0) (wC ca ad hs r.1 r.2) := by
  refine jd_metV (cc := b_T_complete) (by decide) rfl (Nat.le_of_ble_eq_true rfl) (lv := [(0, .ref (ad 6)), (1, .ref (ad 0))]) rfl ?_
  intro p e R s m args below meth c A Q ls cx hR hK hN hD0 hA hP hS hl hend
  have hx := cx.1
  have hb := cx.2.1
  have hml := cx.2.2.1
  have hown := cx.2.2.2.1
  have hts := cx.2.2.2.2
  have hD : ∀ I J, va_D A (wC ca ad hs I J) := fun I J => jd_Dc hD0 rfl
  unfold fm_T_complete at hf
  refine lv_iconst (v := 0) hx hb d_T_complete_0 (by decide) ?_
  refine lv_istore_n hx hb d_T_complete_1 rfl hl (by decide) (lv' := [(2, .int (0 : Int32)), (0, .ref (ad 6)), (1, .ref (ad 0))]) rfl (fun ls1 hl2 => ?_)
  obtain ⟨tg107, x108, J109, ho110, hf111⟩ := ob3_ex hf
  have kx2_1 : ∀ (H112 : Heap) (L113 : List Loc) (ls114 : Array Slot), va_P D cls_all (wC ca ad hs I0 J109) H112 → va_S A s.heap H112 L113 → lv_has ls114 4 [(0, .ref (ad 6))] → W p l e R s m args below meth c H112 L113 0 0 Q (F0 m 73 ls114 []) := by
    intro H112 L113 ls114 hP115 hS116 hl117
    refine lv_aload_n hx hb d_T_complete_73 rfl (lv_at hl117 0 rfl) ?_
    refine lv_iconst (v := 1) hx hb d_T_complete_74 (by decide) ?_
    obtain ⟨I118, e119, hf120⟩ := bnd_ex hf111
    refine va_put (D := D) (ci := 1) (v := .int (1 : Int32)) (ty := .boolean) (C := R_T) (T := F_T) (N := 4) hx hb hts (fun w h => List.mem_cons_of_mem _ (uw_T w h)) ft_T tk_T n_T hown hK hP115 (hD I0 J109) hS116 6 rfl rfl 0 (by decide) (hts _ (List.mem_cons_of_mem _ tb_485)) (fun _ h => h) rfl (by decide +kernel) rfl rfl (Nat.le_of_ble_eq_true rfl) d_T_complete_75 (fun H121 L122 hp125 _ hS124 => ?_)
    have hP123 : va_P D cls_all (wC ca ad hs I118 J109) H121 := by rw [e119]; exact hp125
    cases hf120
    exact hend H121 L122 78 ls114 hP123 hS124 d_T_complete_78
  refine iter_ind (C := fun z : Int32 × JS => ∀ (H9 : Heap) (L10 : List Loc) (ls11 : Array Slot), va_P D cls_all (wC ca ad hs I0 z.2) H9 → va_S A s.heap H9 L10 → lv_has ls11 4 [(0, .ref (ad 6)), (1, .ref (ad 0)), (2, .int z.1)] → W p l e R s m args below meth c H9 L10 0 0 Q (F0 m 2 ls11 [])) (fun z6 o5 hz16 hc3 he4 => ?_) _ _ ho110 s.heap [] ls1 hP hS (lv_sub hl2 [1, 2, 0] rfl)
  obtain ⟨x7, J8⟩ := z6
  intro H9 L10 ls11 hP12 hS13 hl14
  have hf15 : fm_T_complete_B2 I0 x7 J8 = some o5 := hz16
  unfold fm_T_complete_B2 at hf15
  refine lv_iload_n hx hb d_T_complete_2 rfl (lv_at hl14 2 rfl) ?_
  refine lv_bipush (v := 16) hx hb d_T_complete_3 (by decide) ?_
  refine lv_icmp_ge (tgt := 73) hx hb d_T_complete_5 rfl (fun h17 => ?_) (fun h17 => ?_)
  · have hf18 := ifp hf15 h17
    cases hf18
    have e20 := he4 (by show (1 : Nat) ≠ 0; decide)
    cases e20
    exact kx2_1 H9 L10 ls11 hP12 hS13 (lv_sub hl14 [0] rfl)
  · have hf19 := ifn hf15 h17
    refine lv_iload_n hx hb d_T_complete_8 rfl (lv_at hl14 2 rfl) ?_
    refine lv_iconst (v := 1) hx hb d_T_complete_9 (by decide) ?_
    refine lv_iadd hx hb d_T_complete_10 ?_
    obtain ⟨x21, e22, hf23⟩ := bnd_ex hf19
    refine jd_tni e22 ?_
    refine lv_istore_n hx hb d_T_complete_11 rfl hl14 (by decide) (lv' := [(3, .int x21), (0, .ref (ad 6)), (1, .ref (ad 0)), (2, .int x7)]) rfl (fun ls24 hl25 => ?_)
    obtain ⟨tg91, x92, J93, ho94, hf95⟩ := ob3_ex hf23
    have kx12_1 : ∀ (H96 : Heap) (L97 : List Loc) (ls98 : Array Slot), va_P D cls_all (wC ca ad hs I0 J93) H96 → va_S A s.heap H96 L97 → lv_has ls98 4 [(0, .ref (ad 6)), (1, .ref (ad 0)), (2, .int x7)] → W p l e R s m args below meth c H96 L97 0 0 Q (F0 m 67 ls98 []) := by
      intro H96 L97 ls98 hP99 hS100 hl101
      obtain ⟨x102, e103, hf104⟩ := bnd_ex hf95
      refine lv_iinc hx hb d_T_complete_67 hl101 (k := 2) rfl (v := x102) (by rw [e103]; rfl) (by decide) (lv' := [(2, .int x102), (0, .ref (ad 6)), (1, .ref (ad 0))]) rfl (fun ls105 hl106 => ?_)
      refine lv_goto (tgt := 2) hx hb d_T_complete_70 rfl ?_
      cases hf104
      exact hc3 rfl H96 L97 ls105 hP99 hS100 (lv_sub hl106 [1, 2, 0] rfl)
    refine iter_ind (C := fun z : Int32 × JS => ∀ (H32 : Heap) (L33 : List Loc) (ls34 : Array Slot), va_P D cls_all (wC ca ad hs I0 z.2) H32 → va_S A s.heap H32 L33 → lv_has ls34 4 [(0, .ref (ad 6)), (1, .ref (ad 0)), (2, .int x7), (3, .int z.1)] → W p l e R s m args below meth c H32 L33 0 0 Q (F0 m 12 ls34 [])) (fun z29 o28 hz39 hc26 he27 => ?_) _ _ ho94 H9 L10 ls24 hP12 hS13 (lv_sub hl25 [1, 2, 3, 0] rfl)
    obtain ⟨x30, J31⟩ := z29
    intro H32 L33 ls34 hP35 hS36 hl37
    have hf38 : fm_T_complete_B12 I0 x7 x30 J31 = some o28 := hz39
    unfold fm_T_complete_B12 at hf38
    refine lv_iload_n hx hb d_T_complete_12 rfl (lv_at hl37 3 rfl) ?_
    refine lv_bipush (v := 16) hx hb d_T_complete_13 (by decide) ?_
    refine lv_icmp_ge (tgt := 67) hx hb d_T_complete_15 rfl (fun h40 => ?_) (fun h40 => ?_)
    · have hf41 := ifp hf38 h40
      cases hf41
      have e43 := he27 (by show (1 : Nat) ≠ 0; decide)
      cases e43
      exact kx12_1 H32 L33 ls34 hP35 hS36 (lv_sub hl37 [0, 1, 2] rfl)
    · have hf42 := ifn hf38 h40
      refine lv_aload_n hx hb d_T_complete_18 rfl (lv_at hl37 1 rfl) ?_
      refine lv_iload_n hx hb d_T_complete_19 rfl (lv_at hl37 2 rfl) ?_
      obtain ⟨x44, hc45, hf46⟩ := ob1_ex hf42
      refine jd_ci (va_runV (As := [.int x7]) (rest := []) cx (cm_H_has l D ca ad hs hc45 H32.size) (cwV 1 hts (jd_gV tb_295 tb_128 tb_129 tb_52 tb_130) rfl rfl rfl ⟨rfl, by decide, by decide, rfl⟩ (by rw [hR]; decide)) ⟨jd_blind nWc, (va_recv hK hP35 (ci := 0) (q0 := 0) rfl rfl), (jd_pre (av := [.ref (ad 0), .int x7]) hP35 hK (hD I0 J31) (fun U h => nWm h hN))⟩ rfl rfl hl37.1 rfl (lv_room (Nat.le_of_ble_eq_true rfl)) d_T_complete_20 ⟨Nat.zero_le _, Nat.zero_le _⟩) hS36 (hD I0 J31) hA (fun H47 L48 hP49 hS50 => ?_)
      refine lv_if_eq (tgt := 61) hx hb d_T_complete_23 rfl (fun h51 => ?_) (fun h51 => ?_)
      · have hf52 := ifp hf46 h51
        obtain ⟨x54, e55, hf56⟩ := bnd_ex hf52
        refine lv_iinc hx hb d_T_complete_61 hl37 (k := 3) rfl (v := x54) (by rw [e55]; rfl) (by decide) (lv' := [(3, .int x54), (0, .ref (ad 6)), (1, .ref (ad 0)), (2, .int x7)]) rfl (fun ls57 hl58 => ?_)
        refine lv_goto (tgt := 12) hx hb d_T_complete_64 rfl ?_
        cases hf56
        exact hc26 rfl H47 L48 ls57 hP49 hS50 (lv_sub hl58 [1, 2, 3, 0] rfl)
      · have hf53 := ifn hf46 h51
        refine lv_aload_n hx hb d_T_complete_26 rfl (lv_at hl37 1 rfl) ?_
        refine lv_iload_n hx hb d_T_complete_27 rfl (lv_at hl37 3 rfl) ?_
        obtain ⟨x59, hc60, hf61⟩ := ob1_ex hf53
        refine jd_ci (va_runV (As := [.int x30]) (rest := []) cx (cm_H_has l D ca ad hs hc60 H47.size) (cwV 1 hts (jd_gV tb_295 tb_128 tb_129 tb_52 tb_130) rfl rfl rfl ⟨rfl, by decide, by decide, rfl⟩ (by rw [hR]; decide)) ⟨jd_blind nWc, (va_recv hK hP49 (ci := 0) (q0 := 0) rfl rfl), (jd_pre (av := [.ref (ad 0), .int x30]) hP49 hK (hD I0 J31) (fun U h => nWm h hN))⟩ rfl rfl hl37.1 rfl (lv_room (Nat.le_of_ble_eq_true rfl)) d_T_complete_28 ⟨Nat.zero_le _, Nat.zero_le _⟩) hS50 (hD I0 J31) hA (fun H62 L63 hP64 hS65 => ?_)
        refine lv_if_eq (tgt := 61) hx hb d_T_complete_31 rfl (fun h66 => ?_) (fun h66 => ?_)
        · have hf67 := ifp hf61 h66
          obtain ⟨x69, e70, hf71⟩ := bnd_ex hf67
          refine lv_iinc hx hb d_T_complete_61 hl37 (k := 3) rfl (v := x69) (by rw [e70]; rfl) (by decide) (lv' := [(3, .int x69), (0, .ref (ad 6)), (1, .ref (ad 0)), (2, .int x7)]) rfl (fun ls72 hl73 => ?_)
          refine lv_goto (tgt := 12) hx hb d_T_complete_64 rfl ?_
          cases hf71
          exact hc26 rfl H62 L63 ls72 hP64 hS65 (lv_sub hl73 [1, 2, 3, 0] rfl)
        · have hf68 := ifn hf61 h66
          refine lv_aload_n hx hb d_T_complete_34 rfl (lv_at hl37 0 rfl) ?_
          refine va_get (D := D) (ci := 1) (v := .ref (ad 8)) (C := R_T) (T := F_T) (N := 4) hx hb hts (fun w h => List.mem_cons_of_mem _ (uw_T w h)) hown hK hP64 6 rfl rfl 3 (by decide) (hts _ (List.mem_cons_of_mem _ tb_492)) (fun _ h => h) rfl d_T_complete_35 ?_
          refine lv_iload_n hx hb d_T_complete_38 rfl (lv_at hl37 3 rfl) ?_
          refine lv_bipush (v := 16) hx hb d_T_complete_39 (by decide) ?_
          refine lv_imul hx hb d_T_complete_41 ?_
          refine lv_iload_n hx hb d_T_complete_42 rfl (lv_at hl37 2 rfl) ?_
          refine lv_iadd hx hb d_T_complete_43 ?_
          refine lv_aload_n hx hb d_T_complete_44 rfl (lv_at hl37 0 rfl) ?_
          refine va_get (D := D) (ci := 1) (v := .long (J31 0 0)) (C := R_T) (T := F_T) (N := 4) hx hb hts (fun w h => List.mem_cons_of_mem _ (uw_T w h)) hown hK hP64 6 rfl rfl 1 (by decide) (hts _ (List.mem_cons_of_mem _ tb_487)) (fun _ h => h) rfl d_T_complete_45 ?_
          refine lv_aload_n hx hb d_T_complete_48 rfl (lv_at hl37 0 rfl) ?_
          refine va_get (D := D) (ci := 1) (v := .ref (ad 8)) (C := R_T) (T := F_T) (N := 4) hx hb hts (fun w h => List.mem_cons_of_mem _ (uw_T w h)) hown hK hP64 6 rfl rfl 3 (by decide) (hts _ (List.mem_cons_of_mem _ tb_492)) (fun _ h => h) rfl d_T_complete_49 ?_
          refine lv_iload_n hx hb d_T_complete_52 rfl (lv_at hl37 2 rfl) ?_
          refine lv_bipush (v := 16) hx hb d_T_complete_53 (by decide) ?_
          refine lv_imul hx hb d_T_complete_55 ?_
          refine lv_iload_n hx hb d_T_complete_56 rfl (lv_at hl37 3 rfl) ?_
          refine lv_iadd hx hb d_T_complete_57 ?_
          obtain ⟨hg74, hf75⟩ := grd_ex hf68
          refine va_lald hx hb hK hP64 8 3 rfl rfl (inB_in hg74) d_T_complete_58 ?_
          refine lv_lsub hx hb d_T_complete_59 ?_
          obtain ⟨hg76, hf77⟩ := grd_ex hf75
          obtain ⟨J78, e79, hf80⟩ := bnd_ex hf77
          refine va_last hx hb hK hP64 (hD I0 J31) hS65 8 3 rfl rfl (inB_in hg76) d_T_complete_60 (fun H81 L82 hp85 _ hS84 => ?_)
          have hP83 : va_P D cls_all (wC ca ad hs I0 J78) H81 := by rw [e79]; exact hp85
          obtain ⟨x86, e87, hf88⟩ := bnd_ex hf80
          refine lv_iinc hx hb d_T_complete_61 hl37 (k := 3) rfl (v := x86) (by rw [e87]; rfl) (by decide) (lv' := [(3, .int x86), (0, .ref (ad 6)), (1, .ref (ad 0)), (2, .int x7)]) rfl (fun ls89 hl90 => ?_)
          refine lv_goto (tgt := 12) hx hb d_T_complete_64 rfl ?_
          cases hf88
          exact hc26 rfl H81 L82 ls89 hP83 hS84 (lv_sub hl90 [1, 2, 3, 0] rfl)
theorem d_T_sumOfRanks_0 : decode b_T_sumOfRanks 0 = .ok (.lconst 0, 1) := by decide +kernel
theorem d_T_sumOfRanks_1 : decode b_T_sumOfRanks 1 = .ok (.lstore_n 2, 1) := by decide +kernel
theorem d_T_sumOfRanks_2 : decode b_T_sumOfRanks 2 = .ok (.iconst 1, 1) := by decide +kernel
theorem d_T_sumOfRanks_3 : decode b_T_sumOfRanks 3 = .ok (.istore 4, 2) := by decide +kernel
theorem d_T_sumOfRanks_5 : decode b_T_sumOfRanks 5 = .ok (.iload 4, 2) := by decide +kernel
theorem d_T_sumOfRanks_7 : decode b_T_sumOfRanks 7 = .ok (.bipush 16, 2) := by decide +kernel
theorem d_T_sumOfRanks_9 : decode b_T_sumOfRanks 9 = .ok (.if_icmp .gt 30, 3) := by decide +kernel
theorem d_T_sumOfRanks_12 : decode b_T_sumOfRanks 12 = .ok (.lload_n 2, 1) := by decide +kernel
theorem d_T_sumOfRanks_13 : decode b_T_sumOfRanks 13 = .ok (.iload 4, 2) := by decide +kernel
theorem d_T_sumOfRanks_15 : decode b_T_sumOfRanks 15 = .ok (.i2l, 1) := by decide +kernel
theorem d_T_sumOfRanks_16 : decode b_T_sumOfRanks 16 = .ok (.aload_n 0, 1) := by decide +kernel
theorem d_T_sumOfRanks_17 : decode b_T_sumOfRanks 17 = .ok (.getfield 9, 3) := by decide +kernel
theorem d_T_sumOfRanks_20 : decode b_T_sumOfRanks 20 = .ok (.iload_n 1, 1) := by decide +kernel
theorem d_T_sumOfRanks_21 : decode b_T_sumOfRanks 21 = .ok (.bipush 16, 2) := by decide +kernel
theorem d_T_sumOfRanks_23 : decode b_T_sumOfRanks 23 = .ok (.imul, 1) := by decide +kernel
theorem d_T_sumOfRanks_24 : decode b_T_sumOfRanks 24 = .ok (.iload 4, 2) := by decide +kernel
theorem d_T_sumOfRanks_26 : decode b_T_sumOfRanks 26 = .ok (.iadd, 1) := by decide +kernel
theorem d_T_sumOfRanks_27 : decode b_T_sumOfRanks 27 = .ok (.iconst 1, 1) := by decide +kernel
theorem d_T_sumOfRanks_28 : decode b_T_sumOfRanks 28 = .ok (.isub, 1) := by decide +kernel
theorem d_T_sumOfRanks_29 : decode b_T_sumOfRanks 29 = .ok (.laload, 1) := by decide +kernel
theorem d_T_sumOfRanks_30 : decode b_T_sumOfRanks 30 = .ok (.lmul, 1) := by decide +kernel
theorem d_T_sumOfRanks_31 : decode b_T_sumOfRanks 31 = .ok (.ladd, 1) := by decide +kernel
theorem d_T_sumOfRanks_32 : decode b_T_sumOfRanks 32 = .ok (.lstore_n 2, 1) := by decide +kernel
theorem d_T_sumOfRanks_33 : decode b_T_sumOfRanks 33 = .ok (.iinc 4 1, 3) := by decide +kernel
theorem d_T_sumOfRanks_36 : decode b_T_sumOfRanks 36 = .ok (.goto (-31), 3) := by decide +kernel
theorem d_T_sumOfRanks_39 : decode b_T_sumOfRanks 39 = .ok (.lload_n 2, 1) := by decide +kernel
theorem d_T_sumOfRanks_40 : decode b_T_sumOfRanks 40 = .ok (.lreturn, 1) := by decide +kernel
def fm_T_sumOfRanks_B5 (p0 : Int32) (J0 : JS) (y9 : Int64) (x10 : Int32) : Option (Nat × Int64 × Int32) :=
  if (16 : Int32) < x10 then some (1, y9, x10) else grd (inB (((p0 * (16 : Int32)) + x10) - (1 : Int32)) 256) (bnd (y9 + (x10.toInt64 * (J0 1 (((p0 * (16 : Int32)) + x10) - (1 : Int32)).toNatClampNeg))) (fun y25 => bnd (x10 + (1 : Int32)) (fun x30 => some (0, y25, x30))))
def fm_T_sumOfRanks (p0 : Int32) (J0 : JS) : Option (Int64) :=
  ob3 (iter (fun z : Int64 × Int32 => fm_T_sumOfRanks_B5 p0 J0 z.1 z.2) FU ((0 : Int64), (1 : Int32))) (fun _ y36 x37 => some y36)
set_option maxHeartbeats 4000000 in
set_option maxRecDepth 100000 in
theorem cm_T_sumOfRanks (l : Launch) (D : va_G) (ca : Nat → ClassId) (ad : Nat → Nat) (hs : Nat → Option Nat) {p0 : Int32} {I0 : IS} {J0 : JS} {r : Int64} (hf : fm_T_sumOfRanks p0 J0 = some r) : CtL l y_T_sumOfRanks (Cond.code y_T_sumOfRanks b_T_sumOfRanks 5 (some .long) :: TB) { frames := 0, cells := 0, slots := 0, locals := 0 } [.ref (ad 6), .int p0] D cls_all (tysC ca) NN (wC ca ad hs I0 J0) (wC ca ad hs I0 J0) r := by
  refine jd_metL (cc := b_T_sumOfRanks) (by decide) rfl (Nat.le_of_ble_eq_true rfl) (lv := [(0, .ref (ad 6)), (1, .int p0)]) rfl ?_
  intro p e R s m args below meth c A Q ls cx hR hK hN hD0 hA hP hS hl hend
  have hx := cx.1
  have hb := cx.2.1
  have hml := cx.2.2.1
  have hown := cx.2.2.2.1
  have hts := cx.2.2.2.2
  have hD : ∀ I J, va_D A (wC ca ad hs I J) := fun I J => jd_Dc hD0 rfl
  unfold fm_T_sumOfRanks at hf
  refine lv_lconst (v := 0) hx hb d_T_sumOfRanks_0 (by decide) ?_
  refine lv_lstore_n hx hb d_T_sumOfRanks_1 rfl hl (by decide) (lv' := [(2, .long (0 : Int64)), (0, .ref (ad 6)), (1, .int p0)]) rfl (fun ls1 hl2 => ?_)
  refine lv_iconst (v := 1) hx hb d_T_sumOfRanks_2 (by decide) ?_
  refine lv_istore hx hb d_T_sumOfRanks_3 hl2 (by decide) (lv' := [(4, .int (1 : Int32)), (2, .long (0 : Int64)), (0, .ref (ad 6)), (1, .int p0)]) rfl (fun ls3 hl4 => ?_)
  obtain ⟨tg35, y36, x37, ho38, hf39⟩ := ob3_ex hf
  have kx5_1 : ∀ (H40 : Heap) (L41 : List Loc) (ls42 : Array Slot), va_P D cls_all (wC ca ad hs I0 J0) H40 → va_S A s.heap H40 L41 → lv_has ls42 5 [(2, .long y36)] → W p l e R s m args below meth c H40 L41 0 0 Q (F0 m 39 ls42 []) := by
    intro H40 L41 ls42 hP43 hS44 hl45
    refine lv_lload_n hx hb d_T_sumOfRanks_39 rfl (lv_at hl45 0 rfl) ?_
    cases hf39
    exact hend H40 L41 40 ls42 hP43 hS44 d_T_sumOfRanks_40
  refine iter_ind (C := fun z : Int64 × Int32 => ∀ (H11 : Heap) (L12 : List Loc) (ls13 : Array Slot), va_P D cls_all (wC ca ad hs I0 J0) H11 → va_S A s.heap H11 L12 → lv_has ls13 5 [(0, .ref (ad 6)), (1, .int p0), (2, .long z.1), (4, .int z.2)] → W p l e R s m args below meth c H11 L12 0 0 Q (F0 m 5 ls13 [])) (fun z8 o7 hz18 hc5 he6 => ?_) _ _ ho38 s.heap [] ls3 hP hS (lv_sub hl4 [2, 3, 1, 0] rfl)
  obtain ⟨y9, x10⟩ := z8
  intro H11 L12 ls13 hP14 hS15 hl16
  have hf17 : fm_T_sumOfRanks_B5 p0 J0 y9 x10 = some o7 := hz18
  unfold fm_T_sumOfRanks_B5 at hf17
  refine lv_iload hx hb d_T_sumOfRanks_5 (lv_at hl16 3 rfl) ?_
  refine lv_bipush (v := 16) hx hb d_T_sumOfRanks_7 (by decide) ?_
  refine lv_icmp_gt (tgt := 39) hx hb d_T_sumOfRanks_9 rfl (fun h19 => ?_) (fun h19 => ?_)
  · have hf20 := ifp hf17 h19
    cases hf20
    have e22 := he6 (by show (1 : Nat) ≠ 0; decide)
    cases e22
    exact kx5_1 H11 L12 ls13 hP14 hS15 (lv_sub hl16 [2] rfl)
  · have hf21 := ifn hf17 h19
    refine lv_lload_n hx hb d_T_sumOfRanks_12 rfl (lv_at hl16 2 rfl) ?_
    refine lv_iload hx hb d_T_sumOfRanks_13 (lv_at hl16 3 rfl) ?_
    refine lv_i2l hx hb d_T_sumOfRanks_15 rfl ?_
    refine lv_aload_n hx hb d_T_sumOfRanks_16 rfl (lv_at hl16 0 rfl) ?_
    refine va_get (D := D) (ci := 1) (v := .ref (ad 7)) (C := R_T) (T := F_T) (N := 4) hx hb hts (fun w h => List.mem_cons_of_mem _ (uw_T w h)) hown hK hP14 6 rfl rfl 2 (by decide) (hts _ (List.mem_cons_of_mem _ tb_489)) (fun _ h => h) rfl d_T_sumOfRanks_17 ?_
    refine lv_iload_n hx hb d_T_sumOfRanks_20 rfl (lv_at hl16 1 rfl) ?_
    refine lv_bipush (v := 16) hx hb d_T_sumOfRanks_21 (by decide) ?_
    refine lv_imul hx hb d_T_sumOfRanks_23 ?_
    refine lv_iload hx hb d_T_sumOfRanks_24 (lv_at hl16 3 rfl) ?_
    refine lv_iadd hx hb d_T_sumOfRanks_26 ?_
    refine lv_iconst (v := 1) hx hb d_T_sumOfRanks_27 (by decide) ?_
    refine lv_isub hx hb d_T_sumOfRanks_28 ?_
    obtain ⟨hg23, hf24⟩ := grd_ex hf21
    refine va_lald hx hb hK hP14 7 3 rfl rfl (inB_in hg23) d_T_sumOfRanks_29 ?_
    refine lv_lmul hx hb d_T_sumOfRanks_30 ?_
    refine lv_ladd hx hb d_T_sumOfRanks_31 ?_
    obtain ⟨y25, e26, hf27⟩ := bnd_ex hf24
    refine jd_tnl e26 ?_
    refine lv_lstore_n hx hb d_T_sumOfRanks_32 rfl hl16 (by decide) (lv' := [(2, .long y25), (0, .ref (ad 6)), (1, .int p0), (4, .int x10)]) rfl (fun ls28 hl29 => ?_)
    obtain ⟨x30, e31, hf32⟩ := bnd_ex hf27
    refine lv_iinc hx hb d_T_sumOfRanks_33 hl29 (k := 3) rfl (v := x30) (by rw [e31]; rfl) (by decide) (lv' := [(4, .int x30), (2, .long y25), (0, .ref (ad 6)), (1, .int p0)]) rfl (fun ls33 hl34 => ?_)
    refine lv_goto (tgt := 5) hx hb d_T_sumOfRanks_36 rfl ?_
    cases hf32
    exact hc5 rfl H11 L12 ls33 hP14 hS15 (lv_sub hl34 [2, 3, 1, 0] rfl)
theorem d_T_isOpen_0 : decode b_T_isOpen 0 = .ok (.aload_n 0, 1) := by decide +kernel
theorem d_T_isOpen_1 : decode b_T_isOpen 1 = .ok (.iload_n 1, 1) := by decide +kernel
theorem d_T_isOpen_2 : decode b_T_isOpen 2 = .ok (.invokevirtual 32, 3) := by decide +kernel
theorem d_T_isOpen_5 : decode b_T_isOpen 5 = .ok (.ifCond .eq 33, 3) := by decide +kernel
theorem d_T_isOpen_8 : decode b_T_isOpen 8 = .ok (.aload_n 0, 1) := by decide +kernel
theorem d_T_isOpen_9 : decode b_T_isOpen 9 = .ok (.iload_n 2, 1) := by decide +kernel
theorem d_T_isOpen_10 : decode b_T_isOpen 10 = .ok (.invokevirtual 32, 3) := by decide +kernel
theorem d_T_isOpen_13 : decode b_T_isOpen 13 = .ok (.ifCond .eq 25, 3) := by decide +kernel
theorem d_T_isOpen_16 : decode b_T_isOpen 16 = .ok (.aload_n 0, 1) := by decide +kernel
theorem d_T_isOpen_17 : decode b_T_isOpen 17 = .ok (.iload_n 1, 1) := by decide +kernel
theorem d_T_isOpen_18 : decode b_T_isOpen 18 = .ok (.iload_n 2, 1) := by decide +kernel
theorem d_T_isOpen_19 : decode b_T_isOpen 19 = .ok (.invokevirtual 48, 3) := by decide +kernel
theorem d_T_isOpen_22 : decode b_T_isOpen 22 = .ok (.ifCond .ne 16, 3) := by decide +kernel
theorem d_T_isOpen_25 : decode b_T_isOpen 25 = .ok (.aload_n 0, 1) := by decide +kernel
theorem d_T_isOpen_26 : decode b_T_isOpen 26 = .ok (.iload_n 2, 1) := by decide +kernel
theorem d_T_isOpen_27 : decode b_T_isOpen 27 = .ok (.iload_n 1, 1) := by decide +kernel
theorem d_T_isOpen_28 : decode b_T_isOpen 28 = .ok (.invokevirtual 48, 3) := by decide +kernel
theorem d_T_isOpen_31 : decode b_T_isOpen 31 = .ok (.ifCond .ne 7, 3) := by decide +kernel
theorem d_T_isOpen_34 : decode b_T_isOpen 34 = .ok (.iconst 1, 1) := by decide +kernel
theorem d_T_isOpen_35 : decode b_T_isOpen 35 = .ok (.goto 4, 3) := by decide +kernel
theorem d_T_isOpen_38 : decode b_T_isOpen 38 = .ok (.iconst 0, 1) := by decide +kernel
theorem d_T_isOpen_39 : decode b_T_isOpen 39 = .ok (.ireturn, 1) := by decide +kernel
def fm_T_isOpen (p1 : Int32) (p2 : Int32) (I0 : IS) : Option (Int32) :=
  ob1 (fm_H_has p1 I0) (fun x1 => if x1 = 0 then some (0 : Int32) else ob1 (fm_H_has p2 I0) (fun x11 => if x11 = 0 then some (0 : Int32) else ob1 (fm_H_isAbove p1 p2 I0) (fun x21 => if x21 = 0 then ob1 (fm_H_isAbove p2 p1 I0) (fun x31 => if x31 = 0 then some (1 : Int32) else some (0 : Int32)) else some (0 : Int32))))
set_option maxHeartbeats 4000000 in
set_option maxRecDepth 100000 in
theorem cm_T_isOpen (l : Launch) (D : va_G) (ca : Nat → ClassId) (ad : Nat → Nat) (hs : Nat → Option Nat) {p1 : Int32} {p2 : Int32} {I0 : IS} {J0 : JS} {r : Int32} (hf : fm_T_isOpen p1 p2 I0 = some r) : CtI l y_T_isOpen (Cond.code y_T_isOpen b_T_isOpen 3 (some .boolean) :: TB) { frames := 3, cells := 0, slots := 0, locals := 64 } [.ref (ad 0), .int p1, .int p2] D cls_all (tysC ca) NN (wC ca ad hs I0 J0) (wC ca ad hs I0 J0) r := by
  refine jd_metZ (cc := b_T_isOpen) (by decide) rfl (Nat.le_of_ble_eq_true rfl) (lv := [(0, .ref (ad 0)), (1, .int p1), (2, .int p2)]) rfl ?_
  intro p e R s m args below meth c A Q ls cx hR hK hN hD0 hA hP hS hl hend
  have hx := cx.1
  have hb := cx.2.1
  have hml := cx.2.2.1
  have hown := cx.2.2.2.1
  have hts := cx.2.2.2.2
  have hD : ∀ I J, va_D A (wC ca ad hs I J) := fun I J => jd_Dc hD0 rfl
  unfold fm_T_isOpen at hf
  refine lv_aload_n hx hb d_T_isOpen_0 rfl (lv_at hl 0 rfl) ?_
  refine lv_iload_n hx hb d_T_isOpen_1 rfl (lv_at hl 1 rfl) ?_
  obtain ⟨x1, hc2, hf3⟩ := ob1_ex hf
  refine jd_ci (va_runV (As := [.int p1]) (rest := []) cx (cm_H_has l D ca ad hs hc2 s.heap.size) (cwV 1 hts (jd_gV tb_295 tb_128 tb_129 tb_52 tb_130) rfl rfl rfl ⟨rfl, by decide, by decide, rfl⟩ (by rw [hR]; decide)) ⟨jd_blind nWc, (va_recv hK hP (ci := 0) (q0 := 0) rfl rfl), (jd_pre (av := [.ref (ad 0), .int p1]) hP hK (hD I0 J0) (fun U h => nWm h hN))⟩ rfl rfl hl.1 rfl (lv_room (Nat.le_of_ble_eq_true rfl)) d_T_isOpen_2 ⟨Nat.zero_le _, Nat.zero_le _⟩) hS (hD I0 J0) hA (fun H4 L5 hP6 hS7 => ?_)
  refine lv_if_eq (tgt := 38) hx hb d_T_isOpen_5 rfl (fun h8 => ?_) (fun h8 => ?_)
  · have hf9 := ifp hf3 h8
    refine lv_iconst (v := 0) hx hb d_T_isOpen_38 (by decide) ?_
    cases hf9
    exact hend H4 L5 39 ls (show narrow .boolean (.int (0 : Int32)) = .int (0 : Int32) from rfl) hP6 hS7 d_T_isOpen_39
  · have hf10 := ifn hf3 h8
    refine lv_aload_n hx hb d_T_isOpen_8 rfl (lv_at hl 0 rfl) ?_
    refine lv_iload_n hx hb d_T_isOpen_9 rfl (lv_at hl 2 rfl) ?_
    obtain ⟨x11, hc12, hf13⟩ := ob1_ex hf10
    refine jd_ci (va_runV (As := [.int p2]) (rest := []) cx (cm_H_has l D ca ad hs hc12 H4.size) (cwV 1 hts (jd_gV tb_295 tb_128 tb_129 tb_52 tb_130) rfl rfl rfl ⟨rfl, by decide, by decide, rfl⟩ (by rw [hR]; decide)) ⟨jd_blind nWc, (va_recv hK hP6 (ci := 0) (q0 := 0) rfl rfl), (jd_pre (av := [.ref (ad 0), .int p2]) hP6 hK (hD I0 J0) (fun U h => nWm h hN))⟩ rfl rfl hl.1 rfl (lv_room (Nat.le_of_ble_eq_true rfl)) d_T_isOpen_10 ⟨Nat.zero_le _, Nat.zero_le _⟩) hS7 (hD I0 J0) hA (fun H14 L15 hP16 hS17 => ?_)
    refine lv_if_eq (tgt := 38) hx hb d_T_isOpen_13 rfl (fun h18 => ?_) (fun h18 => ?_)
    · have hf19 := ifp hf13 h18
      refine lv_iconst (v := 0) hx hb d_T_isOpen_38 (by decide) ?_
      cases hf19
      exact hend H14 L15 39 ls (show narrow .boolean (.int (0 : Int32)) = .int (0 : Int32) from rfl) hP16 hS17 d_T_isOpen_39
    · have hf20 := ifn hf13 h18
      refine lv_aload_n hx hb d_T_isOpen_16 rfl (lv_at hl 0 rfl) ?_
      refine lv_iload_n hx hb d_T_isOpen_17 rfl (lv_at hl 1 rfl) ?_
      refine lv_iload_n hx hb d_T_isOpen_18 rfl (lv_at hl 2 rfl) ?_
      obtain ⟨x21, hc22, hf23⟩ := ob1_ex hf20
      refine jd_ci (va_runV (As := [.int p1, .int p2]) (rest := []) cx (cm_H_isAbove l D ca ad hs hc22 H14.size) (cwV 2 hts (jd_gV tb_355 tb_134 tb_135 tb_52 tb_136) rfl rfl rfl ⟨rfl, by decide, by decide, rfl⟩ (by rw [hR]; decide)) ⟨jd_blind nWc, (va_recv hK hP16 (ci := 0) (q0 := 0) rfl rfl), (jd_pre (av := [.ref (ad 0), .int p1, .int p2]) hP16 hK (hD I0 J0) (fun U h => nWm h hN))⟩ rfl rfl hl.1 rfl (lv_room (Nat.le_of_ble_eq_true rfl)) d_T_isOpen_19 ⟨Nat.zero_le _, Nat.zero_le _⟩) hS17 (hD I0 J0) hA (fun H24 L25 hP26 hS27 => ?_)
      refine lv_if_ne (tgt := 38) hx hb d_T_isOpen_22 rfl (fun h28 => ?_) (fun h28 => ?_)
      · have hf29 := ifn hf23 h28
        refine lv_iconst (v := 0) hx hb d_T_isOpen_38 (by decide) ?_
        cases hf29
        exact hend H24 L25 39 ls (show narrow .boolean (.int (0 : Int32)) = .int (0 : Int32) from rfl) hP26 hS27 d_T_isOpen_39
      · have hf30 := ifp hf23 h28
        refine lv_aload_n hx hb d_T_isOpen_25 rfl (lv_at hl 0 rfl) ?_
        refine lv_iload_n hx hb d_T_isOpen_26 rfl (lv_at hl 2 rfl) ?_
        refine lv_iload_n hx hb d_T_isOpen_27 rfl (lv_at hl 1 rfl) ?_
        obtain ⟨x31, hc32, hf33⟩ := ob1_ex hf30
        refine jd_ci (va_runV (As := [.int p2, .int p1]) (rest := []) cx (cm_H_isAbove l D ca ad hs hc32 H24.size) (cwV 2 hts (jd_gV tb_355 tb_134 tb_135 tb_52 tb_136) rfl rfl rfl ⟨rfl, by decide, by decide, rfl⟩ (by rw [hR]; decide)) ⟨jd_blind nWc, (va_recv hK hP26 (ci := 0) (q0 := 0) rfl rfl), (jd_pre (av := [.ref (ad 0), .int p2, .int p1]) hP26 hK (hD I0 J0) (fun U h => nWm h hN))⟩ rfl rfl hl.1 rfl (lv_room (Nat.le_of_ble_eq_true rfl)) d_T_isOpen_28 ⟨Nat.zero_le _, Nat.zero_le _⟩) hS27 (hD I0 J0) hA (fun H34 L35 hP36 hS37 => ?_)
        refine lv_if_ne (tgt := 38) hx hb d_T_isOpen_31 rfl (fun h38 => ?_) (fun h38 => ?_)
        · have hf39 := ifn hf33 h38
          refine lv_iconst (v := 0) hx hb d_T_isOpen_38 (by decide) ?_
          cases hf39
          exact hend H34 L35 39 ls (show narrow .boolean (.int (0 : Int32)) = .int (0 : Int32) from rfl) hP36 hS37 d_T_isOpen_39
        · have hf40 := ifp hf33 h38
          refine lv_iconst (v := 1) hx hb d_T_isOpen_34 (by decide) ?_
          refine lv_goto (tgt := 39) hx hb d_T_isOpen_35 rfl ?_
          cases hf40
          exact hend H34 L35 39 ls (show narrow .boolean (.int (1 : Int32)) = .int (1 : Int32) from rfl) hP36 hS37 d_T_isOpen_39
theorem d_T_evenestPair_0 : decode b_T_evenestPair 0 = .ok (.iconst (-1), 1) := by decide +kernel
theorem d_T_evenestPair_1 : decode b_T_evenestPair 1 = .ok (.istore_n 2, 1) := by decide +kernel
theorem d_T_evenestPair_2 : decode b_T_evenestPair 2 = .ok (.lconst 0, 1) := by decide +kernel
theorem d_T_evenestPair_3 : decode b_T_evenestPair 3 = .ok (.lstore_n 3, 1) := by decide +kernel
theorem d_T_evenestPair_4 : decode b_T_evenestPair 4 = .ok (.iconst 0, 1) := by decide +kernel
theorem d_T_evenestPair_5 : decode b_T_evenestPair 5 = .ok (.istore 5, 2) := by decide +kernel
theorem d_T_evenestPair_7 : decode b_T_evenestPair 7 = .ok (.iload 5, 2) := by decide +kernel
theorem d_T_evenestPair_9 : decode b_T_evenestPair 9 = .ok (.bipush 16, 2) := by decide +kernel
theorem d_T_evenestPair_11 : decode b_T_evenestPair 11 = .ok (.if_icmp .ge 93, 3) := by decide +kernel
theorem d_T_evenestPair_14 : decode b_T_evenestPair 14 = .ok (.iload 5, 2) := by decide +kernel
theorem d_T_evenestPair_16 : decode b_T_evenestPair 16 = .ok (.iconst 1, 1) := by decide +kernel
theorem d_T_evenestPair_17 : decode b_T_evenestPair 17 = .ok (.iadd, 1) := by decide +kernel
theorem d_T_evenestPair_18 : decode b_T_evenestPair 18 = .ok (.istore 6, 2) := by decide +kernel
theorem d_T_evenestPair_20 : decode b_T_evenestPair 20 = .ok (.iload 6, 2) := by decide +kernel
theorem d_T_evenestPair_22 : decode b_T_evenestPair 22 = .ok (.bipush 16, 2) := by decide +kernel
theorem d_T_evenestPair_24 : decode b_T_evenestPair 24 = .ok (.if_icmp .ge 74, 3) := by decide +kernel
theorem d_T_evenestPair_27 : decode b_T_evenestPair 27 = .ok (.iload 5, 2) := by decide +kernel
theorem d_T_evenestPair_29 : decode b_T_evenestPair 29 = .ok (.bipush 16, 2) := by decide +kernel
theorem d_T_evenestPair_31 : decode b_T_evenestPair 31 = .ok (.imul, 1) := by decide +kernel
theorem d_T_evenestPair_32 : decode b_T_evenestPair 32 = .ok (.iload 6, 2) := by decide +kernel
theorem d_T_evenestPair_34 : decode b_T_evenestPair 34 = .ok (.iadd, 1) := by decide +kernel
theorem d_T_evenestPair_35 : decode b_T_evenestPair 35 = .ok (.istore 7, 2) := by decide +kernel
theorem d_T_evenestPair_37 : decode b_T_evenestPair 37 = .ok (.aload_n 0, 1) := by decide +kernel
theorem d_T_evenestPair_38 : decode b_T_evenestPair 38 = .ok (.getfield 15, 3) := by decide +kernel
theorem d_T_evenestPair_41 : decode b_T_evenestPair 41 = .ok (.iload 7, 2) := by decide +kernel
theorem d_T_evenestPair_43 : decode b_T_evenestPair 43 = .ok (.laload, 1) := by decide +kernel
theorem d_T_evenestPair_44 : decode b_T_evenestPair 44 = .ok (.aload_n 0, 1) := by decide +kernel
theorem d_T_evenestPair_45 : decode b_T_evenestPair 45 = .ok (.getfield 15, 3) := by decide +kernel
theorem d_T_evenestPair_48 : decode b_T_evenestPair 48 = .ok (.iload 6, 2) := by decide +kernel
theorem d_T_evenestPair_50 : decode b_T_evenestPair 50 = .ok (.bipush 16, 2) := by decide +kernel
theorem d_T_evenestPair_52 : decode b_T_evenestPair 52 = .ok (.imul, 1) := by decide +kernel
theorem d_T_evenestPair_53 : decode b_T_evenestPair 53 = .ok (.iload 5, 2) := by decide +kernel
theorem d_T_evenestPair_55 : decode b_T_evenestPair 55 = .ok (.iadd, 1) := by decide +kernel
theorem d_T_evenestPair_56 : decode b_T_evenestPair 56 = .ok (.laload, 1) := by decide +kernel
theorem d_T_evenestPair_57 : decode b_T_evenestPair 57 = .ok (.lsub, 1) := by decide +kernel
theorem d_T_evenestPair_58 : decode b_T_evenestPair 58 = .ok (.invokestatic 38, 3) := by decide +kernel
theorem d_T_evenestPair_61 : decode b_T_evenestPair 61 = .ok (.lstore 8, 2) := by decide +kernel
theorem d_T_evenestPair_63 : decode b_T_evenestPair 63 = .ok (.aload_n 1, 1) := by decide +kernel
theorem d_T_evenestPair_64 : decode b_T_evenestPair 64 = .ok (.iload 5, 2) := by decide +kernel
theorem d_T_evenestPair_66 : decode b_T_evenestPair 66 = .ok (.iload 6, 2) := by decide +kernel
theorem d_T_evenestPair_68 : decode b_T_evenestPair 68 = .ok (.invokestatic 44, 3) := by decide +kernel
theorem d_T_evenestPair_71 : decode b_T_evenestPair 71 = .ok (.ifCond .eq 21, 3) := by decide +kernel
theorem d_T_evenestPair_74 : decode b_T_evenestPair 74 = .ok (.iload_n 2, 1) := by decide +kernel
theorem d_T_evenestPair_75 : decode b_T_evenestPair 75 = .ok (.iconst (-1), 1) := by decide +kernel
theorem d_T_evenestPair_76 : decode b_T_evenestPair 76 = .ok (.if_icmp .eq 10, 3) := by decide +kernel
theorem d_T_evenestPair_79 : decode b_T_evenestPair 79 = .ok (.lload 8, 2) := by decide +kernel
theorem d_T_evenestPair_81 : decode b_T_evenestPair 81 = .ok (.lload_n 3, 1) := by decide +kernel
theorem d_T_evenestPair_82 : decode b_T_evenestPair 82 = .ok (.lcmp, 1) := by decide +kernel
theorem d_T_evenestPair_83 : decode b_T_evenestPair 83 = .ok (.ifCond .ge 9, 3) := by decide +kernel
theorem d_T_evenestPair_86 : decode b_T_evenestPair 86 = .ok (.iload 7, 2) := by decide +kernel
theorem d_T_evenestPair_88 : decode b_T_evenestPair 88 = .ok (.istore_n 2, 1) := by decide +kernel
theorem d_T_evenestPair_89 : decode b_T_evenestPair 89 = .ok (.lload 8, 2) := by decide +kernel
theorem d_T_evenestPair_91 : decode b_T_evenestPair 91 = .ok (.lstore_n 3, 1) := by decide +kernel
theorem d_T_evenestPair_92 : decode b_T_evenestPair 92 = .ok (.iinc 6 1, 3) := by decide +kernel
theorem d_T_evenestPair_95 : decode b_T_evenestPair 95 = .ok (.goto (-75), 3) := by decide +kernel
theorem d_T_evenestPair_98 : decode b_T_evenestPair 98 = .ok (.iinc 5 1, 3) := by decide +kernel
theorem d_T_evenestPair_101 : decode b_T_evenestPair 101 = .ok (.goto (-94), 3) := by decide +kernel
theorem d_T_evenestPair_104 : decode b_T_evenestPair 104 = .ok (.iload_n 2, 1) := by decide +kernel
theorem d_T_evenestPair_105 : decode b_T_evenestPair 105 = .ok (.ireturn, 1) := by decide +kernel
def fm_T_evenestPair_B20 (I0 : IS) (J0 : JS) (x13 : Int32) (x35 : Int32) (y36 : Int64) (x37 : Int32) : Option (Nat × Int32 × Int64 × Int32) :=
  if (16 : Int32) ≤ x37 then some (1, x35, y36, x37) else bnd ((x13 * (16 : Int32)) + x37) (fun x50 => grd (inB x50 256) (grd (inB ((x37 * (16 : Int32)) + x13) 256) (bnd ((if 0 < ((J0 2 x50.toNatClampNeg) - (J0 2 ((x37 * (16 : Int32)) + x13).toNatClampNeg)) then ((J0 2 x50.toNatClampNeg) - (J0 2 ((x37 * (16 : Int32)) + x13).toNatClampNeg)) else -((J0 2 x50.toNatClampNeg) - (J0 2 ((x37 * (16 : Int32)) + x13).toNatClampNeg)))) (fun y59 => ob1 (fm_T_isOpen x13 x37 I0) (fun x64 => if x64 = 0 then bnd (x37 + (1 : Int32)) (fun x74 => some (0, x35, y36, x74)) else if x35 = (-1 : Int32) then bnd (x37 + (1 : Int32)) (fun x86 => some (0, x50, y59, x86)) else if 0 ≤ (lg_cmp y59 y36) then bnd (x37 + (1 : Int32)) (fun x94 => some (0, x35, y36, x94)) else bnd (x37 + (1 : Int32)) (fun x103 => some (0, x50, y59, x103)))))))
def fm_T_evenestPair_B7 (I0 : IS) (J0 : JS) (x11 : Int32) (y12 : Int64) (x13 : Int32) : Option (Nat × Int32 × Int64 × Int32) :=
  if (16 : Int32) ≤ x13 then some (1, x11, y12, x13) else bnd (x13 + (1 : Int32)) (fun x26 => ob4 (iter (fun z : Int32 × Int64 × Int32 => fm_T_evenestPair_B20 I0 J0 x13 z.1 z.2.1 z.2.2) FU (x11, y12, x26)) (fun _ x109 y110 x111 => bnd (x13 + (1 : Int32)) (fun x120 => some (0, x109, y110, x120))))
def fm_T_evenestPair (I0 : IS) (J0 : JS) : Option (Int32) :=
  ob4 (iter (fun z : Int32 × Int64 × Int32 => fm_T_evenestPair_B7 I0 J0 z.1 z.2.1 z.2.2) FU ((-1 : Int32), (0 : Int64), (0 : Int32))) (fun _ x126 y127 x128 => some x126)
set_option maxHeartbeats 4000000 in
set_option maxRecDepth 100000 in
theorem cm_T_evenestPair (l : Launch) (D : va_G) (ca : Nat → ClassId) (ad : Nat → Nat) (hs : Nat → Option Nat) {I0 : IS} {J0 : JS} {r : Int32} (hf : fm_T_evenestPair I0 J0 = some r) : CtI l y_T_evenestPair (Cond.code y_T_evenestPair b_T_evenestPair 10 (some .int) :: TB) { frames := 4, cells := 0, slots := 0, locals := 86 } [.ref (ad 6), .ref (ad 0)] D cls_all (tysC ca) NN (wC ca ad hs I0 J0) (wC ca ad hs I0 J0) r := by
  refine jd_metI (cc := b_T_evenestPair) (by decide) rfl (Nat.le_of_ble_eq_true rfl) (lv := [(0, .ref (ad 6)), (1, .ref (ad 0))]) rfl ?_
  intro p e R s m args below meth c A Q ls cx hR hK hN hD0 hA hP hS hl hend
  have hx := cx.1
  have hb := cx.2.1
  have hml := cx.2.2.1
  have hown := cx.2.2.2.1
  have hts := cx.2.2.2.2
  have hD : ∀ I J, va_D A (wC ca ad hs I J) := fun I J => jd_Dc hD0 rfl
  unfold fm_T_evenestPair at hf
  refine lv_iconst (v := -1) hx hb d_T_evenestPair_0 (by decide) ?_
  refine lv_istore_n hx hb d_T_evenestPair_1 rfl hl (by decide) (lv' := [(2, .int (-1 : Int32)), (0, .ref (ad 6)), (1, .ref (ad 0))]) rfl (fun ls1 hl2 => ?_)
  refine lv_lconst (v := 0) hx hb d_T_evenestPair_2 (by decide) ?_
  refine lv_lstore_n hx hb d_T_evenestPair_3 rfl hl2 (by decide) (lv' := [(3, .long (0 : Int64)), (2, .int (-1 : Int32)), (0, .ref (ad 6)), (1, .ref (ad 0))]) rfl (fun ls3 hl4 => ?_)
  refine lv_iconst (v := 0) hx hb d_T_evenestPair_4 (by decide) ?_
  refine lv_istore hx hb d_T_evenestPair_5 hl4 (by decide) (lv' := [(5, .int (0 : Int32)), (3, .long (0 : Int64)), (2, .int (-1 : Int32)), (0, .ref (ad 6)), (1, .ref (ad 0))]) rfl (fun ls5 hl6 => ?_)
  obtain ⟨tg125, x126, y127, x128, ho129, hf130⟩ := ob4_ex hf
  have kx7_1 : ∀ (H131 : Heap) (L132 : List Loc) (ls133 : Array Slot), va_P D cls_all (wC ca ad hs I0 J0) H131 → va_S A s.heap H131 L132 → lv_has ls133 10 [(2, .int x126)] → W p l e R s m args below meth c H131 L132 0 0 Q (F0 m 104 ls133 []) := by
    intro H131 L132 ls133 hP134 hS135 hl136
    refine lv_iload_n hx hb d_T_evenestPair_104 rfl (lv_at hl136 0 rfl) ?_
    cases hf130
    exact hend H131 L132 105 ls133 hP134 hS135 d_T_evenestPair_105
  refine iter_ind (C := fun z : Int32 × Int64 × Int32 => ∀ (H14 : Heap) (L15 : List Loc) (ls16 : Array Slot), va_P D cls_all (wC ca ad hs I0 J0) H14 → va_S A s.heap H14 L15 → lv_has ls16 10 [(0, .ref (ad 6)), (1, .ref (ad 0)), (2, .int z.1), (3, .long z.2.1), (5, .int z.2.2)] → W p l e R s m args below meth c H14 L15 0 0 Q (F0 m 7 ls16 [])) (fun z10 o9 hz21 hc7 he8 => ?_) _ _ ho129 s.heap [] ls5 hP hS (lv_sub hl6 [3, 4, 2, 1, 0] rfl)
  obtain ⟨x11, y12, x13⟩ := z10
  intro H14 L15 ls16 hP17 hS18 hl19
  have hf20 : fm_T_evenestPair_B7 I0 J0 x11 y12 x13 = some o9 := hz21
  unfold fm_T_evenestPair_B7 at hf20
  refine lv_iload hx hb d_T_evenestPair_7 (lv_at hl19 4 rfl) ?_
  refine lv_bipush (v := 16) hx hb d_T_evenestPair_9 (by decide) ?_
  refine lv_icmp_ge (tgt := 104) hx hb d_T_evenestPair_11 rfl (fun h22 => ?_) (fun h22 => ?_)
  · have hf23 := ifp hf20 h22
    cases hf23
    have e25 := he8 (by show (1 : Nat) ≠ 0; decide)
    cases e25
    exact kx7_1 H14 L15 ls16 hP17 hS18 (lv_sub hl19 [2] rfl)
  · have hf24 := ifn hf20 h22
    refine lv_iload hx hb d_T_evenestPair_14 (lv_at hl19 4 rfl) ?_
    refine lv_iconst (v := 1) hx hb d_T_evenestPair_16 (by decide) ?_
    refine lv_iadd hx hb d_T_evenestPair_17 ?_
    obtain ⟨x26, e27, hf28⟩ := bnd_ex hf24
    refine jd_tni e27 ?_
    refine lv_istore hx hb d_T_evenestPair_18 hl19 (by decide) (lv' := [(6, .int x26), (0, .ref (ad 6)), (1, .ref (ad 0)), (2, .int x11), (3, .long y12), (5, .int x13)]) rfl (fun ls29 hl30 => ?_)
    obtain ⟨tg108, x109, y110, x111, ho112, hf113⟩ := ob4_ex hf28
    have kx20_1 : ∀ (H114 : Heap) (L115 : List Loc) (ls116 : Array Slot), va_P D cls_all (wC ca ad hs I0 J0) H114 → va_S A s.heap H114 L115 → lv_has ls116 10 [(0, .ref (ad 6)), (1, .ref (ad 0)), (2, .int x109), (3, .long y110), (5, .int x13)] → W p l e R s m args below meth c H114 L115 0 0 Q (F0 m 98 ls116 []) := by
      intro H114 L115 ls116 hP117 hS118 hl119
      obtain ⟨x120, e121, hf122⟩ := bnd_ex hf113
      refine lv_iinc hx hb d_T_evenestPair_98 hl119 (k := 4) rfl (v := x120) (by rw [e121]; rfl) (by decide) (lv' := [(5, .int x120), (0, .ref (ad 6)), (1, .ref (ad 0)), (2, .int x109), (3, .long y110)]) rfl (fun ls123 hl124 => ?_)
      refine lv_goto (tgt := 7) hx hb d_T_evenestPair_101 rfl ?_
      cases hf122
      exact hc7 rfl H114 L115 ls123 hP117 hS118 (lv_sub hl124 [1, 2, 3, 4, 0] rfl)
    refine iter_ind (C := fun z : Int32 × Int64 × Int32 => ∀ (H38 : Heap) (L39 : List Loc) (ls40 : Array Slot), va_P D cls_all (wC ca ad hs I0 J0) H38 → va_S A s.heap H38 L39 → lv_has ls40 10 [(0, .ref (ad 6)), (1, .ref (ad 0)), (2, .int z.1), (3, .long z.2.1), (5, .int x13), (6, .int z.2.2)] → W p l e R s m args below meth c H38 L39 0 0 Q (F0 m 20 ls40 [])) (fun z34 o33 hz45 hc31 he32 => ?_) _ _ ho112 H14 L15 ls29 hP17 hS18 (lv_sub hl30 [1, 2, 3, 4, 5, 0] rfl)
    obtain ⟨x35, y36, x37⟩ := z34
    intro H38 L39 ls40 hP41 hS42 hl43
    have hf44 : fm_T_evenestPair_B20 I0 J0 x13 x35 y36 x37 = some o33 := hz45
    unfold fm_T_evenestPair_B20 at hf44
    refine lv_iload hx hb d_T_evenestPair_20 (lv_at hl43 5 rfl) ?_
    refine lv_bipush (v := 16) hx hb d_T_evenestPair_22 (by decide) ?_
    refine lv_icmp_ge (tgt := 98) hx hb d_T_evenestPair_24 rfl (fun h46 => ?_) (fun h46 => ?_)
    · have hf47 := ifp hf44 h46
      cases hf47
      have e49 := he32 (by show (1 : Nat) ≠ 0; decide)
      cases e49
      exact kx20_1 H38 L39 ls40 hP41 hS42 (lv_sub hl43 [0, 1, 2, 3, 4] rfl)
    · have hf48 := ifn hf44 h46
      refine lv_iload hx hb d_T_evenestPair_27 (lv_at hl43 4 rfl) ?_
      refine lv_bipush (v := 16) hx hb d_T_evenestPair_29 (by decide) ?_
      refine lv_imul hx hb d_T_evenestPair_31 ?_
      refine lv_iload hx hb d_T_evenestPair_32 (lv_at hl43 5 rfl) ?_
      refine lv_iadd hx hb d_T_evenestPair_34 ?_
      obtain ⟨x50, e51, hf52⟩ := bnd_ex hf48
      refine jd_tni e51 ?_
      refine lv_istore hx hb d_T_evenestPair_35 hl43 (by decide) (lv' := [(7, .int x50), (0, .ref (ad 6)), (1, .ref (ad 0)), (2, .int x35), (3, .long y36), (5, .int x13), (6, .int x37)]) rfl (fun ls53 hl54 => ?_)
      refine lv_aload_n hx hb d_T_evenestPair_37 rfl (lv_at hl54 1 rfl) ?_
      refine va_get (D := D) (ci := 1) (v := .ref (ad 8)) (C := R_T) (T := F_T) (N := 4) hx hb hts (fun w h => List.mem_cons_of_mem _ (uw_T w h)) hown hK hP41 6 rfl rfl 3 (by decide) (hts _ (List.mem_cons_of_mem _ tb_492)) (fun _ h => h) rfl d_T_evenestPair_38 ?_
      refine lv_iload hx hb d_T_evenestPair_41 (lv_at hl54 0 rfl) ?_
      obtain ⟨hg55, hf56⟩ := grd_ex hf52
      refine va_lald hx hb hK hP41 8 3 rfl rfl (inB_in hg55) d_T_evenestPair_43 ?_
      refine lv_aload_n hx hb d_T_evenestPair_44 rfl (lv_at hl54 1 rfl) ?_
      refine va_get (D := D) (ci := 1) (v := .ref (ad 8)) (C := R_T) (T := F_T) (N := 4) hx hb hts (fun w h => List.mem_cons_of_mem _ (uw_T w h)) hown hK hP41 6 rfl rfl 3 (by decide) (hts _ (List.mem_cons_of_mem _ tb_492)) (fun _ h => h) rfl d_T_evenestPair_45 ?_
      refine lv_iload hx hb d_T_evenestPair_48 (lv_at hl54 6 rfl) ?_
      refine lv_bipush (v := 16) hx hb d_T_evenestPair_50 (by decide) ?_
      refine lv_imul hx hb d_T_evenestPair_52 ?_
      refine lv_iload hx hb d_T_evenestPair_53 (lv_at hl54 5 rfl) ?_
      refine lv_iadd hx hb d_T_evenestPair_55 ?_
      obtain ⟨hg57, hf58⟩ := grd_ex hf56
      refine va_lald hx hb hK hP41 8 3 rfl rfl (inB_in hg57) d_T_evenestPair_56 ?_
      refine lv_lsub hx hb d_T_evenestPair_57 ?_
      refine va_mabs_long hx hb (by rw [hml]; exact hl54.1.symm) hown (hts _ (List.mem_cons_of_mem _ tb_349)) (hts _ (List.mem_cons_of_mem _ tb_350)) (hts _ (List.mem_cons_of_mem _ tb_56)) (hts _ (List.mem_cons_of_mem _ tb_351)) (by rw [hR]; decide) (by rw [hR]; decide) (Nat.zero_le _) (Nat.zero_le _) d_T_evenestPair_58 ?_
      obtain ⟨y59, e60, hf61⟩ := bnd_ex hf58
      refine jd_tnl e60 ?_
      refine lv_lstore hx hb d_T_evenestPair_61 hl54 (by decide) (lv' := [(8, .long y59), (7, .int x50), (0, .ref (ad 6)), (1, .ref (ad 0)), (2, .int x35), (3, .long y36), (5, .int x13), (6, .int x37)]) rfl (fun ls62 hl63 => ?_)
      refine lv_aload_n hx hb d_T_evenestPair_63 rfl (lv_at hl63 3 rfl) ?_
      refine lv_iload hx hb d_T_evenestPair_64 (lv_at hl63 6 rfl) ?_
      refine lv_iload hx hb d_T_evenestPair_66 (lv_at hl63 7 rfl) ?_
      obtain ⟨x64, hc65, hf66⟩ := ob1_ex hf61
      refine jd_ci (va_runS (As := [.ref (ad 0), .int x13, .int x37]) (rest := []) cx (cm_T_isOpen l D ca ad hs hc65 H38.size) (va_cwS 3 hts (jd_gS2 tb_352 tb_353 tb_53 tb_354) rfl rfl rfl ⟨by decide, by decide, rfl⟩ (by rw [hR]; decide)) ⟨jd_blind nWc, (jd_pre (av := [.ref (ad 0), .int x13, .int x37]) hP41 hK (hD I0 J0) (fun U h => nWm h hN))⟩ rfl rfl hl63.1 rfl (lv_room (Nat.le_of_ble_eq_true rfl)) d_T_evenestPair_68 ⟨Nat.zero_le _, Nat.zero_le _⟩) hS42 (hD I0 J0) hA (fun H67 L68 hP69 hS70 => ?_)
      refine lv_if_eq (tgt := 92) hx hb d_T_evenestPair_71 rfl (fun h71 => ?_) (fun h71 => ?_)
      · have hf72 := ifp hf66 h71
        obtain ⟨x74, e75, hf76⟩ := bnd_ex hf72
        refine lv_iinc hx hb d_T_evenestPair_92 hl63 (k := 7) rfl (v := x74) (by rw [e75]; rfl) (by decide) (lv' := [(6, .int x74), (8, .long y59), (7, .int x50), (0, .ref (ad 6)), (1, .ref (ad 0)), (2, .int x35), (3, .long y36), (5, .int x13)]) rfl (fun ls77 hl78 => ?_)
        refine lv_goto (tgt := 20) hx hb d_T_evenestPair_95 rfl ?_
        cases hf76
        exact hc31 rfl H67 L68 ls77 hP69 hS70 (lv_sub hl78 [3, 4, 5, 6, 7, 0] rfl)
      · have hf73 := ifn hf66 h71
        refine lv_iload_n hx hb d_T_evenestPair_74 rfl (lv_at hl63 4 rfl) ?_
        refine lv_iconst (v := -1) hx hb d_T_evenestPair_75 (by decide) ?_
        refine lv_icmp_eq (tgt := 86) hx hb d_T_evenestPair_76 rfl (fun h79 => ?_) (fun h79 => ?_)
        · have hf80 := ifp hf73 h79
          refine lv_iload hx hb d_T_evenestPair_86 (lv_at hl63 1 rfl) ?_
          refine lv_istore_n hx hb d_T_evenestPair_88 rfl hl63 (by decide) (lv' := [(2, .int x50), (8, .long y59), (7, .int x50), (0, .ref (ad 6)), (1, .ref (ad 0)), (3, .long y36), (5, .int x13), (6, .int x37)]) rfl (fun ls82 hl83 => ?_)
          refine lv_lload hx hb d_T_evenestPair_89 (lv_at hl83 1 rfl) ?_
          refine lv_lstore_n hx hb d_T_evenestPair_91 rfl hl83 (by decide) (lv' := [(3, .long y59), (2, .int x50), (8, .long y59), (7, .int x50), (0, .ref (ad 6)), (1, .ref (ad 0)), (5, .int x13), (6, .int x37)]) rfl (fun ls84 hl85 => ?_)
          obtain ⟨x86, e87, hf88⟩ := bnd_ex hf80
          refine lv_iinc hx hb d_T_evenestPair_92 hl85 (k := 7) rfl (v := x86) (by rw [e87]; rfl) (by decide) (lv' := [(6, .int x86), (3, .long y59), (2, .int x50), (8, .long y59), (7, .int x50), (0, .ref (ad 6)), (1, .ref (ad 0)), (5, .int x13)]) rfl (fun ls89 hl90 => ?_)
          refine lv_goto (tgt := 20) hx hb d_T_evenestPair_95 rfl ?_
          cases hf88
          exact hc31 rfl H67 L68 ls89 hP69 hS70 (lv_sub hl90 [5, 6, 2, 1, 7, 0] rfl)
        · have hf81 := ifn hf73 h79
          refine lv_lload hx hb d_T_evenestPair_79 (lv_at hl63 0 rfl) ?_
          refine lv_lload_n hx hb d_T_evenestPair_81 rfl (lv_at hl63 5 rfl) ?_
          refine W.lcmp hx hb d_T_evenestPair_82 ?_
          refine lv_if_ge (tgt := 92) hx hb d_T_evenestPair_83 rfl (fun h91 => ?_) (fun h91 => ?_)
          · have hf92 := ifp hf81 h91
            obtain ⟨x94, e95, hf96⟩ := bnd_ex hf92
            refine lv_iinc hx hb d_T_evenestPair_92 hl63 (k := 7) rfl (v := x94) (by rw [e95]; rfl) (by decide) (lv' := [(6, .int x94), (8, .long y59), (7, .int x50), (0, .ref (ad 6)), (1, .ref (ad 0)), (2, .int x35), (3, .long y36), (5, .int x13)]) rfl (fun ls97 hl98 => ?_)
            refine lv_goto (tgt := 20) hx hb d_T_evenestPair_95 rfl ?_
            cases hf96
            exact hc31 rfl H67 L68 ls97 hP69 hS70 (lv_sub hl98 [3, 4, 5, 6, 7, 0] rfl)
          · have hf93 := ifn hf81 h91
            refine lv_iload hx hb d_T_evenestPair_86 (lv_at hl63 1 rfl) ?_
            refine lv_istore_n hx hb d_T_evenestPair_88 rfl hl63 (by decide) (lv' := [(2, .int x50), (8, .long y59), (7, .int x50), (0, .ref (ad 6)), (1, .ref (ad 0)), (3, .long y36), (5, .int x13), (6, .int x37)]) rfl (fun ls99 hl100 => ?_)
            refine lv_lload hx hb d_T_evenestPair_89 (lv_at hl100 1 rfl) ?_
            refine lv_lstore_n hx hb d_T_evenestPair_91 rfl hl100 (by decide) (lv' := [(3, .long y59), (2, .int x50), (8, .long y59), (7, .int x50), (0, .ref (ad 6)), (1, .ref (ad 0)), (5, .int x13), (6, .int x37)]) rfl (fun ls101 hl102 => ?_)
            obtain ⟨x103, e104, hf105⟩ := bnd_ex hf93
            refine lv_iinc hx hb d_T_evenestPair_92 hl102 (k := 7) rfl (v := x103) (by rw [e104]; rfl) (by decide) (lv' := [(6, .int x103), (3, .long y59), (2, .int x50), (8, .long y59), (7, .int x50), (0, .ref (ad 6)), (1, .ref (ad 0)), (5, .int x13)]) rfl (fun ls106 hl107 => ?_)
            refine lv_goto (tgt := 20) hx hb d_T_evenestPair_95 rfl ?_
            cases hf105
            exact hc31 rfl H67 L68 ls106 hP69 hS70 (lv_sub hl107 [5, 6, 2, 1, 7, 0] rfl)
theorem d_L_fillBehind_0 : decode b_L_fillBehind 0 = .ok (.iload_n 2, 1) := by decide +kernel
theorem d_L_fillBehind_1 : decode b_L_fillBehind 1 = .ok (.invokestatic 74, 3) := by decide +kernel
theorem d_L_fillBehind_4 : decode b_L_fillBehind 4 = .ok (.istore_n 3, 1) := by decide +kernel
theorem d_L_fillBehind_5 : decode b_L_fillBehind 5 = .ok (.aload_n 1, 1) := by decide +kernel
theorem d_L_fillBehind_6 : decode b_L_fillBehind 6 = .ok (.getfield 42, 3) := by decide +kernel
theorem d_L_fillBehind_9 : decode b_L_fillBehind 9 = .ok (.iload_n 2, 1) := by decide +kernel
theorem d_L_fillBehind_10 : decode b_L_fillBehind 10 = .ok (.iconst (-1), 1) := by decide +kernel
theorem d_L_fillBehind_11 : decode b_L_fillBehind 11 = .ok (.ixor, 1) := by decide +kernel
theorem d_L_fillBehind_12 : decode b_L_fillBehind 12 = .ok (.iand, 1) := by decide +kernel
theorem d_L_fillBehind_13 : decode b_L_fillBehind 13 = .ok (.istore 4, 2) := by decide +kernel
theorem d_L_fillBehind_15 : decode b_L_fillBehind 15 = .ok (.aload_n 0, 1) := by decide +kernel
theorem d_L_fillBehind_16 : decode b_L_fillBehind 16 = .ok (.iload 4, 2) := by decide +kernel
theorem d_L_fillBehind_18 : decode b_L_fillBehind 18 = .ok (.invokevirtual 80, 3) := by decide +kernel
theorem d_L_fillBehind_21 : decode b_L_fillBehind 21 = .ok (.istore 5, 2) := by decide +kernel
theorem d_L_fillBehind_23 : decode b_L_fillBehind 23 = .ok (.iconst 0, 1) := by decide +kernel
theorem d_L_fillBehind_24 : decode b_L_fillBehind 24 = .ok (.istore 6, 2) := by decide +kernel
theorem d_L_fillBehind_26 : decode b_L_fillBehind 26 = .ok (.iload 6, 2) := by decide +kernel
theorem d_L_fillBehind_28 : decode b_L_fillBehind 28 = .ok (.bipush 16, 2) := by decide +kernel
theorem d_L_fillBehind_30 : decode b_L_fillBehind 30 = .ok (.if_icmp .ge 72, 3) := by decide +kernel
theorem d_L_fillBehind_33 : decode b_L_fillBehind 33 = .ok (.iload 5, 2) := by decide +kernel
theorem d_L_fillBehind_35 : decode b_L_fillBehind 35 = .ok (.iload 6, 2) := by decide +kernel
theorem d_L_fillBehind_37 : decode b_L_fillBehind 37 = .ok (.ishr, 1) := by decide +kernel
theorem d_L_fillBehind_38 : decode b_L_fillBehind 38 = .ok (.iconst 1, 1) := by decide +kernel
theorem d_L_fillBehind_39 : decode b_L_fillBehind 39 = .ok (.iand, 1) := by decide +kernel
theorem d_L_fillBehind_40 : decode b_L_fillBehind 40 = .ok (.ifCond .eq 56, 3) := by decide +kernel
theorem d_L_fillBehind_43 : decode b_L_fillBehind 43 = .ok (.aload_n 0, 1) := by decide +kernel
theorem d_L_fillBehind_44 : decode b_L_fillBehind 44 = .ok (.getfield 10, 3) := by decide +kernel
theorem d_L_fillBehind_47 : decode b_L_fillBehind 47 = .ok (.iload_n 2, 1) := by decide +kernel
theorem d_L_fillBehind_48 : decode b_L_fillBehind 48 = .ok (.laload, 1) := by decide +kernel
theorem d_L_fillBehind_49 : decode b_L_fillBehind 49 = .ok (.aload_n 0, 1) := by decide +kernel
theorem d_L_fillBehind_50 : decode b_L_fillBehind 50 = .ok (.getfield 16, 3) := by decide +kernel
theorem d_L_fillBehind_53 : decode b_L_fillBehind 53 = .ok (.iload_n 2, 1) := by decide +kernel
theorem d_L_fillBehind_54 : decode b_L_fillBehind 54 = .ok (.iconst 1, 1) := by decide +kernel
theorem d_L_fillBehind_55 : decode b_L_fillBehind 55 = .ok (.iload 6, 2) := by decide +kernel
theorem d_L_fillBehind_57 : decode b_L_fillBehind 57 = .ok (.ishl, 1) := by decide +kernel
theorem d_L_fillBehind_58 : decode b_L_fillBehind 58 = .ok (.ior, 1) := by decide +kernel
theorem d_L_fillBehind_59 : decode b_L_fillBehind 59 = .ok (.laload, 1) := by decide +kernel
theorem d_L_fillBehind_60 : decode b_L_fillBehind 60 = .ok (.lmul, 1) := by decide +kernel
theorem d_L_fillBehind_61 : decode b_L_fillBehind 61 = .ok (.lstore 7, 2) := by decide +kernel
theorem d_L_fillBehind_63 : decode b_L_fillBehind 63 = .ok (.aload_n 1, 1) := by decide +kernel
theorem d_L_fillBehind_64 : decode b_L_fillBehind 64 = .ok (.getfield 54, 3) := by decide +kernel
theorem d_L_fillBehind_67 : decode b_L_fillBehind 67 = .ok (.getfield 83, 3) := by decide +kernel
theorem d_L_fillBehind_70 : decode b_L_fillBehind 70 = .ok (.iload 6, 2) := by decide +kernel
theorem d_L_fillBehind_72 : decode b_L_fillBehind 72 = .ok (.bipush 16, 2) := by decide +kernel
theorem d_L_fillBehind_74 : decode b_L_fillBehind 74 = .ok (.imul, 1) := by decide +kernel
theorem d_L_fillBehind_75 : decode b_L_fillBehind 75 = .ok (.iload_n 3, 1) := by decide +kernel
theorem d_L_fillBehind_76 : decode b_L_fillBehind 76 = .ok (.iadd, 1) := by decide +kernel
theorem d_L_fillBehind_77 : decode b_L_fillBehind 77 = .ok (.dup2, 1) := by decide +kernel
theorem d_L_fillBehind_78 : decode b_L_fillBehind 78 = .ok (.laload, 1) := by decide +kernel
theorem d_L_fillBehind_79 : decode b_L_fillBehind 79 = .ok (.lload 7, 2) := by decide +kernel
theorem d_L_fillBehind_81 : decode b_L_fillBehind 81 = .ok (.ladd, 1) := by decide +kernel
theorem d_L_fillBehind_82 : decode b_L_fillBehind 82 = .ok (.lastore, 1) := by decide +kernel
theorem d_L_fillBehind_83 : decode b_L_fillBehind 83 = .ok (.aload_n 1, 1) := by decide +kernel
theorem d_L_fillBehind_84 : decode b_L_fillBehind 84 = .ok (.getfield 54, 3) := by decide +kernel
theorem d_L_fillBehind_87 : decode b_L_fillBehind 87 = .ok (.iload 6, 2) := by decide +kernel
theorem d_L_fillBehind_89 : decode b_L_fillBehind 89 = .ok (.iload 4, 2) := by decide +kernel
theorem d_L_fillBehind_91 : decode b_L_fillBehind 91 = .ok (.lload 7, 2) := by decide +kernel
theorem d_L_fillBehind_93 : decode b_L_fillBehind 93 = .ok (.invokevirtual 86, 3) := by decide +kernel
theorem d_L_fillBehind_96 : decode b_L_fillBehind 96 = .ok (.iinc 6 1, 3) := by decide +kernel
theorem d_L_fillBehind_99 : decode b_L_fillBehind 99 = .ok (.goto (-73), 3) := by decide +kernel
theorem d_L_fillBehind_102 : decode b_L_fillBehind 102 = .ok (.return_, 1) := by decide +kernel
def fm_L_fillBehind_B26 (p1 : Int32) (x1 : Int32) (x10 : Int32) (x15 : Int32) (x30 : Int32) (J31 : JS) : Option (Nat × Int32 × JS) :=
  if (16 : Int32) ≤ x30 then some (1, x30, J31) else if ((x15 >>> (x30 &&& 31)) &&& (1 : Int32)) = 0 then bnd (x30 + (1 : Int32)) (fun x47 => some (0, x47, J31)) else grd (inB p1 65536) (grd (inB (p1 ||| ((1 : Int32) <<< (x30 &&& 31))) 65536) (bnd ((J31 3 p1.toNatClampNeg) * (J31 4 (p1 ||| ((1 : Int32) <<< (x30 &&& 31))).toNatClampNeg)) (fun y56 => grd (inB ((x30 * (16 : Int32)) + x1) 256) (grd (inB ((x30 * (16 : Int32)) + x1) 256) (bnd (sJ J31 1 ((x30 * (16 : Int32)) + x1).toNatClampNeg ((J31 1 ((x30 * (16 : Int32)) + x1).toNatClampNeg) + y56)) (fun J65 => ob1 (fm_T_add x30 x10 y56 J65) (fun J73 => bnd (x30 + (1 : Int32)) (fun x80 => some (0, x80, J73)))))))))
def fm_L_fillBehind (p1 : Int32) (I0 : IS) (J0 : JS) : Option (JS) :=
  ob1 (fm_G_bitCount p1) (fun x1 => bnd ((I0 5 0) &&& (p1 ^^^ (-1 : Int32))) (fun x10 => ob1 (fm_L_readyOf x10 I0) (fun x15 => ob3 (iter (fun z : Int32 × JS => fm_L_fillBehind_B26 p1 x1 x10 x15 z.1 z.2) FU ((0 : Int32), J0)) (fun _ x86 J87 => some J87))))
set_option maxHeartbeats 4000000 in
set_option maxRecDepth 100000 in
theorem cm_L_fillBehind (l : Launch) (D : va_G) (ca : Nat → ClassId) (ad : Nat → Nat) (hs : Nat → Option Nat) {p1 : Int32} {I0 : IS} {J0 : JS} {r : JS} (hf : fm_L_fillBehind p1 I0 J0 = some r) : CtV l y_L_fillBehind (Cond.code y_L_fillBehind b_L_fillBehind 9 none :: TB) { frames := 1, cells := 0, slots := 0, locals := 25 } [.ref (ad 21), .ref (ad 0), .int p1] D cls_all (tysC ca) NN (wC ca ad hs I0 J0) (wC ca ad hs I0 r) := by
  refine jd_metV (cc := b_L_fillBehind) (by decide) rfl (Nat.le_of_ble_eq_true rfl) (lv := [(0, .ref (ad 21)), (1, .ref (ad 0)), (2, .int p1)]) rfl ?_
  intro p e R s m args below meth c A Q ls cx hR hK hN hD0 hA hP hS hl hend
  have hx := cx.1
  have hb := cx.2.1
  have hml := cx.2.2.1
  have hown := cx.2.2.2.1
  have hts := cx.2.2.2.2
  have hD : ∀ I J, va_D A (wC ca ad hs I J) := fun I J => jd_Dc hD0 rfl
  unfold fm_L_fillBehind at hf
  refine lv_iload_n hx hb d_L_fillBehind_0 rfl (lv_at hl 2 rfl) ?_
  obtain ⟨x1, hc2, hf3⟩ := ob1_ex hf
  refine jd_ci (va_runS (As := [.int p1]) (rest := []) cx (cm_G_bitCount l D ca (wC ca ad hs I0 J0) (I0 := I0) (J0 := J0) hc2 s.heap.size) (va_cwS 1 hts (jd_gS2 tb_286 tb_201 tb_55 tb_202) rfl rfl rfl ⟨by decide, by decide, rfl⟩ (by rw [hR]; decide)) ⟨jd_blind nWc, (jd_pre (av := [.int p1]) hP hK (hD I0 J0) (fun U h => nWm h hN))⟩ rfl rfl hl.1 rfl (lv_room (Nat.le_of_ble_eq_true rfl)) d_L_fillBehind_1 ⟨Nat.zero_le _, Nat.zero_le _⟩) hS (hD I0 J0) hA (fun H4 L5 hP6 hS7 => ?_)
  refine lv_istore_n hx hb d_L_fillBehind_4 rfl hl (by decide) (lv' := [(3, .int x1), (0, .ref (ad 21)), (1, .ref (ad 0)), (2, .int p1)]) rfl (fun ls8 hl9 => ?_)
  refine lv_aload_n hx hb d_L_fillBehind_5 rfl (lv_at hl9 2 rfl) ?_
  refine va_get (D := D) (ci := 0) (v := .int (I0 5 0)) (C := R_H) (T := F_H) (N := 9) hx hb hts (fun w h => List.mem_cons_of_mem _ (uw_H w h)) hown hK hP6 0 rfl rfl 7 (by decide) (hts _ (List.mem_cons_of_mem _ tb_555)) (fun _ h => h) rfl d_L_fillBehind_6 ?_
  refine lv_iload_n hx hb d_L_fillBehind_9 rfl (lv_at hl9 3 rfl) ?_
  refine lv_iconst (v := -1) hx hb d_L_fillBehind_10 (by decide) ?_
  refine lv_ixor hx hb d_L_fillBehind_11 ?_
  refine lv_iand hx hb d_L_fillBehind_12 ?_
  obtain ⟨x10, e11, hf12⟩ := bnd_ex hf3
  refine jd_tni e11 ?_
  refine lv_istore hx hb d_L_fillBehind_13 hl9 (by decide) (lv' := [(4, .int x10), (3, .int x1), (0, .ref (ad 21)), (1, .ref (ad 0)), (2, .int p1)]) rfl (fun ls13 hl14 => ?_)
  refine lv_aload_n hx hb d_L_fillBehind_15 rfl (lv_at hl14 2 rfl) ?_
  refine lv_iload hx hb d_L_fillBehind_16 (lv_at hl14 0 rfl) ?_
  obtain ⟨x15, hc16, hf17⟩ := ob1_ex hf12
  refine jd_ci (va_runV (As := [.int x10]) (rest := []) cx (cm_L_readyOf l D ca ad hs hc16 H4.size) (cwV 1 hts (jd_gV tb_252 tb_253 tb_13 tb_45 tb_254) rfl rfl rfl ⟨rfl, by decide, by decide, rfl⟩ (by rw [hR]; decide)) ⟨jd_blind nWc, (va_recv hK hP6 (ci := 5) (q0 := 21) rfl rfl), (jd_pre (av := [.ref (ad 21), .int x10]) hP6 hK (hD I0 J0) (fun U h => nWm h hN))⟩ rfl rfl hl14.1 rfl (lv_room (Nat.le_of_ble_eq_true rfl)) d_L_fillBehind_18 ⟨Nat.zero_le _, Nat.zero_le _⟩) hS7 (hD I0 J0) hA (fun H18 L19 hP20 hS21 => ?_)
  refine lv_istore hx hb d_L_fillBehind_21 hl14 (by decide) (lv' := [(5, .int x15), (4, .int x10), (3, .int x1), (0, .ref (ad 21)), (1, .ref (ad 0)), (2, .int p1)]) rfl (fun ls22 hl23 => ?_)
  refine lv_iconst (v := 0) hx hb d_L_fillBehind_23 (by decide) ?_
  refine lv_istore hx hb d_L_fillBehind_24 hl23 (by decide) (lv' := [(6, .int (0 : Int32)), (5, .int x15), (4, .int x10), (3, .int x1), (0, .ref (ad 21)), (1, .ref (ad 0)), (2, .int p1)]) rfl (fun ls24 hl25 => ?_)
  obtain ⟨tg85, x86, J87, ho88, hf89⟩ := ob3_ex hf17
  have kx26_1 : ∀ (H90 : Heap) (L91 : List Loc) (ls92 : Array Slot), va_P D cls_all (wC ca ad hs I0 J87) H90 → va_S A s.heap H90 L91 → lv_has ls92 9 [] → W p l e R s m args below meth c H90 L91 0 0 Q (F0 m 102 ls92 []) := by
    intro H90 L91 ls92 hP93 hS94 hl95
    cases hf89
    exact hend H90 L91 102 ls92 hP93 hS94 d_L_fillBehind_102
  refine iter_ind (C := fun z : Int32 × JS => ∀ (H32 : Heap) (L33 : List Loc) (ls34 : Array Slot), va_P D cls_all (wC ca ad hs I0 z.2) H32 → va_S A s.heap H32 L33 → lv_has ls34 9 [(0, .ref (ad 21)), (1, .ref (ad 0)), (2, .int p1), (3, .int x1), (4, .int x10), (5, .int x15), (6, .int z.1)] → W p l e R s m args below meth c H32 L33 0 0 Q (F0 m 26 ls34 [])) (fun z29 o28 hz39 hc26 he27 => ?_) _ _ ho88 H18 L19 ls24 hP20 hS21 (lv_sub hl25 [4, 5, 6, 3, 2, 1, 0] rfl)
  obtain ⟨x30, J31⟩ := z29
  intro H32 L33 ls34 hP35 hS36 hl37
  have hf38 : fm_L_fillBehind_B26 p1 x1 x10 x15 x30 J31 = some o28 := hz39
  unfold fm_L_fillBehind_B26 at hf38
  refine lv_iload hx hb d_L_fillBehind_26 (lv_at hl37 6 rfl) ?_
  refine lv_bipush (v := 16) hx hb d_L_fillBehind_28 (by decide) ?_
  refine lv_icmp_ge (tgt := 102) hx hb d_L_fillBehind_30 rfl (fun h40 => ?_) (fun h40 => ?_)
  · have hf41 := ifp hf38 h40
    cases hf41
    have e43 := he27 (by show (1 : Nat) ≠ 0; decide)
    cases e43
    exact kx26_1 H32 L33 ls34 hP35 hS36 (lv_sub hl37 [] rfl)
  · have hf42 := ifn hf38 h40
    refine lv_iload hx hb d_L_fillBehind_33 (lv_at hl37 5 rfl) ?_
    refine lv_iload hx hb d_L_fillBehind_35 (lv_at hl37 6 rfl) ?_
    refine lv_ishr hx hb d_L_fillBehind_37 ?_
    refine lv_iconst (v := 1) hx hb d_L_fillBehind_38 (by decide) ?_
    refine lv_iand hx hb d_L_fillBehind_39 ?_
    refine lv_if_eq (tgt := 96) hx hb d_L_fillBehind_40 rfl (fun h44 => ?_) (fun h44 => ?_)
    · have hf45 := ifp hf42 h44
      obtain ⟨x47, e48, hf49⟩ := bnd_ex hf45
      refine lv_iinc hx hb d_L_fillBehind_96 hl37 (k := 6) rfl (v := x47) (by rw [e48]; rfl) (by decide) (lv' := [(6, .int x47), (0, .ref (ad 21)), (1, .ref (ad 0)), (2, .int p1), (3, .int x1), (4, .int x10), (5, .int x15)]) rfl (fun ls50 hl51 => ?_)
      refine lv_goto (tgt := 26) hx hb d_L_fillBehind_99 rfl ?_
      cases hf49
      exact hc26 rfl H32 L33 ls50 hP35 hS36 (lv_sub hl51 [1, 2, 3, 4, 5, 6, 0] rfl)
    · have hf46 := ifn hf42 h44
      refine lv_aload_n hx hb d_L_fillBehind_43 rfl (lv_at hl37 0 rfl) ?_
      refine va_get (D := D) (ci := 5) (v := .ref (ad 22)) (C := R_L) (T := F_L) (N := 4) hx hb hts (fun w h => List.mem_cons_of_mem _ (uw_L w h)) hown hK hP35 21 rfl rfl 0 (by decide) (hts _ (List.mem_cons_of_mem _ tb_89)) (fun _ h => h) rfl d_L_fillBehind_44 ?_
      refine lv_iload_n hx hb d_L_fillBehind_47 rfl (lv_at hl37 2 rfl) ?_
      obtain ⟨hg52, hf53⟩ := grd_ex hf46
      refine va_lald hx hb hK hP35 22 3 rfl rfl (inB_in hg52) d_L_fillBehind_48 ?_
      refine lv_aload_n hx hb d_L_fillBehind_49 rfl (lv_at hl37 0 rfl) ?_
      refine va_get (D := D) (ci := 5) (v := .ref (ad 23)) (C := R_L) (T := F_L) (N := 4) hx hb hts (fun w h => List.mem_cons_of_mem _ (uw_L w h)) hown hK hP35 21 rfl rfl 1 (by decide) (hts _ (List.mem_cons_of_mem _ tb_90)) (fun _ h => h) rfl d_L_fillBehind_50 ?_
      refine lv_iload_n hx hb d_L_fillBehind_53 rfl (lv_at hl37 2 rfl) ?_
      refine lv_iconst (v := 1) hx hb d_L_fillBehind_54 (by decide) ?_
      refine lv_iload hx hb d_L_fillBehind_55 (lv_at hl37 6 rfl) ?_
      refine lv_ishl hx hb d_L_fillBehind_57 ?_
      refine lv_ior hx hb d_L_fillBehind_58 ?_
      obtain ⟨hg54, hf55⟩ := grd_ex hf53
      refine va_lald hx hb hK hP35 23 3 rfl rfl (inB_in hg54) d_L_fillBehind_59 ?_
      refine lv_lmul hx hb d_L_fillBehind_60 ?_
      obtain ⟨y56, e57, hf58⟩ := bnd_ex hf55
      refine jd_tnl e57 ?_
      refine lv_lstore hx hb d_L_fillBehind_61 hl37 (by decide) (lv' := [(7, .long y56), (0, .ref (ad 21)), (1, .ref (ad 0)), (2, .int p1), (3, .int x1), (4, .int x10), (5, .int x15), (6, .int x30)]) rfl (fun ls59 hl60 => ?_)
      refine lv_aload_n hx hb d_L_fillBehind_63 rfl (lv_at hl60 2 rfl) ?_
      refine va_get (D := D) (ci := 0) (v := .ref (ad 6)) (C := R_H) (T := F_H) (N := 9) hx hb hts (fun w h => List.mem_cons_of_mem _ (uw_H w h)) hown hK hP35 0 rfl rfl 5 (by decide) (hts _ (List.mem_cons_of_mem _ tb_549)) (fun _ h => h) rfl d_L_fillBehind_64 ?_
      refine va_get (D := D) (ci := 1) (v := .ref (ad 7)) (C := R_T) (T := F_T) (N := 4) hx hb hts (fun w h => List.mem_cons_of_mem _ (uw_T w h)) hown hK hP35 6 rfl rfl 2 (by decide) (hts _ (List.mem_cons_of_mem _ tb_490)) (fun _ h => h) rfl d_L_fillBehind_67 ?_
      refine lv_iload hx hb d_L_fillBehind_70 (lv_at hl60 7 rfl) ?_
      refine lv_bipush (v := 16) hx hb d_L_fillBehind_72 (by decide) ?_
      refine lv_imul hx hb d_L_fillBehind_74 ?_
      refine lv_iload_n hx hb d_L_fillBehind_75 rfl (lv_at hl60 4 rfl) ?_
      refine lv_iadd hx hb d_L_fillBehind_76 ?_
      refine lv_dup2_11 hx hb d_L_fillBehind_77 rfl rfl ?_
      obtain ⟨hg61, hf62⟩ := grd_ex hf58
      refine va_lald hx hb hK hP35 7 3 rfl rfl (inB_in hg61) d_L_fillBehind_78 ?_
      refine lv_lload hx hb d_L_fillBehind_79 (lv_at hl60 0 rfl) ?_
      refine lv_ladd hx hb d_L_fillBehind_81 ?_
      obtain ⟨hg63, hf64⟩ := grd_ex hf62
      obtain ⟨J65, e66, hf67⟩ := bnd_ex hf64
      refine va_last hx hb hK hP35 (hD I0 J31) hS36 7 3 rfl rfl (inB_in hg63) d_L_fillBehind_82 (fun H68 L69 hp72 _ hS71 => ?_)
      have hP70 : va_P D cls_all (wC ca ad hs I0 J65) H68 := by rw [e66]; exact hp72
      refine lv_aload_n hx hb d_L_fillBehind_83 rfl (lv_at hl60 2 rfl) ?_
      refine va_get (D := D) (ci := 0) (v := .ref (ad 6)) (C := R_H) (T := F_H) (N := 9) hx hb hts (fun w h => List.mem_cons_of_mem _ (uw_H w h)) hown hK hP70 0 rfl rfl 5 (by decide) (hts _ (List.mem_cons_of_mem _ tb_549)) (fun _ h => h) rfl d_L_fillBehind_84 ?_
      refine lv_iload hx hb d_L_fillBehind_87 (lv_at hl60 7 rfl) ?_
      refine lv_iload hx hb d_L_fillBehind_89 (lv_at hl60 5 rfl) ?_
      refine lv_lload hx hb d_L_fillBehind_91 (lv_at hl60 0 rfl) ?_
      obtain ⟨J73, hc74, hf75⟩ := ob1_ex hf67
      refine jd_cv (va_runV (As := [.int x30, .int x10, .long y56]) (rest := []) cx (cm_T_add l D ca ad hs hc74 H68.size) (cwV 3 hts (jd_gV tb_287 tb_288 tb_289 tb_53 tb_290) rfl rfl rfl ⟨rfl, by decide, by decide, rfl⟩ (by rw [hR]; decide)) ⟨jd_blind nWc, (va_recv hK hP70 (ci := 1) (q0 := 6) rfl rfl), (jd_pre (av := [.ref (ad 6), .int x30, .int x10, .long y56]) hP70 hK (hD I0 J65) (fun U h => nWm h hN))⟩ rfl rfl hl60.1 rfl (lv_room (Nat.le_of_ble_eq_true rfl)) d_L_fillBehind_93 ⟨Nat.zero_le _, Nat.zero_le _⟩) hS71 (hD I0 J65) hA (fun H76 L77 hP78 hS79 => ?_)
      obtain ⟨x80, e81, hf82⟩ := bnd_ex hf75
      refine lv_iinc hx hb d_L_fillBehind_96 hl60 (k := 7) rfl (v := x80) (by rw [e81]; rfl) (by decide) (lv' := [(6, .int x80), (7, .long y56), (0, .ref (ad 21)), (1, .ref (ad 0)), (2, .int p1), (3, .int x1), (4, .int x10), (5, .int x15)]) rfl (fun ls83 hl84 => ?_)
      refine lv_goto (tgt := 26) hx hb d_L_fillBehind_99 rfl ?_
      cases hf82
      exact hc26 rfl H76 L77 ls83 hP78 hS79 (lv_sub hl84 [2, 3, 4, 5, 6, 7, 0] rfl)
theorem d_L_fill_0 : decode b_L_fill 0 = .ok (.aload_n 1, 1) := by decide +kernel
theorem d_L_fill_1 : decode b_L_fill 1 = .ok (.getfield 54, 3) := by decide +kernel
theorem d_L_fill_4 : decode b_L_fill 4 = .ok (.invokevirtual 58, 3) := by decide +kernel
theorem d_L_fill_7 : decode b_L_fill 7 = .ok (.iconst 1, 1) := by decide +kernel
theorem d_L_fill_8 : decode b_L_fill 8 = .ok (.aload_n 1, 1) := by decide +kernel
theorem d_L_fill_9 : decode b_L_fill 9 = .ok (.invokevirtual 50, 3) := by decide +kernel
theorem d_L_fill_12 : decode b_L_fill 12 = .ok (.ishl, 1) := by decide +kernel
theorem d_L_fill_13 : decode b_L_fill 13 = .ok (.istore_n 2, 1) := by decide +kernel
theorem d_L_fill_14 : decode b_L_fill 14 = .ok (.iconst 0, 1) := by decide +kernel
theorem d_L_fill_15 : decode b_L_fill 15 = .ok (.istore_n 3, 1) := by decide +kernel
theorem d_L_fill_16 : decode b_L_fill 16 = .ok (.iconst 0, 1) := by decide +kernel
theorem d_L_fill_17 : decode b_L_fill 17 = .ok (.istore 4, 2) := by decide +kernel
theorem d_L_fill_19 : decode b_L_fill 19 = .ok (.iload 4, 2) := by decide +kernel
theorem d_L_fill_21 : decode b_L_fill 21 = .ok (.iload_n 2, 1) := by decide +kernel
theorem d_L_fill_22 : decode b_L_fill 22 = .ok (.if_icmp .ge 35, 3) := by decide +kernel
theorem d_L_fill_25 : decode b_L_fill 25 = .ok (.aload_n 0, 1) := by decide +kernel
theorem d_L_fill_26 : decode b_L_fill 26 = .ok (.getfield 10, 3) := by decide +kernel
theorem d_L_fill_29 : decode b_L_fill 29 = .ok (.iload_n 3, 1) := by decide +kernel
theorem d_L_fill_30 : decode b_L_fill 30 = .ok (.laload, 1) := by decide +kernel
theorem d_L_fill_31 : decode b_L_fill 31 = .ok (.lconst 0, 1) := by decide +kernel
theorem d_L_fill_32 : decode b_L_fill 32 = .ok (.lcmp, 1) := by decide +kernel
theorem d_L_fill_33 : decode b_L_fill 33 = .ok (.ifCond .eq 9, 3) := by decide +kernel
theorem d_L_fill_36 : decode b_L_fill 36 = .ok (.aload_n 0, 1) := by decide +kernel
theorem d_L_fill_37 : decode b_L_fill 37 = .ok (.aload_n 1, 1) := by decide +kernel
theorem d_L_fill_38 : decode b_L_fill 38 = .ok (.iload_n 3, 1) := by decide +kernel
theorem d_L_fill_39 : decode b_L_fill 39 = .ok (.invokevirtual 63, 3) := by decide +kernel
theorem d_L_fill_42 : decode b_L_fill 42 = .ok (.iload_n 3, 1) := by decide +kernel
theorem d_L_fill_43 : decode b_L_fill 43 = .ok (.aload_n 1, 1) := by decide +kernel
theorem d_L_fill_44 : decode b_L_fill 44 = .ok (.getfield 42, 3) := by decide +kernel
theorem d_L_fill_47 : decode b_L_fill 47 = .ok (.invokestatic 67, 3) := by decide +kernel
theorem d_L_fill_50 : decode b_L_fill 50 = .ok (.istore_n 3, 1) := by decide +kernel
theorem d_L_fill_51 : decode b_L_fill 51 = .ok (.iinc 4 1, 3) := by decide +kernel
theorem d_L_fill_54 : decode b_L_fill 54 = .ok (.goto (-35), 3) := by decide +kernel
theorem d_L_fill_57 : decode b_L_fill 57 = .ok (.aload_n 1, 1) := by decide +kernel
theorem d_L_fill_58 : decode b_L_fill 58 = .ok (.getfield 54, 3) := by decide +kernel
theorem d_L_fill_61 : decode b_L_fill 61 = .ok (.aload_n 1, 1) := by decide +kernel
theorem d_L_fill_62 : decode b_L_fill 62 = .ok (.invokevirtual 71, 3) := by decide +kernel
theorem d_L_fill_65 : decode b_L_fill 65 = .ok (.return_, 1) := by decide +kernel
def fm_L_fill_B19 (I0 : IS) (x15 : Int32) (x28 : Int32) (x29 : Int32) (J30 : JS) : Option (Nat × Int32 × Int32 × JS) :=
  if x15 ≤ x29 then some (1, x28, x29, J30) else grd (inB x28 65536) (if (lg_cmp (J30 3 x28.toNatClampNeg) (0 : Int64)) = 0 then ob1 (fm_L_setAfter x28 (I0 5 0)) (fun x48 => bnd (x29 + (1 : Int32)) (fun x57 => some (0, x48, x57, J30))) else ob1 (fm_L_fillBehind x28 I0 J30) (fun J62 => ob1 (fm_L_setAfter x28 (I0 5 0)) (fun x69 => bnd (x29 + (1 : Int32)) (fun x78 => some (0, x69, x78, J62)))))
def fm_L_fill (I0 : IS) (J0 : JS) : Option (IS × JS) :=
  ob1 (fm_T_clear J0) (fun J1 => ob1 (fm_H_size I0) (fun x8 => bnd ((1 : Int32) <<< (x8 &&& 31)) (fun x15 => ob4 (iter (fun z : Int32 × Int32 × JS => fm_L_fill_B19 I0 x15 z.1 z.2.1 z.2.2) FU ((0 : Int32), (0 : Int32), J1)) (fun _ x84 x85 J86 => ob2 (fm_T_complete I0 J86) (fun I95 J96 => some (I95, J96))))))
set_option maxHeartbeats 4000000 in
set_option maxRecDepth 100000 in
theorem cm_L_fill (l : Launch) (D : va_G) (ca : Nat → ClassId) (ad : Nat → Nat) (hs : Nat → Option Nat) {I0 : IS} {J0 : JS} {r : IS × JS} (hf : fm_L_fill I0 J0 = some r) : CtV l y_L_fill (Cond.code y_L_fill b_L_fill 5 none :: TB) { frames := 3, cells := 0, slots := 0, locals := 65 } [.ref (ad 21), .ref (ad 0)] D cls_all (tysC ca) NN (wC ca ad hs I0 J0) (wC ca ad hs r.1 r.2) := by
  refine jd_metV (cc := b_L_fill) (by decide) rfl (Nat.le_of_ble_eq_true rfl) (lv := [(0, .ref (ad 21)), (1, .ref (ad 0))]) rfl ?_
  intro p e R s m args below meth c A Q ls cx hR hK hN hD0 hA hP hS hl hend
  have hx := cx.1
  have hb := cx.2.1
  have hml := cx.2.2.1
  have hown := cx.2.2.2.1
  have hts := cx.2.2.2.2
  have hD : ∀ I J, va_D A (wC ca ad hs I J) := fun I J => jd_Dc hD0 rfl
  unfold fm_L_fill at hf
  refine lv_aload_n hx hb d_L_fill_0 rfl (lv_at hl 1 rfl) ?_
  refine va_get (D := D) (ci := 0) (v := .ref (ad 6)) (C := R_H) (T := F_H) (N := 9) hx hb hts (fun w h => List.mem_cons_of_mem _ (uw_H w h)) hown hK hP 0 rfl rfl 5 (by decide) (hts _ (List.mem_cons_of_mem _ tb_549)) (fun _ h => h) rfl d_L_fill_1 ?_
  obtain ⟨J1, hc2, hf3⟩ := ob1_ex hf
  refine jd_cv (va_runV (As := []) (rest := []) cx (cm_T_clear l D ca ad hs hc2 s.heap.size) (cwV 0 hts (jd_gV tb_276 tb_277 tb_278 tb_53 tb_279) rfl rfl rfl ⟨rfl, by decide, by decide, rfl⟩ (by rw [hR]; decide)) ⟨jd_blind nWc, (va_recv hK hP (ci := 1) (q0 := 6) rfl rfl), (jd_pre (av := [.ref (ad 6)]) hP hK (hD I0 J0) (fun U h => nWm h hN))⟩ rfl rfl hl.1 rfl (lv_room (Nat.le_of_ble_eq_true rfl)) d_L_fill_4 ⟨Nat.zero_le _, Nat.zero_le _⟩) hS (hD I0 J0) hA (fun H4 L5 hP6 hS7 => ?_)
  refine lv_iconst (v := 1) hx hb d_L_fill_7 (by decide) ?_
  refine lv_aload_n hx hb d_L_fill_8 rfl (lv_at hl 1 rfl) ?_
  obtain ⟨x8, hc9, hf10⟩ := ob1_ex hf3
  refine jd_ci (va_runV (As := []) (rest := [.int (1 : Int32)]) cx (cm_H_size l D ca ad hs hc9 H4.size) (cwV 0 hts (jd_gV tb_245 tb_197 tb_198 tb_52 tb_199) rfl rfl rfl ⟨rfl, by decide, by decide, rfl⟩ (by rw [hR]; decide)) ⟨jd_blind nWc, (va_recv hK hP6 (ci := 0) (q0 := 0) rfl rfl), (jd_pre (av := [.ref (ad 0)]) hP6 hK (hD I0 J1) (fun U h => nWm h hN))⟩ rfl rfl hl.1 rfl (lv_room (Nat.le_of_ble_eq_true rfl)) d_L_fill_9 ⟨Nat.zero_le _, Nat.zero_le _⟩) hS7 (hD I0 J1) hA (fun H11 L12 hP13 hS14 => ?_)
  refine lv_ishl hx hb d_L_fill_12 ?_
  obtain ⟨x15, e16, hf17⟩ := bnd_ex hf10
  refine jd_tni e16 ?_
  refine lv_istore_n hx hb d_L_fill_13 rfl hl (by decide) (lv' := [(2, .int x15), (0, .ref (ad 21)), (1, .ref (ad 0))]) rfl (fun ls18 hl19 => ?_)
  refine lv_iconst (v := 0) hx hb d_L_fill_14 (by decide) ?_
  refine lv_istore_n hx hb d_L_fill_15 rfl hl19 (by decide) (lv' := [(3, .int (0 : Int32)), (2, .int x15), (0, .ref (ad 21)), (1, .ref (ad 0))]) rfl (fun ls20 hl21 => ?_)
  refine lv_iconst (v := 0) hx hb d_L_fill_16 (by decide) ?_
  refine lv_istore hx hb d_L_fill_17 hl21 (by decide) (lv' := [(4, .int (0 : Int32)), (3, .int (0 : Int32)), (2, .int x15), (0, .ref (ad 21)), (1, .ref (ad 0))]) rfl (fun ls22 hl23 => ?_)
  obtain ⟨tg83, x84, x85, J86, ho87, hf88⟩ := ob4_ex hf17
  have kx19_1 : ∀ (H89 : Heap) (L90 : List Loc) (ls91 : Array Slot), va_P D cls_all (wC ca ad hs I0 J86) H89 → va_S A s.heap H89 L90 → lv_has ls91 5 [(1, .ref (ad 0))] → W p l e R s m args below meth c H89 L90 0 0 Q (F0 m 57 ls91 []) := by
    intro H89 L90 ls91 hP92 hS93 hl94
    refine lv_aload_n hx hb d_L_fill_57 rfl (lv_at hl94 0 rfl) ?_
    refine va_get (D := D) (ci := 0) (v := .ref (ad 6)) (C := R_H) (T := F_H) (N := 9) hx hb hts (fun w h => List.mem_cons_of_mem _ (uw_H w h)) hown hK hP92 0 rfl rfl 5 (by decide) (hts _ (List.mem_cons_of_mem _ tb_549)) (fun _ h => h) rfl d_L_fill_58 ?_
    refine lv_aload_n hx hb d_L_fill_61 rfl (lv_at hl94 0 rfl) ?_
    obtain ⟨I95, J96, hc97, hf98⟩ := ob2_ex hf88
    refine jd_cv (va_runV (As := [.ref (ad 0)]) (rest := []) cx (cm_T_complete l D ca ad hs hc97 H89.size) (cwV 1 hts (jd_gV tb_291 tb_292 tb_293 tb_53 tb_294) rfl rfl rfl ⟨rfl, by decide, by decide, rfl⟩ (by rw [hR]; decide)) ⟨jd_blind nWc, (va_recv hK hP92 (ci := 1) (q0 := 6) rfl rfl), (jd_pre (av := [.ref (ad 6), .ref (ad 0)]) hP92 hK (hD I0 J86) (fun U h => nWm h hN))⟩ rfl rfl hl94.1 rfl (lv_room (Nat.le_of_ble_eq_true rfl)) d_L_fill_62 ⟨Nat.zero_le _, Nat.zero_le _⟩) hS93 (hD I0 J86) hA (fun H99 L100 hP101 hS102 => ?_)
    cases hf98
    exact hend H99 L100 65 ls91 hP101 hS102 d_L_fill_65
  refine iter_ind (C := fun z : Int32 × Int32 × JS => ∀ (H31 : Heap) (L32 : List Loc) (ls33 : Array Slot), va_P D cls_all (wC ca ad hs I0 z.2.2) H31 → va_S A s.heap H31 L32 → lv_has ls33 5 [(0, .ref (ad 21)), (1, .ref (ad 0)), (2, .int x15), (3, .int z.1), (4, .int z.2.1)] → W p l e R s m args below meth c H31 L32 0 0 Q (F0 m 19 ls33 [])) (fun z27 o26 hz38 hc24 he25 => ?_) _ _ ho87 H11 L12 ls22 hP13 hS14 (lv_sub hl23 [3, 4, 2, 1, 0] rfl)
  obtain ⟨x28, x29, J30⟩ := z27
  intro H31 L32 ls33 hP34 hS35 hl36
  have hf37 : fm_L_fill_B19 I0 x15 x28 x29 J30 = some o26 := hz38
  unfold fm_L_fill_B19 at hf37
  refine lv_iload hx hb d_L_fill_19 (lv_at hl36 4 rfl) ?_
  refine lv_iload_n hx hb d_L_fill_21 rfl (lv_at hl36 2 rfl) ?_
  refine lv_icmp_ge (tgt := 57) hx hb d_L_fill_22 rfl (fun h39 => ?_) (fun h39 => ?_)
  · have hf40 := ifp hf37 h39
    cases hf40
    have e42 := he25 (by show (1 : Nat) ≠ 0; decide)
    cases e42
    exact kx19_1 H31 L32 ls33 hP34 hS35 (lv_sub hl36 [1] rfl)
  · have hf41 := ifn hf37 h39
    refine lv_aload_n hx hb d_L_fill_25 rfl (lv_at hl36 0 rfl) ?_
    refine va_get (D := D) (ci := 5) (v := .ref (ad 22)) (C := R_L) (T := F_L) (N := 4) hx hb hts (fun w h => List.mem_cons_of_mem _ (uw_L w h)) hown hK hP34 21 rfl rfl 0 (by decide) (hts _ (List.mem_cons_of_mem _ tb_89)) (fun _ h => h) rfl d_L_fill_26 ?_
    refine lv_iload_n hx hb d_L_fill_29 rfl (lv_at hl36 3 rfl) ?_
    obtain ⟨hg43, hf44⟩ := grd_ex hf41
    refine va_lald hx hb hK hP34 22 3 rfl rfl (inB_in hg43) d_L_fill_30 ?_
    refine lv_lconst (v := 0) hx hb d_L_fill_31 (by decide) ?_
    refine W.lcmp hx hb d_L_fill_32 ?_
    refine lv_if_eq (tgt := 42) hx hb d_L_fill_33 rfl (fun h45 => ?_) (fun h45 => ?_)
    · have hf46 := ifp hf44 h45
      refine lv_iload_n hx hb d_L_fill_42 rfl (lv_at hl36 3 rfl) ?_
      refine lv_aload_n hx hb d_L_fill_43 rfl (lv_at hl36 1 rfl) ?_
      refine va_get (D := D) (ci := 0) (v := .int (I0 5 0)) (C := R_H) (T := F_H) (N := 9) hx hb hts (fun w h => List.mem_cons_of_mem _ (uw_H w h)) hown hK hP34 0 rfl rfl 7 (by decide) (hts _ (List.mem_cons_of_mem _ tb_555)) (fun _ h => h) rfl d_L_fill_44 ?_
      obtain ⟨x48, hc49, hf50⟩ := ob1_ex hf46
      refine jd_ci (va_runS (As := [.int x28, .int (I0 5 0)]) (rest := []) cx (cm_L_setAfter l D ca (wC ca ad hs I0 J30) (I0 := I0) (J0 := J30) hc49 H31.size) (va_cwS 2 hts (jd_gS2 tb_246 tb_247 tb_45 tb_248) rfl rfl rfl ⟨by decide, by decide, rfl⟩ (by rw [hR]; decide)) ⟨jd_blind nWc, (jd_pre (av := [.int x28, .int (I0 5 0)]) hP34 hK (hD I0 J30) (fun U h => nWm h hN))⟩ rfl rfl hl36.1 rfl (lv_room (Nat.le_of_ble_eq_true rfl)) d_L_fill_47 ⟨Nat.zero_le _, Nat.zero_le _⟩) hS35 (hD I0 J30) hA (fun H51 L52 hP53 hS54 => ?_)
      refine lv_istore_n hx hb d_L_fill_50 rfl hl36 (by decide) (lv' := [(3, .int x48), (0, .ref (ad 21)), (1, .ref (ad 0)), (2, .int x15), (4, .int x29)]) rfl (fun ls55 hl56 => ?_)
      obtain ⟨x57, e58, hf59⟩ := bnd_ex hf50
      refine lv_iinc hx hb d_L_fill_51 hl56 (k := 4) rfl (v := x57) (by rw [e58]; rfl) (by decide) (lv' := [(4, .int x57), (3, .int x48), (0, .ref (ad 21)), (1, .ref (ad 0)), (2, .int x15)]) rfl (fun ls60 hl61 => ?_)
      refine lv_goto (tgt := 19) hx hb d_L_fill_54 rfl ?_
      cases hf59
      exact hc24 rfl H51 L52 ls60 hP53 hS54 (lv_sub hl61 [2, 3, 4, 1, 0] rfl)
    · have hf47 := ifn hf44 h45
      refine lv_aload_n hx hb d_L_fill_36 rfl (lv_at hl36 0 rfl) ?_
      refine lv_aload_n hx hb d_L_fill_37 rfl (lv_at hl36 1 rfl) ?_
      refine lv_iload_n hx hb d_L_fill_38 rfl (lv_at hl36 3 rfl) ?_
      obtain ⟨J62, hc63, hf64⟩ := ob1_ex hf47
      refine jd_cv (va_runV (As := [.ref (ad 0), .int x28]) (rest := []) cx (cm_L_fillBehind l D ca ad hs hc63 H31.size) (cwV 2 hts (jd_gV tb_283 tb_284 tb_17 tb_45 tb_285) rfl rfl rfl ⟨rfl, by decide, by decide, rfl⟩ (by rw [hR]; decide)) ⟨jd_blind nWc, (va_recv hK hP34 (ci := 5) (q0 := 21) rfl rfl), (jd_pre (av := [.ref (ad 21), .ref (ad 0), .int x28]) hP34 hK (hD I0 J30) (fun U h => nWm h hN))⟩ rfl rfl hl36.1 rfl (lv_room (Nat.le_of_ble_eq_true rfl)) d_L_fill_39 ⟨Nat.zero_le _, Nat.zero_le _⟩) hS35 (hD I0 J30) hA (fun H65 L66 hP67 hS68 => ?_)
      refine lv_iload_n hx hb d_L_fill_42 rfl (lv_at hl36 3 rfl) ?_
      refine lv_aload_n hx hb d_L_fill_43 rfl (lv_at hl36 1 rfl) ?_
      refine va_get (D := D) (ci := 0) (v := .int (I0 5 0)) (C := R_H) (T := F_H) (N := 9) hx hb hts (fun w h => List.mem_cons_of_mem _ (uw_H w h)) hown hK hP67 0 rfl rfl 7 (by decide) (hts _ (List.mem_cons_of_mem _ tb_555)) (fun _ h => h) rfl d_L_fill_44 ?_
      obtain ⟨x69, hc70, hf71⟩ := ob1_ex hf64
      refine jd_ci (va_runS (As := [.int x28, .int (I0 5 0)]) (rest := []) cx (cm_L_setAfter l D ca (wC ca ad hs I0 J62) (I0 := I0) (J0 := J62) hc70 H65.size) (va_cwS 2 hts (jd_gS2 tb_246 tb_247 tb_45 tb_248) rfl rfl rfl ⟨by decide, by decide, rfl⟩ (by rw [hR]; decide)) ⟨jd_blind nWc, (jd_pre (av := [.int x28, .int (I0 5 0)]) hP67 hK (hD I0 J62) (fun U h => nWm h hN))⟩ rfl rfl hl36.1 rfl (lv_room (Nat.le_of_ble_eq_true rfl)) d_L_fill_47 ⟨Nat.zero_le _, Nat.zero_le _⟩) hS68 (hD I0 J62) hA (fun H72 L73 hP74 hS75 => ?_)
      refine lv_istore_n hx hb d_L_fill_50 rfl hl36 (by decide) (lv' := [(3, .int x69), (0, .ref (ad 21)), (1, .ref (ad 0)), (2, .int x15), (4, .int x29)]) rfl (fun ls76 hl77 => ?_)
      obtain ⟨x78, e79, hf80⟩ := bnd_ex hf71
      refine lv_iinc hx hb d_L_fill_51 hl77 (k := 4) rfl (v := x78) (by rw [e79]; rfl) (by decide) (lv' := [(4, .int x78), (3, .int x69), (0, .ref (ad 21)), (1, .ref (ad 0)), (2, .int x15)]) rfl (fun ls81 hl82 => ?_)
      refine lv_goto (tgt := 19) hx hb d_L_fill_54 rfl ?_
      cases hf80
      exact hc24 rfl H72 L73 ls81 hP74 hS75 (lv_sub hl82 [2, 3, 4, 1, 0] rfl)
