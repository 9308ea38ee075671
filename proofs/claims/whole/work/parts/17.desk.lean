theorem d_K_load_0 : decode b_K_load 0 = .ok (.aload_n 0, 1) := by decide +kernel
theorem d_K_load_1 : decode b_K_load 1 = .ok (.getfield 33, 3) := by decide +kernel
theorem d_K_load_4 : decode b_K_load 4 = .ok (.iload_n 1, 1) := by decide +kernel
theorem d_K_load_5 : decode b_K_load 5 = .ok (.if_icmp .eq 31, 3) := by decide +kernel
theorem d_K_load_8 : decode b_K_load 8 = .ok (.aload_n 0, 1) := by decide +kernel
theorem d_K_load_9 : decode b_K_load 9 = .ok (.getfield 29, 3) := by decide +kernel
theorem d_K_load_12 : decode b_K_load 12 = .ok (.aload_n 2, 1) := by decide +kernel
theorem d_K_load_13 : decode b_K_load 13 = .ok (.invokevirtual 185, 3) := by decide +kernel
theorem d_K_load_16 : decode b_K_load 16 = .ok (.aload_n 2, 1) := by decide +kernel
theorem d_K_load_17 : decode b_K_load 17 = .ok (.getfield 115, 3) := by decide +kernel
theorem d_K_load_20 : decode b_K_load 20 = .ok (.aload_n 0, 1) := by decide +kernel
theorem d_K_load_21 : decode b_K_load 21 = .ok (.getfield 29, 3) := by decide +kernel
theorem d_K_load_24 : decode b_K_load 24 = .ok (.aload_n 2, 1) := by decide +kernel
theorem d_K_load_25 : decode b_K_load 25 = .ok (.invokevirtual 188, 3) := by decide +kernel
theorem d_K_load_28 : decode b_K_load 28 = .ok (.putfield 131, 3) := by decide +kernel
theorem d_K_load_31 : decode b_K_load 31 = .ok (.aload_n 0, 1) := by decide +kernel
theorem d_K_load_32 : decode b_K_load 32 = .ok (.iload_n 1, 1) := by decide +kernel
theorem d_K_load_33 : decode b_K_load 33 = .ok (.putfield 33, 3) := by decide +kernel
theorem d_K_load_36 : decode b_K_load 36 = .ok (.return_, 1) := by decide +kernel
def fm_K_load (p0 : Int32) (I0 : IS) (J0 : JS) : Option (IS × JS) :=
  if (I0 17 0) = p0 then some (I0, J0) else ob2 (fm_L_load I0 J0) (fun I4 J5 => ob1 (fm_L_total I4 J5) (fun y12 => bnd (sL J5 0 y12) (fun J19 => bnd (sV I4 17 p0) (fun I27 => some (I27, J19)))))
set_option maxHeartbeats 4000000 in
set_option maxRecDepth 100000 in
theorem cm_K_load (l : Launch) (D : va_G) (ca : Nat → ClassId) (ad : Nat → Nat) (hs : Nat → Option Nat) {p0 : Int32} {I0 : IS} {J0 : JS} {r : IS × JS} (hf : fm_K_load p0 I0 J0 = some r) : CtV l y_K_load (Cond.code y_K_load b_K_load 3 none :: TB) { frames := 5, cells := 0, slots := 0, locals := 109 } [.ref (ad 15), .int p0, .ref (ad 0)] D cls_all (tysC ca) NN (wC ca ad hs I0 J0) (wC ca ad hs r.1 r.2) := by
  refine jd_metV (cc := b_K_load) (by decide) rfl (Nat.le_of_ble_eq_true rfl) (lv := [(0, .ref (ad 15)), (1, .int p0), (2, .ref (ad 0))]) rfl ?_
  intro p e R s m args below meth c A Q ls cx hR hK hN hD0 hA hP hS hl hend
  have hx := cx.1
  have hb := cx.2.1
  have hml := cx.2.2.1
  have hown := cx.2.2.2.1
  have hts := cx.2.2.2.2
  have hD : ∀ I J, va_D A (wC ca ad hs I J) := fun I J => jd_Dc hD0 rfl
  unfold fm_K_load at hf
  refine lv_aload_n hx hb d_K_load_0 rfl (lv_at hl 0 rfl) ?_
  refine va_get (D := D) (ci := 3) (v := .int (I0 17 0)) (C := R_K) (T := F_K) (N := 5) hx hb hts (fun w h => List.mem_cons_of_mem _ (uw_K w h)) hown hK hP 15 rfl rfl 4 (by decide) (hts _ (List.mem_cons_of_mem _ tb_109)) (fun _ h => h) rfl d_K_load_1 ?_
  refine lv_iload_n hx hb d_K_load_4 rfl (lv_at hl 1 rfl) ?_
  refine lv_icmp_eq (tgt := 36) hx hb d_K_load_5 rfl (fun h1 => ?_) (fun h1 => ?_)
  · have hf2 := ifp hf h1
    cases hf2
    exact hend s.heap [] 36 ls hP hS d_K_load_36
  · have hf3 := ifn hf h1
    refine lv_aload_n hx hb d_K_load_8 rfl (lv_at hl 0 rfl) ?_
    refine va_get (D := D) (ci := 3) (v := .ref (ad 21)) (C := R_K) (T := F_K) (N := 5) hx hb hts (fun w h => List.mem_cons_of_mem _ (uw_K w h)) hown hK hP 15 rfl rfl 3 (by decide) (hts _ (List.mem_cons_of_mem _ tb_108)) (fun _ h => h) rfl d_K_load_9 ?_
    refine lv_aload_n hx hb d_K_load_12 rfl (lv_at hl 2 rfl) ?_
    obtain ⟨I4, J5, hc6, hf7⟩ := ob2_ex hf3
    refine jd_cv (va_runV (As := [.ref (ad 0)]) (rest := []) cx (cm_L_load l D ca ad hs hc6 s.heap.size) (cwV 1 hts (jd_gV tb_228 tb_229 tb_230 tb_45 tb_231) rfl rfl rfl ⟨rfl, by decide, by decide, rfl⟩ (by rw [hR]; decide)) ⟨jd_blind nWc, (va_recv hK hP (ci := 5) (q0 := 21) rfl rfl), (jd_pre (av := [.ref (ad 21), .ref (ad 0)]) hP hK (hD I0 J0) (fun U h => nWm h hN))⟩ rfl rfl hl.1 rfl (lv_room (Nat.le_of_ble_eq_true rfl)) d_K_load_13 ⟨Nat.zero_le _, Nat.zero_le _⟩) hS (hD I0 J0) hA (fun H8 L9 hP10 hS11 => ?_)
    refine lv_aload_n hx hb d_K_load_16 rfl (lv_at hl 2 rfl) ?_
    refine va_get (D := D) (ci := 0) (v := .ref (ad 6)) (C := R_H) (T := F_H) (N := 9) hx hb hts (fun w h => List.mem_cons_of_mem _ (uw_H w h)) hown hK hP10 0 rfl rfl 5 (by decide) (hts _ (List.mem_cons_of_mem _ tb_550)) (fun _ h => h) rfl d_K_load_17 ?_
    refine lv_aload_n hx hb d_K_load_20 rfl (lv_at hl 0 rfl) ?_
    refine va_get (D := D) (ci := 3) (v := .ref (ad 21)) (C := R_K) (T := F_K) (N := 5) hx hb hts (fun w h => List.mem_cons_of_mem _ (uw_K w h)) hown hK hP10 15 rfl rfl 3 (by decide) (hts _ (List.mem_cons_of_mem _ tb_108)) (fun _ h => h) rfl d_K_load_21 ?_
    refine lv_aload_n hx hb d_K_load_24 rfl (lv_at hl 2 rfl) ?_
    obtain ⟨y12, hc13, hf14⟩ := ob1_ex hf7
    refine jd_cl (va_runV (As := [.ref (ad 0)]) (rest := [.ref (ad 6)]) cx (cm_L_total l D ca ad hs hc13 H8.size) (cwV 1 hts (jd_gV tb_261 tb_262 tb_263 tb_45 tb_264) rfl rfl rfl ⟨rfl, by decide, by decide, rfl⟩ (by rw [hR]; decide)) ⟨jd_blind nWc, (va_recv hK hP10 (ci := 5) (q0 := 21) rfl rfl), (jd_pre (av := [.ref (ad 21), .ref (ad 0)]) hP10 hK (hD I4 J5) (fun U h => nWm h hN))⟩ rfl rfl hl.1 rfl (lv_room (Nat.le_of_ble_eq_true rfl)) d_K_load_25 ⟨Nat.zero_le _, Nat.zero_le _⟩) hS11 (hD I4 J5) hA (fun H15 L16 hP17 hS18 => ?_)
    obtain ⟨J19, e20, hf21⟩ := bnd_ex hf14
    refine va_put (D := D) (ci := 1) (v := .long y12) (ty := .long) (C := R_T) (T := F_T) (N := 4) hx hb hts (fun w h => List.mem_cons_of_mem _ (uw_T w h)) ft_T tk_T n_T hown hK hP17 (hD I4 J5) hS18 6 rfl rfl 1 (by decide) (hts _ (List.mem_cons_of_mem _ tb_488)) (fun _ h => h) rfl (by decide +kernel) rfl rfl (Nat.le_of_ble_eq_true rfl) d_K_load_28 (fun H22 L23 hp26 _ hS25 => ?_)
    have hP24 : va_P D cls_all (wC ca ad hs I4 J19) H22 := by rw [e20]; exact hp26
    refine lv_aload_n hx hb d_K_load_31 rfl (lv_at hl 0 rfl) ?_
    refine lv_iload_n hx hb d_K_load_32 rfl (lv_at hl 1 rfl) ?_
    obtain ⟨I27, e28, hf29⟩ := bnd_ex hf21
    refine va_put (D := D) (ci := 3) (v := .int p0) (ty := .int) (C := R_K) (T := F_K) (N := 5) hx hb hts (fun w h => List.mem_cons_of_mem _ (uw_K w h)) ft_K tk_K n_K hown hK hP24 (hD I4 J19) hS25 15 rfl rfl 4 (by decide) (hts _ (List.mem_cons_of_mem _ tb_109)) (fun _ h => h) rfl (by decide +kernel) rfl rfl (Nat.le_of_ble_eq_true rfl) d_K_load_33 (fun H30 L31 hp34 _ hS33 => ?_)
    have hP32 : va_P D cls_all (wC ca ad hs I27 J19) H30 := by rw [e28]; exact hp34
    cases hf29
    exact hend H30 L31 36 ls hP32 hS33 d_K_load_36
theorem d_K_unload_0 : decode b_K_unload 0 = .ok (.aload_n 0, 1) := by decide +kernel
theorem d_K_unload_1 : decode b_K_unload 1 = .ok (.getfield 33, 3) := by decide +kernel
theorem d_K_unload_4 : decode b_K_unload 4 = .ok (.iload_n 1, 1) := by decide +kernel
theorem d_K_unload_5 : decode b_K_unload 5 = .ok (.if_icmp .ne 8, 3) := by decide +kernel
theorem d_K_unload_8 : decode b_K_unload 8 = .ok (.aload_n 0, 1) := by decide +kernel
theorem d_K_unload_9 : decode b_K_unload 9 = .ok (.iconst (-1), 1) := by decide +kernel
theorem d_K_unload_10 : decode b_K_unload 10 = .ok (.putfield 33, 3) := by decide +kernel
theorem d_K_unload_13 : decode b_K_unload 13 = .ok (.return_, 1) := by decide +kernel
def fm_K_unload (p0 : Int32) (I0 : IS) : Option (IS) :=
  if (I0 17 0) = p0 then bnd (sV I0 17 (-1 : Int32)) (fun I4 => some I4) else some I0
set_option maxHeartbeats 4000000 in
set_option maxRecDepth 100000 in
theorem cm_K_unload (l : Launch) (D : va_G) (ca : Nat → ClassId) (ad : Nat → Nat) (hs : Nat → Option Nat) {p0 : Int32} {I0 : IS} {J0 : JS} {r : IS} (hf : fm_K_unload p0 I0 = some r) : CtV l y_K_unload (Cond.code y_K_unload b_K_unload 2 none :: TB) { frames := 0, cells := 0, slots := 0, locals := 0 } [.ref (ad 15), .int p0] D cls_all (tysC ca) NN (wC ca ad hs I0 J0) (wC ca ad hs r J0) := by
  refine jd_metV (cc := b_K_unload) (by decide) rfl (Nat.le_of_ble_eq_true rfl) (lv := [(0, .ref (ad 15)), (1, .int p0)]) rfl ?_
  intro p e R s m args below meth c A Q ls cx hR hK hN hD0 hA hP hS hl hend
  have hx := cx.1
  have hb := cx.2.1
  have hml := cx.2.2.1
  have hown := cx.2.2.2.1
  have hts := cx.2.2.2.2
  have hD : ∀ I J, va_D A (wC ca ad hs I J) := fun I J => jd_Dc hD0 rfl
  unfold fm_K_unload at hf
  refine lv_aload_n hx hb d_K_unload_0 rfl (lv_at hl 0 rfl) ?_
  refine va_get (D := D) (ci := 3) (v := .int (I0 17 0)) (C := R_K) (T := F_K) (N := 5) hx hb hts (fun w h => List.mem_cons_of_mem _ (uw_K w h)) hown hK hP 15 rfl rfl 4 (by decide) (hts _ (List.mem_cons_of_mem _ tb_109)) (fun _ h => h) rfl d_K_unload_1 ?_
  refine lv_iload_n hx hb d_K_unload_4 rfl (lv_at hl 1 rfl) ?_
  refine lv_icmp_ne (tgt := 13) hx hb d_K_unload_5 rfl (fun h1 => ?_) (fun h1 => ?_)
  · have hf2 := ifn hf h1
    cases hf2
    exact hend s.heap [] 13 ls hP hS d_K_unload_13
  · have hf3 := ifp hf h1
    refine lv_aload_n hx hb d_K_unload_8 rfl (lv_at hl 0 rfl) ?_
    refine lv_iconst (v := -1) hx hb d_K_unload_9 (by decide) ?_
    obtain ⟨I4, e5, hf6⟩ := bnd_ex hf3
    refine va_put (D := D) (ci := 3) (v := .int (-1 : Int32)) (ty := .int) (C := R_K) (T := F_K) (N := 5) hx hb hts (fun w h => List.mem_cons_of_mem _ (uw_K w h)) ft_K tk_K n_K hown hK hP (hD I0 J0) hS 15 rfl rfl 4 (by decide) (hts _ (List.mem_cons_of_mem _ tb_109)) (fun _ h => h) rfl (by decide +kernel) rfl rfl (Nat.le_of_ble_eq_true rfl) d_K_unload_10 (fun H7 L8 hp11 _ hS10 => ?_)
    have hP9 : va_P D cls_all (wC ca ad hs I4 J0) H7 := by rw [e5]; exact hp11
    cases hf6
    exact hend H7 L8 13 ls hP9 hS10 d_K_unload_13
theorem d_K_total_0 : decode b_K_total 0 = .ok (.aload_n 2, 1) := by decide +kernel
theorem d_K_total_1 : decode b_K_total 1 = .ok (.getfield 115, 3) := by decide +kernel
theorem d_K_total_4 : decode b_K_total 4 = .ok (.getfield 131, 3) := by decide +kernel
theorem d_K_total_7 : decode b_K_total 7 = .ok (.lconst 0, 1) := by decide +kernel
theorem d_K_total_8 : decode b_K_total 8 = .ok (.lcmp, 1) := by decide +kernel
theorem d_K_total_9 : decode b_K_total 9 = .ok (.ifCond .ne 9, 3) := by decide +kernel
theorem d_K_total_12 : decode b_K_total 12 = .ok (.aload_n 0, 1) := by decide +kernel
theorem d_K_total_13 : decode b_K_total 13 = .ok (.iload_n 1, 1) := by decide +kernel
theorem d_K_total_14 : decode b_K_total 14 = .ok (.aload_n 2, 1) := by decide +kernel
theorem d_K_total_15 : decode b_K_total 15 = .ok (.invokevirtual 140, 3) := by decide +kernel
theorem d_K_total_18 : decode b_K_total 18 = .ok (.aload_n 2, 1) := by decide +kernel
theorem d_K_total_19 : decode b_K_total 19 = .ok (.getfield 115, 3) := by decide +kernel
theorem d_K_total_22 : decode b_K_total 22 = .ok (.getfield 131, 3) := by decide +kernel
theorem d_K_total_25 : decode b_K_total 25 = .ok (.lreturn, 1) := by decide +kernel
def fm_K_total (p0 : Int32) (I0 : IS) (J0 : JS) : Option (Int64 × IS × JS) :=
  if (lg_cmp (J0 0 0) (0 : Int64)) = 0 then ob2 (fm_K_load p0 I0 J0) (fun I4 J5 => some (J5 0 0, I4, J5)) else some (J0 0 0, I0, J0)
set_option maxHeartbeats 4000000 in
set_option maxRecDepth 100000 in
theorem cm_K_total (l : Launch) (D : va_G) (ca : Nat → ClassId) (ad : Nat → Nat) (hs : Nat → Option Nat) {p0 : Int32} {I0 : IS} {J0 : JS} {r : Int64 × IS × JS} (hf : fm_K_total p0 I0 J0 = some r) : CtL l y_K_total (Cond.code y_K_total b_K_total 3 (some .long) :: TB) { frames := 6, cells := 0, slots := 0, locals := 131 } [.ref (ad 15), .int p0, .ref (ad 0)] D cls_all (tysC ca) NN (wC ca ad hs I0 J0) (wC ca ad hs r.2.1 r.2.2) r.1 := by
  refine jd_metL (cc := b_K_total) (by decide) rfl (Nat.le_of_ble_eq_true rfl) (lv := [(0, .ref (ad 15)), (1, .int p0), (2, .ref (ad 0))]) rfl ?_
  intro p e R s m args below meth c A Q ls cx hR hK hN hD0 hA hP hS hl hend
  have hx := cx.1
  have hb := cx.2.1
  have hml := cx.2.2.1
  have hown := cx.2.2.2.1
  have hts := cx.2.2.2.2
  have hD : ∀ I J, va_D A (wC ca ad hs I J) := fun I J => jd_Dc hD0 rfl
  unfold fm_K_total at hf
  refine lv_aload_n hx hb d_K_total_0 rfl (lv_at hl 2 rfl) ?_
  refine va_get (D := D) (ci := 0) (v := .ref (ad 6)) (C := R_H) (T := F_H) (N := 9) hx hb hts (fun w h => List.mem_cons_of_mem _ (uw_H w h)) hown hK hP 0 rfl rfl 5 (by decide) (hts _ (List.mem_cons_of_mem _ tb_550)) (fun _ h => h) rfl d_K_total_1 ?_
  refine va_get (D := D) (ci := 1) (v := .long (J0 0 0)) (C := R_T) (T := F_T) (N := 4) hx hb hts (fun w h => List.mem_cons_of_mem _ (uw_T w h)) hown hK hP 6 rfl rfl 1 (by decide) (hts _ (List.mem_cons_of_mem _ tb_488)) (fun _ h => h) rfl d_K_total_4 ?_
  refine lv_lconst (v := 0) hx hb d_K_total_7 (by decide) ?_
  refine W.lcmp hx hb d_K_total_8 ?_
  refine lv_if_ne (tgt := 18) hx hb d_K_total_9 rfl (fun h1 => ?_) (fun h1 => ?_)
  · have hf2 := ifn hf h1
    refine lv_aload_n hx hb d_K_total_18 rfl (lv_at hl 2 rfl) ?_
    refine va_get (D := D) (ci := 0) (v := .ref (ad 6)) (C := R_H) (T := F_H) (N := 9) hx hb hts (fun w h => List.mem_cons_of_mem _ (uw_H w h)) hown hK hP 0 rfl rfl 5 (by decide) (hts _ (List.mem_cons_of_mem _ tb_550)) (fun _ h => h) rfl d_K_total_19 ?_
    refine va_get (D := D) (ci := 1) (v := .long (J0 0 0)) (C := R_T) (T := F_T) (N := 4) hx hb hts (fun w h => List.mem_cons_of_mem _ (uw_T w h)) hown hK hP 6 rfl rfl 1 (by decide) (hts _ (List.mem_cons_of_mem _ tb_488)) (fun _ h => h) rfl d_K_total_22 ?_
    cases hf2
    exact hend s.heap [] 25 ls hP hS d_K_total_25
  · have hf3 := ifp hf h1
    refine lv_aload_n hx hb d_K_total_12 rfl (lv_at hl 0 rfl) ?_
    refine lv_iload_n hx hb d_K_total_13 rfl (lv_at hl 1 rfl) ?_
    refine lv_aload_n hx hb d_K_total_14 rfl (lv_at hl 2 rfl) ?_
    obtain ⟨I4, J5, hc6, hf7⟩ := ob2_ex hf3
    refine jd_cv (va_runV (As := [.int p0, .ref (ad 0)]) (rest := []) cx (cm_K_load l D ca ad hs hc6 s.heap.size) (cwV 2 hts (jd_gV tb_225 tb_226 tb_8 tb_43 tb_227) rfl rfl rfl ⟨rfl, by decide, by decide, rfl⟩ (by rw [hR]; decide)) ⟨jd_blind nWc, (va_recv hK hP (ci := 3) (q0 := 15) rfl rfl), (jd_pre (av := [.ref (ad 15), .int p0, .ref (ad 0)]) hP hK (hD I0 J0) (fun U h => nWm h hN))⟩ rfl rfl hl.1 rfl (lv_room (Nat.le_of_ble_eq_true rfl)) d_K_total_15 ⟨Nat.zero_le _, Nat.zero_le _⟩) hS (hD I0 J0) hA (fun H8 L9 hP10 hS11 => ?_)
    refine lv_aload_n hx hb d_K_total_18 rfl (lv_at hl 2 rfl) ?_
    refine va_get (D := D) (ci := 0) (v := .ref (ad 6)) (C := R_H) (T := F_H) (N := 9) hx hb hts (fun w h => List.mem_cons_of_mem _ (uw_H w h)) hown hK hP10 0 rfl rfl 5 (by decide) (hts _ (List.mem_cons_of_mem _ tb_550)) (fun _ h => h) rfl d_K_total_19 ?_
    refine va_get (D := D) (ci := 1) (v := .long (J5 0 0)) (C := R_T) (T := F_T) (N := 4) hx hb hts (fun w h => List.mem_cons_of_mem _ (uw_T w h)) hown hK hP10 6 rfl rfl 1 (by decide) (hts _ (List.mem_cons_of_mem _ tb_488)) (fun _ h => h) rfl d_K_total_22 ?_
    cases hf7
    exact hend H8 L9 25 ls hP10 hS11 d_K_total_25
theorem d_K_tally_0 : decode b_K_tally 0 = .ok (.aload_n 2, 1) := by decide +kernel
theorem d_K_tally_1 : decode b_K_tally 1 = .ok (.getfield 115, 3) := by decide +kernel
theorem d_K_tally_4 : decode b_K_tally 4 = .ok (.getfield 191, 3) := by decide +kernel
theorem d_K_tally_7 : decode b_K_tally 7 = .ok (.ifCond .ne 17, 3) := by decide +kernel
theorem d_K_tally_10 : decode b_K_tally 10 = .ok (.aload_n 0, 1) := by decide +kernel
theorem d_K_tally_11 : decode b_K_tally 11 = .ok (.iload_n 1, 1) := by decide +kernel
theorem d_K_tally_12 : decode b_K_tally 12 = .ok (.aload_n 2, 1) := by decide +kernel
theorem d_K_tally_13 : decode b_K_tally 13 = .ok (.invokevirtual 140, 3) := by decide +kernel
theorem d_K_tally_16 : decode b_K_tally 16 = .ok (.aload_n 0, 1) := by decide +kernel
theorem d_K_tally_17 : decode b_K_tally 17 = .ok (.getfield 29, 3) := by decide +kernel
theorem d_K_tally_20 : decode b_K_tally 20 = .ok (.aload_n 2, 1) := by decide +kernel
theorem d_K_tally_21 : decode b_K_tally 21 = .ok (.invokevirtual 195, 3) := by decide +kernel
theorem d_K_tally_24 : decode b_K_tally 24 = .ok (.return_, 1) := by decide +kernel
def fm_K_tally (p0 : Int32) (I0 : IS) (J0 : JS) : Option (IS × JS) :=
  if (I0 7 0) = 0 then ob2 (fm_K_load p0 I0 J0) (fun I4 J5 => ob2 (fm_L_fill I4 J5) (fun I12 J13 => some (I12, J13))) else some (I0, J0)
set_option maxHeartbeats 4000000 in
set_option maxRecDepth 100000 in
theorem cm_K_tally (l : Launch) (D : va_G) (ca : Nat → ClassId) (ad : Nat → Nat) (hs : Nat → Option Nat) {p0 : Int32} {I0 : IS} {J0 : JS} {r : IS × JS} (hf : fm_K_tally p0 I0 J0 = some r) : CtV l y_K_tally (Cond.code y_K_tally b_K_tally 3 none :: TB) { frames := 6, cells := 0, slots := 0, locals := 131 } [.ref (ad 15), .int p0, .ref (ad 0)] D cls_all (tysC ca) NN (wC ca ad hs I0 J0) (wC ca ad hs r.1 r.2) := by
  refine jd_metV (cc := b_K_tally) (by decide) rfl (Nat.le_of_ble_eq_true rfl) (lv := [(0, .ref (ad 15)), (1, .int p0), (2, .ref (ad 0))]) rfl ?_
  intro p e R s m args below meth c A Q ls cx hR hK hN hD0 hA hP hS hl hend
  have hx := cx.1
  have hb := cx.2.1
  have hml := cx.2.2.1
  have hown := cx.2.2.2.1
  have hts := cx.2.2.2.2
  have hD : ∀ I J, va_D A (wC ca ad hs I J) := fun I J => jd_Dc hD0 rfl
  unfold fm_K_tally at hf
  refine lv_aload_n hx hb d_K_tally_0 rfl (lv_at hl 2 rfl) ?_
  refine va_get (D := D) (ci := 0) (v := .ref (ad 6)) (C := R_H) (T := F_H) (N := 9) hx hb hts (fun w h => List.mem_cons_of_mem _ (uw_H w h)) hown hK hP 0 rfl rfl 5 (by decide) (hts _ (List.mem_cons_of_mem _ tb_550)) (fun _ h => h) rfl d_K_tally_1 ?_
  refine va_get (D := D) (ci := 1) (v := .int (I0 7 0)) (C := R_T) (T := F_T) (N := 4) hx hb hts (fun w h => List.mem_cons_of_mem _ (uw_T w h)) hown hK hP 6 rfl rfl 0 (by decide) (hts _ (List.mem_cons_of_mem _ tb_486)) (fun _ h => h) rfl d_K_tally_4 ?_
  refine lv_if_ne (tgt := 24) hx hb d_K_tally_7 rfl (fun h1 => ?_) (fun h1 => ?_)
  · have hf2 := ifn hf h1
    cases hf2
    exact hend s.heap [] 24 ls hP hS d_K_tally_24
  · have hf3 := ifp hf h1
    refine lv_aload_n hx hb d_K_tally_10 rfl (lv_at hl 0 rfl) ?_
    refine lv_iload_n hx hb d_K_tally_11 rfl (lv_at hl 1 rfl) ?_
    refine lv_aload_n hx hb d_K_tally_12 rfl (lv_at hl 2 rfl) ?_
    obtain ⟨I4, J5, hc6, hf7⟩ := ob2_ex hf3
    refine jd_cv (va_runV (As := [.int p0, .ref (ad 0)]) (rest := []) cx (cm_K_load l D ca ad hs hc6 s.heap.size) (cwV 2 hts (jd_gV tb_225 tb_226 tb_8 tb_43 tb_227) rfl rfl rfl ⟨rfl, by decide, by decide, rfl⟩ (by rw [hR]; decide)) ⟨jd_blind nWc, (va_recv hK hP (ci := 3) (q0 := 15) rfl rfl), (jd_pre (av := [.ref (ad 15), .int p0, .ref (ad 0)]) hP hK (hD I0 J0) (fun U h => nWm h hN))⟩ rfl rfl hl.1 rfl (lv_room (Nat.le_of_ble_eq_true rfl)) d_K_tally_13 ⟨Nat.zero_le _, Nat.zero_le _⟩) hS (hD I0 J0) hA (fun H8 L9 hP10 hS11 => ?_)
    refine lv_aload_n hx hb d_K_tally_16 rfl (lv_at hl 0 rfl) ?_
    refine va_get (D := D) (ci := 3) (v := .ref (ad 21)) (C := R_K) (T := F_K) (N := 5) hx hb hts (fun w h => List.mem_cons_of_mem _ (uw_K w h)) hown hK hP10 15 rfl rfl 3 (by decide) (hts _ (List.mem_cons_of_mem _ tb_108)) (fun _ h => h) rfl d_K_tally_17 ?_
    refine lv_aload_n hx hb d_K_tally_20 rfl (lv_at hl 2 rfl) ?_
    obtain ⟨I12, J13, hc14, hf15⟩ := ob2_ex hf7
    refine jd_cv (va_runV (As := [.ref (ad 0)]) (rest := []) cx (cm_L_fill l D ca ad hs hc14 H8.size) (cwV 1 hts (jd_gV tb_272 tb_273 tb_274 tb_45 tb_275) rfl rfl rfl ⟨rfl, by decide, by decide, rfl⟩ (by rw [hR]; decide)) ⟨jd_blind nWc, (va_recv hK hP10 (ci := 5) (q0 := 21) rfl rfl), (jd_pre (av := [.ref (ad 21), .ref (ad 0)]) hP10 hK (hD I4 J5) (fun U h => nWm h hN))⟩ rfl rfl hl.1 rfl (lv_room (Nat.le_of_ble_eq_true rfl)) d_K_tally_21 ⟨Nat.zero_le _, Nat.zero_le _⟩) hS11 (hD I4 J5) hA (fun H16 L17 hP18 hS19 => ?_)
    cases hf15
    exact hend H16 L17 24 ls hP18 hS19 d_K_tally_24
theorem d_K_rowsOf_0 : decode b_K_rowsOf 0 = .ok (.aload_n 0, 1) := by decide +kernel
theorem d_K_rowsOf_1 : decode b_K_rowsOf 1 = .ok (.getfield 197, 3) := by decide +kernel
theorem d_K_rowsOf_4 : decode b_K_rowsOf 4 = .ok (.getfield 201, 3) := by decide +kernel
theorem d_K_rowsOf_7 : decode b_K_rowsOf 7 = .ok (.ifCond .ne 11, 3) := by decide +kernel
theorem d_K_rowsOf_10 : decode b_K_rowsOf 10 = .ok (.aload_n 0, 1) := by decide +kernel
theorem d_K_rowsOf_11 : decode b_K_rowsOf 11 = .ok (.getfield 197, 3) := by decide +kernel
theorem d_K_rowsOf_14 : decode b_K_rowsOf 14 = .ok (.aload_n 0, 1) := by decide +kernel
theorem d_K_rowsOf_15 : decode b_K_rowsOf 15 = .ok (.invokevirtual 202, 3) := by decide +kernel
theorem d_K_rowsOf_18 : decode b_K_rowsOf 18 = .ok (.aload_n 0, 1) := by decide +kernel
theorem d_K_rowsOf_19 : decode b_K_rowsOf 19 = .ok (.getfield 197, 3) := by decide +kernel
theorem d_K_rowsOf_22 : decode b_K_rowsOf 22 = .ok (.areturn, 1) := by decide +kernel
def fm_K_rowsOf (I0 : IS) : Option (IS) :=
  if (I0 8 0) = 0 then ob1 (fm_R_arrange I0) (fun I4 => some I4) else some I0
set_option maxHeartbeats 4000000 in
set_option maxRecDepth 100000 in
theorem cm_K_rowsOf (l : Launch) (D : va_G) (ca : Nat → ClassId) (ad : Nat → Nat) (hs : Nat → Option Nat) {I0 : IS} {J0 : JS} {r : IS} (hf : fm_K_rowsOf I0 = some r) : CtQ l y_K_rowsOf (Cond.code y_K_rowsOf b_K_rowsOf 1 (some (.object "JuryDesk$Rows")) :: TB) { frames := 6, cells := 0, slots := 0, locals := 150 } [.ref (ad 0)] D cls_all (tysC ca) NN (wC ca ad hs I0 J0) (wC ca ad hs r J0) (some (ad 9)) := by
  refine jd_metQ (cc := b_K_rowsOf) (by decide) rfl (Nat.le_of_ble_eq_true rfl) (lv := [(0, .ref (ad 0))]) rfl ?_
  intro p e R s m args below meth c A Q ls cx hR hK hN hD0 hA hP hS hl hend
  have hx := cx.1
  have hb := cx.2.1
  have hml := cx.2.2.1
  have hown := cx.2.2.2.1
  have hts := cx.2.2.2.2
  have hD : ∀ I J, va_D A (wC ca ad hs I J) := fun I J => jd_Dc hD0 rfl
  unfold fm_K_rowsOf at hf
  refine lv_aload_n hx hb d_K_rowsOf_0 rfl (lv_at hl 0 rfl) ?_
  refine va_get (D := D) (ci := 0) (v := .ref (ad 9)) (C := R_H) (T := F_H) (N := 9) hx hb hts (fun w h => List.mem_cons_of_mem _ (uw_H w h)) hown hK hP 0 rfl rfl 6 (by decide) (hts _ (List.mem_cons_of_mem _ tb_552)) (fun _ h => h) rfl d_K_rowsOf_1 ?_
  refine va_get (D := D) (ci := 2) (v := .int (I0 8 0)) (C := R_R) (T := F_R) (N := 8) hx hb hts (fun w h => List.mem_cons_of_mem _ (uw_R w h)) hown hK hP 9 rfl rfl 0 (by decide) (hts _ (List.mem_cons_of_mem _ tb_509)) (fun _ h => h) rfl d_K_rowsOf_4 ?_
  refine lv_if_ne (tgt := 18) hx hb d_K_rowsOf_7 rfl (fun h1 => ?_) (fun h1 => ?_)
  · have hf2 := ifn hf h1
    refine lv_aload_n hx hb d_K_rowsOf_18 rfl (lv_at hl 0 rfl) ?_
    refine va_get (D := D) (ci := 0) (v := .ref (ad 9)) (C := R_H) (T := F_H) (N := 9) hx hb hts (fun w h => List.mem_cons_of_mem _ (uw_H w h)) hown hK hP 0 rfl rfl 6 (by decide) (hts _ (List.mem_cons_of_mem _ tb_552)) (fun _ h => h) rfl d_K_rowsOf_19 ?_
    cases hf2
    exact hend s.heap [] 22 ls hP hS d_K_rowsOf_22
  · have hf3 := ifp hf h1
    refine lv_aload_n hx hb d_K_rowsOf_10 rfl (lv_at hl 0 rfl) ?_
    refine va_get (D := D) (ci := 0) (v := .ref (ad 9)) (C := R_H) (T := F_H) (N := 9) hx hb hts (fun w h => List.mem_cons_of_mem _ (uw_H w h)) hown hK hP 0 rfl rfl 6 (by decide) (hts _ (List.mem_cons_of_mem _ tb_552)) (fun _ h => h) rfl d_K_rowsOf_11 ?_
    refine lv_aload_n hx hb d_K_rowsOf_14 rfl (lv_at hl 0 rfl) ?_
    obtain ⟨I4, hc5, hf6⟩ := ob1_ex hf3
    refine jd_cv (va_runV (As := [.ref (ad 0)]) (rest := []) cx (cm_R_arrange l D ca ad hs hc5 s.heap.size) (cwV 1 hts (jd_gV tb_363 tb_364 tb_365 tb_54 tb_366) rfl rfl rfl ⟨rfl, by decide, by decide, rfl⟩ (by rw [hR]; decide)) ⟨jd_blind nWc, (va_recv hK hP (ci := 2) (q0 := 9) rfl rfl), (jd_pre (av := [.ref (ad 9), .ref (ad 0)]) hP hK (hD I0 J0) (fun U h => nWm h hN))⟩ rfl rfl hl.1 rfl (lv_room (Nat.le_of_ble_eq_true rfl)) d_K_rowsOf_15 ⟨Nat.zero_le _, Nat.zero_le _⟩) hS (hD I0 J0) hA (fun H7 L8 hP9 hS10 => ?_)
    refine lv_aload_n hx hb d_K_rowsOf_18 rfl (lv_at hl 0 rfl) ?_
    refine va_get (D := D) (ci := 0) (v := .ref (ad 9)) (C := R_H) (T := F_H) (N := 9) hx hb hts (fun w h => List.mem_cons_of_mem _ (uw_H w h)) hown hK hP9 0 rfl rfl 6 (by decide) (hts _ (List.mem_cons_of_mem _ tb_552)) (fun _ h => h) rfl d_K_rowsOf_19 ?_
    cases hf6
    exact hend H7 L8 22 ls hP9 hS10 d_K_rowsOf_22
theorem d_K_find_0 : decode b_K_find 0 = .ok (.iload_n 1, 1) := by decide +kernel
theorem d_K_find_1 : decode b_K_find 1 = .ok (.ifCond .lt 9, 3) := by decide +kernel
theorem d_K_find_4 : decode b_K_find 4 = .ok (.iload_n 1, 1) := by decide +kernel
theorem d_K_find_5 : decode b_K_find 5 = .ok (.bipush 12, 2) := by decide +kernel
theorem d_K_find_7 : decode b_K_find 7 = .ok (.if_icmp .lt 7, 3) := by decide +kernel
theorem d_K_find_10 : decode b_K_find 10 = .ok (.aconst_null, 1) := by decide +kernel
theorem d_K_find_11 : decode b_K_find 11 = .ok (.goto 9, 3) := by decide +kernel
theorem d_K_find_14 : decode b_K_find 14 = .ok (.aload_n 0, 1) := by decide +kernel
theorem d_K_find_15 : decode b_K_find 15 = .ok (.getfield 11, 3) := by decide +kernel
theorem d_K_find_18 : decode b_K_find 18 = .ok (.iload_n 1, 1) := by decide +kernel
theorem d_K_find_19 : decode b_K_find 19 = .ok (.aaload, 1) := by decide +kernel
theorem d_K_find_20 : decode b_K_find 20 = .ok (.areturn, 1) := by decide +kernel
def fm_K_find (p0 : Int32) : Option (Unit) :=
  if p0 < 0 then none else if p0 < (12 : Int32) then grd (inB p0 12) (some ()) else none
set_option maxHeartbeats 4000000 in
set_option maxRecDepth 100000 in
theorem cm_K_find (l : Launch) (D : va_G) (ca : Nat → ClassId) (ad : Nat → Nat) (hs : Nat → Option Nat) {p0 : Int32} {I0 : IS} {J0 : JS} {r : Unit} (hh : hs p0.toNatClampNeg = some (ad 0)) (hf : fm_K_find p0 = some r) : CtQ l y_K_find (Cond.code y_K_find b_K_find 2 (some (.object "JuryDesk$Heat")) :: TB) { frames := 0, cells := 0, slots := 0, locals := 0 } [.ref (ad 15), .int p0] D cls_all (tysC ca) NN (wC ca ad hs I0 J0) (wC ca ad hs I0 J0) (some (ad 0)) := by
  refine jd_metQ (cc := b_K_find) (by decide) rfl (Nat.le_of_ble_eq_true rfl) (lv := [(0, .ref (ad 15)), (1, .int p0)]) rfl ?_
  intro p e R s m args below meth c A Q ls cx hR hK hN hD0 hA hP hS hl hend
  have hx := cx.1
  have hb := cx.2.1
  have hml := cx.2.2.1
  have hown := cx.2.2.2.1
  have hts := cx.2.2.2.2
  have hD : ∀ I J, va_D A (wC ca ad hs I J) := fun I J => jd_Dc hD0 rfl
  unfold fm_K_find at hf
  refine lv_iload_n hx hb d_K_find_0 rfl (lv_at hl 1 rfl) ?_
  refine lv_if_lt (tgt := 10) hx hb d_K_find_1 rfl (fun h1 => ?_) (fun h1 => ?_)
  · have hf2 := ifp hf h1
    cases hf2
  · have hf3 := ifn hf h1
    refine lv_iload_n hx hb d_K_find_4 rfl (lv_at hl 1 rfl) ?_
    refine lv_bipush (v := 12) hx hb d_K_find_5 (by decide) ?_
    refine lv_icmp_lt (tgt := 14) hx hb d_K_find_7 rfl (fun h4 => ?_) (fun h4 => ?_)
    · have hf5 := ifp hf3 h4
      refine lv_aload_n hx hb d_K_find_14 rfl (lv_at hl 0 rfl) ?_
      refine va_get (D := D) (ci := 3) (v := .ref (ad 16)) (C := R_K) (T := F_K) (N := 5) hx hb hts (fun w h => List.mem_cons_of_mem _ (uw_K w h)) hown hK hP 15 rfl rfl 0 (by decide) (hts _ (List.mem_cons_of_mem _ tb_105)) (fun _ h => h) rfl d_K_find_15 ?_
      refine lv_iload_n hx hb d_K_find_18 rfl (lv_at hl 1 rfl) ?_
      obtain ⟨hg7, hf8⟩ := grd_ex hf5
      refine jd_aldS hx hb hK hP 16 4 rfl rfl (inB_in hg7) hh d_K_find_19 ?_
      cases hf8
      exact hend s.heap [] 20 ls hP hS d_K_find_20
    · have hf6 := ifn hf3 h4
      cases hf6
theorem d_K_heat_0 : decode b_K_heat 0 = .ok (.iload_n 1, 1) := by decide +kernel
theorem d_K_heat_1 : decode b_K_heat 1 = .ok (.ifCond .lt 20, 3) := by decide +kernel
theorem d_K_heat_4 : decode b_K_heat 4 = .ok (.iload_n 1, 1) := by decide +kernel
theorem d_K_heat_5 : decode b_K_heat 5 = .ok (.bipush 12, 2) := by decide +kernel
theorem d_K_heat_7 : decode b_K_heat 7 = .ok (.if_icmp .ge 14, 3) := by decide +kernel
theorem d_K_heat_10 : decode b_K_heat 10 = .ok (.iload_n 2, 1) := by decide +kernel
theorem d_K_heat_11 : decode b_K_heat 11 = .ok (.iconst 1, 1) := by decide +kernel
theorem d_K_heat_12 : decode b_K_heat 12 = .ok (.if_icmp .lt 9, 3) := by decide +kernel
theorem d_K_heat_15 : decode b_K_heat 15 = .ok (.iload_n 2, 1) := by decide +kernel
theorem d_K_heat_16 : decode b_K_heat 16 = .ok (.bipush 16, 2) := by decide +kernel
theorem d_K_heat_18 : decode b_K_heat 18 = .ok (.if_icmp .le 13, 3) := by decide +kernel
theorem d_K_heat_21 : decode b_K_heat 21 = .ok (.new 43, 3) := by decide +kernel
theorem d_K_heat_24 : decode b_K_heat 24 = .ok (.dup, 1) := by decide +kernel
theorem d_K_heat_25 : decode b_K_heat 25 = .ok (.ldc 45, 2) := by decide +kernel
theorem d_K_heat_27 : decode b_K_heat 27 = .ok (.invokespecial 47, 3) := by decide +kernel
theorem d_K_heat_30 : decode b_K_heat 30 = .ok (.athrow, 1) := by decide +kernel
theorem d_K_heat_31 : decode b_K_heat 31 = .ok (.aload_n 0, 1) := by decide +kernel
theorem d_K_heat_32 : decode b_K_heat 32 = .ok (.getfield 11, 3) := by decide +kernel
theorem d_K_heat_35 : decode b_K_heat 35 = .ok (.iload_n 1, 1) := by decide +kernel
theorem d_K_heat_36 : decode b_K_heat 36 = .ok (.aaload, 1) := by decide +kernel
theorem d_K_heat_37 : decode b_K_heat 37 = .ok (.ifnonnull 16, 3) := by decide +kernel
theorem d_K_heat_40 : decode b_K_heat 40 = .ok (.aload_n 0, 1) := by decide +kernel
theorem d_K_heat_41 : decode b_K_heat 41 = .ok (.getfield 11, 3) := by decide +kernel
theorem d_K_heat_44 : decode b_K_heat 44 = .ok (.iload_n 1, 1) := by decide +kernel
theorem d_K_heat_45 : decode b_K_heat 45 = .ok (.new 9, 3) := by decide +kernel
theorem d_K_heat_48 : decode b_K_heat 48 = .ok (.dup, 1) := by decide +kernel
theorem d_K_heat_49 : decode b_K_heat 49 = .ok (.invokespecial 50, 3) := by decide +kernel
theorem d_K_heat_52 : decode b_K_heat 52 = .ok (.aastore, 1) := by decide +kernel
theorem d_K_heat_53 : decode b_K_heat 53 = .ok (.aload_n 0, 1) := by decide +kernel
theorem d_K_heat_54 : decode b_K_heat 54 = .ok (.getfield 11, 3) := by decide +kernel
theorem d_K_heat_57 : decode b_K_heat 57 = .ok (.iload_n 1, 1) := by decide +kernel
theorem d_K_heat_58 : decode b_K_heat 58 = .ok (.aaload, 1) := by decide +kernel
theorem d_K_heat_59 : decode b_K_heat 59 = .ok (.iload_n 2, 1) := by decide +kernel
theorem d_K_heat_60 : decode b_K_heat 60 = .ok (.invokevirtual 51, 3) := by decide +kernel
theorem d_K_heat_63 : decode b_K_heat 63 = .ok (.aload_n 0, 1) := by decide +kernel
theorem d_K_heat_64 : decode b_K_heat 64 = .ok (.iload_n 1, 1) := by decide +kernel
theorem d_K_heat_65 : decode b_K_heat 65 = .ok (.invokevirtual 55, 3) := by decide +kernel
theorem d_K_heat_68 : decode b_K_heat 68 = .ok (.return_, 1) := by decide +kernel
def fm_K_heat_j53 (p0 : Int32) (p1 : Int32) (I1 : IS) (J2 : JS) : Option (IS × JS) :=
  grd (inB p0 12) (ob2 (fm_H_begin p1 I1 J2) (fun I12 J13 => ob1 (fm_K_unload p0 I12) (fun I20 => some (I20, J13))))
def fm_K_heat (p0 : Int32) (p1 : Int32) (I0 : IS) (J0 : JS) : Option (IS × JS) :=
  if p0 < 0 then none else if (12 : Int32) ≤ p0 then none else if p1 < (1 : Int32) then none else if p1 ≤ (16 : Int32) then grd (inB p0 12) (fm_K_heat_j53 p0 p1 I0 J0) else none
set_option maxHeartbeats 4000000 in
set_option maxRecDepth 100000 in
theorem cm_K_heat (l : Launch) (D : va_G) (ca : Nat → ClassId) (ad : Nat → Nat) (hs : Nat → Option Nat) {p0 : Int32} {p1 : Int32} {I0 : IS} {J0 : JS} {r : IS × JS} (hh : hs p0.toNatClampNeg = some (ad 0)) (hf : fm_K_heat p0 p1 I0 J0 = some r) : CtV l y_K_heat (Cond.code y_K_heat b_K_heat 3 none :: TB) { frames := 4, cells := 0, slots := 0, locals := 85 } [.ref (ad 15), .int p0, .int p1] D cls_all (tysC ca) NN (wC ca ad hs I0 J0) (wC ca ad hs r.1 r.2) := by
  refine jd_metV (cc := b_K_heat) (by decide) rfl (Nat.le_of_ble_eq_true rfl) (lv := [(0, .ref (ad 15)), (1, .int p0), (2, .int p1)]) rfl ?_
  intro p e R s m args below meth c A Q ls cx hR hK hN hD0 hA hP hS hl hend
  have hx := cx.1
  have hb := cx.2.1
  have hml := cx.2.2.1
  have hown := cx.2.2.2.1
  have hts := cx.2.2.2.2
  have hD : ∀ I J, va_D A (wC ca ad hs I J) := fun I J => jd_Dc hD0 rfl
  unfold fm_K_heat at hf
  have kj53 : ∀ (I1 : IS) (J2 : JS), fm_K_heat_j53 p0 p1 I1 J2 = some r → ∀ (H3 : Heap) (L4 : List Loc) (ls5 : Array Slot), va_P D cls_all (wC ca ad hs I1 J2) H3 → va_S A s.heap H3 L4 → lv_has ls5 3 [(0, .ref (ad 15)), (1, .int p0), (2, .int p1)] → W p l e R s m args below meth c H3 L4 0 0 Q (F0 m 53 ls5 []) := by
    intro I1 J2 hf9 H3 L4 ls5 hP6 hS7 hl8
    unfold fm_K_heat_j53 at hf9
    refine lv_aload_n hx hb d_K_heat_53 rfl (lv_at hl8 0 rfl) ?_
    refine va_get (D := D) (ci := 3) (v := .ref (ad 16)) (C := R_K) (T := F_K) (N := 5) hx hb hts (fun w h => List.mem_cons_of_mem _ (uw_K w h)) hown hK hP6 15 rfl rfl 0 (by decide) (hts _ (List.mem_cons_of_mem _ tb_105)) (fun _ h => h) rfl d_K_heat_54 ?_
    refine lv_iload_n hx hb d_K_heat_57 rfl (lv_at hl8 1 rfl) ?_
    obtain ⟨hg10, hf11⟩ := grd_ex hf9
    refine jd_aldS hx hb hK hP6 16 4 rfl rfl (inB_in hg10) hh d_K_heat_58 ?_
    refine lv_iload_n hx hb d_K_heat_59 rfl (lv_at hl8 2 rfl) ?_
    obtain ⟨I12, J13, hc14, hf15⟩ := ob2_ex hf11
    refine jd_cv (va_runV (As := [.int p1]) (rest := []) cx (cm_H_begin l D ca ad hs hc14 H3.size) (cwV 1 hts (jd_gV tb_577 tb_578 tb_579 tb_52 tb_580) rfl rfl rfl ⟨rfl, by decide, by decide, rfl⟩ (by rw [hR]; decide)) ⟨jd_blind nWc, (va_recv hK hP6 (ci := 0) (q0 := 0) rfl rfl), (jd_pre (av := [.ref (ad 0), .int p1]) hP6 hK (hD I1 J2) (fun U h => nWm h hN))⟩ rfl rfl hl8.1 rfl (lv_room (Nat.le_of_ble_eq_true rfl)) d_K_heat_60 ⟨Nat.zero_le _, Nat.zero_le _⟩) hS7 (hD I1 J2) hA (fun H16 L17 hP18 hS19 => ?_)
    refine lv_aload_n hx hb d_K_heat_63 rfl (lv_at hl8 0 rfl) ?_
    refine lv_iload_n hx hb d_K_heat_64 rfl (lv_at hl8 1 rfl) ?_
    obtain ⟨I20, hc21, hf22⟩ := ob1_ex hf15
    refine jd_cv (va_runV (As := [.int p0]) (rest := []) cx (cm_K_unload l D ca ad hs hc21 H16.size) (cwV 1 hts (jd_gV tb_173 tb_174 tb_6 tb_43 tb_175) rfl rfl rfl ⟨rfl, by decide, by decide, rfl⟩ (by rw [hR]; decide)) ⟨jd_blind nWc, (va_recv hK hP18 (ci := 3) (q0 := 15) rfl rfl), (jd_pre (av := [.ref (ad 15), .int p0]) hP18 hK (hD I12 J13) (fun U h => nWm h hN))⟩ rfl rfl hl8.1 rfl (lv_room (Nat.le_of_ble_eq_true rfl)) d_K_heat_65 ⟨Nat.zero_le _, Nat.zero_le _⟩) hS19 (hD I12 J13) hA (fun H23 L24 hP25 hS26 => ?_)
    cases hf22
    exact hend H23 L24 68 ls5 hP25 hS26 d_K_heat_68
  refine lv_iload_n hx hb d_K_heat_0 rfl (lv_at hl 1 rfl) ?_
  refine lv_if_lt (tgt := 21) hx hb d_K_heat_1 rfl (fun h27 => ?_) (fun h27 => ?_)
  · have hf28 := ifp hf h27
    cases hf28
  · have hf29 := ifn hf h27
    refine lv_iload_n hx hb d_K_heat_4 rfl (lv_at hl 1 rfl) ?_
    refine lv_bipush (v := 12) hx hb d_K_heat_5 (by decide) ?_
    refine lv_icmp_ge (tgt := 21) hx hb d_K_heat_7 rfl (fun h30 => ?_) (fun h30 => ?_)
    · have hf31 := ifp hf29 h30
      cases hf31
    · have hf32 := ifn hf29 h30
      refine lv_iload_n hx hb d_K_heat_10 rfl (lv_at hl 2 rfl) ?_
      refine lv_iconst (v := 1) hx hb d_K_heat_11 (by decide) ?_
      refine lv_icmp_lt (tgt := 21) hx hb d_K_heat_12 rfl (fun h33 => ?_) (fun h33 => ?_)
      · have hf34 := ifp hf32 h33
        cases hf34
      · have hf35 := ifn hf32 h33
        refine lv_iload_n hx hb d_K_heat_15 rfl (lv_at hl 2 rfl) ?_
        refine lv_bipush (v := 16) hx hb d_K_heat_16 (by decide) ?_
        refine lv_icmp_le (tgt := 31) hx hb d_K_heat_18 rfl (fun h36 => ?_) (fun h36 => ?_)
        · have hf37 := ifp hf35 h36
          refine lv_aload_n hx hb d_K_heat_31 rfl (lv_at hl 0 rfl) ?_
          refine va_get (D := D) (ci := 3) (v := .ref (ad 16)) (C := R_K) (T := F_K) (N := 5) hx hb hts (fun w h => List.mem_cons_of_mem _ (uw_K w h)) hown hK hP 15 rfl rfl 0 (by decide) (hts _ (List.mem_cons_of_mem _ tb_105)) (fun _ h => h) rfl d_K_heat_32 ?_
          refine lv_iload_n hx hb d_K_heat_35 rfl (lv_at hl 1 rfl) ?_
          obtain ⟨hg39, hf40⟩ := grd_ex hf37
          refine jd_aldS hx hb hK hP 16 4 rfl rfl (inB_in hg39) hh d_K_heat_36 ?_
          refine lv_ifnonnull (tgt := 53) hx hb d_K_heat_37 rfl ?_
          exact kj53 I0 J0 hf40 s.heap [] ls hP hS (lv_sub hl [0, 1, 2] rfl)
        · have hf38 := ifn hf35 h36
          cases hf38
theorem d_K_better_0 : decode b_K_better 0 = .ok (.aload_n 0, 1) := by decide +kernel
theorem d_K_better_1 : decode b_K_better 1 = .ok (.iload_n 1, 1) := by decide +kernel
theorem d_K_better_2 : decode b_K_better 2 = .ok (.invokevirtual 58, 3) := by decide +kernel
theorem d_K_better_5 : decode b_K_better 5 = .ok (.astore 4, 2) := by decide +kernel
theorem d_K_better_7 : decode b_K_better 7 = .ok (.aload 4, 2) := by decide +kernel
theorem d_K_better_9 : decode b_K_better 9 = .ok (.ifnull 21, 3) := by decide +kernel
theorem d_K_better_12 : decode b_K_better 12 = .ok (.aload 4, 2) := by decide +kernel
theorem d_K_better_14 : decode b_K_better 14 = .ok (.iload_n 2, 1) := by decide +kernel
theorem d_K_better_15 : decode b_K_better 15 = .ok (.invokevirtual 62, 3) := by decide +kernel
theorem d_K_better_18 : decode b_K_better 18 = .ok (.ifCond .eq 12, 3) := by decide +kernel
theorem d_K_better_21 : decode b_K_better 21 = .ok (.aload 4, 2) := by decide +kernel
theorem d_K_better_23 : decode b_K_better 23 = .ok (.iload_n 3, 1) := by decide +kernel
theorem d_K_better_24 : decode b_K_better 24 = .ok (.invokevirtual 62, 3) := by decide +kernel
theorem d_K_better_27 : decode b_K_better 27 = .ok (.ifCond .ne 5, 3) := by decide +kernel
theorem d_K_better_30 : decode b_K_better 30 = .ok (.iconst (-1), 1) := by decide +kernel
theorem d_K_better_31 : decode b_K_better 31 = .ok (.ireturn, 1) := by decide +kernel
theorem d_K_better_32 : decode b_K_better 32 = .ok (.iload_n 2, 1) := by decide +kernel
theorem d_K_better_33 : decode b_K_better 33 = .ok (.iload_n 3, 1) := by decide +kernel
theorem d_K_better_34 : decode b_K_better 34 = .ok (.if_icmp .eq 13, 3) := by decide +kernel
theorem d_K_better_37 : decode b_K_better 37 = .ok (.aload 4, 2) := by decide +kernel
theorem d_K_better_39 : decode b_K_better 39 = .ok (.iload_n 3, 1) := by decide +kernel
theorem d_K_better_40 : decode b_K_better 40 = .ok (.iload_n 2, 1) := by decide +kernel
theorem d_K_better_41 : decode b_K_better 41 = .ok (.invokevirtual 66, 3) := by decide +kernel
theorem d_K_better_44 : decode b_K_better 44 = .ok (.ifCond .eq 16, 3) := by decide +kernel
theorem d_K_better_47 : decode b_K_better 47 = .ok (.aload_n 0, 1) := by decide +kernel
theorem d_K_better_48 : decode b_K_better 48 = .ok (.getfield 22, 3) := by decide +kernel
theorem d_K_better_51 : decode b_K_better 51 = .ok (.aload 4, 2) := by decide +kernel
theorem d_K_better_53 : decode b_K_better 53 = .ok (.iload_n 3, 1) := by decide +kernel
theorem d_K_better_54 : decode b_K_better 54 = .ok (.iload_n 2, 1) := by decide +kernel
theorem d_K_better_55 : decode b_K_better 55 = .ok (.invokevirtual 70, 3) := by decide +kernel
theorem d_K_better_58 : decode b_K_better 58 = .ok (.iconst 0, 1) := by decide +kernel
theorem d_K_better_59 : decode b_K_better 59 = .ok (.ireturn, 1) := by decide +kernel
theorem d_K_better_60 : decode b_K_better 60 = .ok (.aload 4, 2) := by decide +kernel
theorem d_K_better_62 : decode b_K_better 62 = .ok (.getfield 74, 3) := by decide +kernel
theorem d_K_better_65 : decode b_K_better 65 = .ok (.sipush 400, 3) := by decide +kernel
theorem d_K_better_68 : decode b_K_better 68 = .ok (.if_icmp .lt 6, 3) := by decide +kernel
theorem d_K_better_71 : decode b_K_better 71 = .ok (.bipush (-2), 2) := by decide +kernel
theorem d_K_better_73 : decode b_K_better 73 = .ok (.ireturn, 1) := by decide +kernel
theorem d_K_better_74 : decode b_K_better 74 = .ok (.aload 4, 2) := by decide +kernel
theorem d_K_better_76 : decode b_K_better 76 = .ok (.iload_n 2, 1) := by decide +kernel
theorem d_K_better_77 : decode b_K_better 77 = .ok (.iload_n 3, 1) := by decide +kernel
theorem d_K_better_78 : decode b_K_better 78 = .ok (.invokevirtual 77, 3) := by decide +kernel
theorem d_K_better_81 : decode b_K_better 81 = .ok (.aload_n 0, 1) := by decide +kernel
theorem d_K_better_82 : decode b_K_better 82 = .ok (.iload_n 1, 1) := by decide +kernel
theorem d_K_better_83 : decode b_K_better 83 = .ok (.invokevirtual 55, 3) := by decide +kernel
theorem d_K_better_86 : decode b_K_better 86 = .ok (.aload 4, 2) := by decide +kernel
theorem d_K_better_88 : decode b_K_better 88 = .ok (.getfield 74, 3) := by decide +kernel
theorem d_K_better_91 : decode b_K_better 91 = .ok (.ireturn, 1) := by decide +kernel
def fm_K_better (p0 : Int32) (p1 : Int32) (p2 : Int32) (I0 : IS) (J0 : JS) : Option (Int32 × IS × JS) :=
  ob1 (fm_K_find p0) (fun _ => ob1 (fm_H_has p1 I0) (fun x9 => if x9 = 0 then some ((-1 : Int32), I0, J0) else ob1 (fm_H_has p2 I0) (fun x19 => if x19 = 0 then some ((-1 : Int32), I0, J0) else if p1 = p2 then ob1 (fm_S_trace p2 p1 I0) (fun I32 => some ((0 : Int32), I32, J0)) else ob1 (fm_H_isAbove p2 p1 I0) (fun x39 => if x39 = 0 then if (I0 6 0) < (400 : Int32) then ob2 (fm_H_write p1 p2 I0 J0) (fun I52 J53 => ob1 (fm_K_unload p0 I52) (fun I60 => some (I60 6 0, I60, J53))) else some ((-2 : Int32), I0, J0) else ob1 (fm_S_trace p2 p1 I0) (fun I67 => some ((0 : Int32), I67, J0))))))
set_option maxHeartbeats 4000000 in
set_option maxRecDepth 100000 in
theorem cm_K_better (l : Launch) (D : va_G) (ca : Nat → ClassId) (ad : Nat → Nat) (hs : Nat → Option Nat) {p0 : Int32} {p1 : Int32} {p2 : Int32} {I0 : IS} {J0 : JS} {r : Int32 × IS × JS} (hh : hs p0.toNatClampNeg = some (ad 0)) (hf : fm_K_better p0 p1 p2 I0 J0 = some r) : CtI l y_K_better (Cond.code y_K_better b_K_better 5 (some .int) :: TB) { frames := 4, cells := 0, slots := 0, locals := 93 } [.ref (ad 15), .int p0, .int p1, .int p2] D cls_all (tysC ca) NN (wC ca ad hs I0 J0) (wC ca ad hs r.2.1 r.2.2) r.1 := by
  refine jd_metI (cc := b_K_better) (by decide) rfl (Nat.le_of_ble_eq_true rfl) (lv := [(0, .ref (ad 15)), (1, .int p0), (2, .int p1), (3, .int p2)]) rfl ?_
  intro p e R s m args below meth c A Q ls cx hR hK hN hD0 hA hP hS hl hend
  have hx := cx.1
  have hb := cx.2.1
  have hml := cx.2.2.1
  have hown := cx.2.2.2.1
  have hts := cx.2.2.2.2
  have hD : ∀ I J, va_D A (wC ca ad hs I J) := fun I J => jd_Dc hD0 rfl
  unfold fm_K_better at hf
  refine lv_aload_n hx hb d_K_better_0 rfl (lv_at hl 0 rfl) ?_
  refine lv_iload_n hx hb d_K_better_1 rfl (lv_at hl 1 rfl) ?_
  obtain ⟨_, hc1, hf2⟩ := ob1_ex hf
  refine jd_cq (va_runV (As := [.int p0]) (rest := []) cx (cm_K_find l D ca ad hs hh hc1 s.heap.size) (cwV 1 hts (jd_gV tb_124 tb_125 tb_0 tb_43 tb_126) rfl rfl rfl ⟨rfl, by decide, by decide, rfl⟩ (by rw [hR]; decide)) ⟨jd_blind nWc, (va_recv hK hP (ci := 3) (q0 := 15) rfl rfl), (jd_pre (av := [.ref (ad 15), .int p0]) hP hK (hD I0 J0) (fun U h => nWm h hN))⟩ rfl rfl hl.1 rfl (lv_room (Nat.le_of_ble_eq_true rfl)) d_K_better_2 ⟨Nat.zero_le _, Nat.zero_le _⟩) hS (hD I0 J0) hA (fun H3 L4 hP5 hS6 => ?_)
  refine lv_astore hx hb d_K_better_5 hl (by decide) (lv' := [(4, .ref (ad 0)), (0, .ref (ad 15)), (1, .int p0), (2, .int p1), (3, .int p2)]) rfl (fun ls7 hl8 => ?_)
  refine lv_aload hx hb d_K_better_7 (lv_at hl8 0 rfl) ?_
  refine lv_ifnull hx hb d_K_better_9 ?_
  refine lv_aload hx hb d_K_better_12 (lv_at hl8 0 rfl) ?_
  refine lv_iload_n hx hb d_K_better_14 rfl (lv_at hl8 3 rfl) ?_
  obtain ⟨x9, hc10, hf11⟩ := ob1_ex hf2
  refine jd_ci (va_runV (As := [.int p1]) (rest := []) cx (cm_H_has l D ca ad hs hc10 H3.size) (cwV 1 hts (jd_gV tb_127 tb_128 tb_129 tb_52 tb_130) rfl rfl rfl ⟨rfl, by decide, by decide, rfl⟩ (by rw [hR]; decide)) ⟨jd_blind nWc, (va_recv hK hP5 (ci := 0) (q0 := 0) rfl rfl), (jd_pre (av := [.ref (ad 0), .int p1]) hP5 hK (hD I0 J0) (fun U h => nWm h hN))⟩ rfl rfl hl8.1 rfl (lv_room (Nat.le_of_ble_eq_true rfl)) d_K_better_15 ⟨Nat.zero_le _, Nat.zero_le _⟩) hS6 (hD I0 J0) hA (fun H12 L13 hP14 hS15 => ?_)
  refine lv_if_eq (tgt := 30) hx hb d_K_better_18 rfl (fun h16 => ?_) (fun h16 => ?_)
  · have hf17 := ifp hf11 h16
    refine lv_iconst (v := -1) hx hb d_K_better_30 (by decide) ?_
    cases hf17
    exact hend H12 L13 31 ls7 hP14 hS15 d_K_better_31
  · have hf18 := ifn hf11 h16
    refine lv_aload hx hb d_K_better_21 (lv_at hl8 0 rfl) ?_
    refine lv_iload_n hx hb d_K_better_23 rfl (lv_at hl8 4 rfl) ?_
    obtain ⟨x19, hc20, hf21⟩ := ob1_ex hf18
    refine jd_ci (va_runV (As := [.int p2]) (rest := []) cx (cm_H_has l D ca ad hs hc20 H12.size) (cwV 1 hts (jd_gV tb_127 tb_128 tb_129 tb_52 tb_130) rfl rfl rfl ⟨rfl, by decide, by decide, rfl⟩ (by rw [hR]; decide)) ⟨jd_blind nWc, (va_recv hK hP14 (ci := 0) (q0 := 0) rfl rfl), (jd_pre (av := [.ref (ad 0), .int p2]) hP14 hK (hD I0 J0) (fun U h => nWm h hN))⟩ rfl rfl hl8.1 rfl (lv_room (Nat.le_of_ble_eq_true rfl)) d_K_better_24 ⟨Nat.zero_le _, Nat.zero_le _⟩) hS15 (hD I0 J0) hA (fun H22 L23 hP24 hS25 => ?_)
    refine lv_if_ne (tgt := 32) hx hb d_K_better_27 rfl (fun h26 => ?_) (fun h26 => ?_)
    · have hf27 := ifn hf21 h26
      refine lv_iload_n hx hb d_K_better_32 rfl (lv_at hl8 3 rfl) ?_
      refine lv_iload_n hx hb d_K_better_33 rfl (lv_at hl8 4 rfl) ?_
      refine lv_icmp_eq (tgt := 47) hx hb d_K_better_34 rfl (fun h29 => ?_) (fun h29 => ?_)
      · have hf30 := ifp hf27 h29
        refine lv_aload_n hx hb d_K_better_47 rfl (lv_at hl8 1 rfl) ?_
        refine va_get (D := D) (ci := 3) (v := .ref (ad 18)) (C := R_K) (T := F_K) (N := 5) hx hb hts (fun w h => List.mem_cons_of_mem _ (uw_K w h)) hown hK hP24 15 rfl rfl 2 (by decide) (hts _ (List.mem_cons_of_mem _ tb_107)) (fun _ h => h) rfl d_K_better_48 ?_
        refine lv_aload hx hb d_K_better_51 (lv_at hl8 0 rfl) ?_
        refine lv_iload_n hx hb d_K_better_53 rfl (lv_at hl8 4 rfl) ?_
        refine lv_iload_n hx hb d_K_better_54 rfl (lv_at hl8 3 rfl) ?_
        obtain ⟨I32, hc33, hf34⟩ := ob1_ex hf30
        refine jd_cv (va_runV (As := [.ref (ad 0), .int p2, .int p1]) (rest := []) cx (cm_S_trace l D ca ad hs hc33 H22.size) (cwV 3 hts (jd_gV tb_138 tb_139 tb_140 tb_44 tb_141) rfl rfl rfl ⟨rfl, by decide, by decide, rfl⟩ (by rw [hR]; decide)) ⟨jd_blind nWc, (va_recv hK hP24 (ci := 4) (q0 := 18) rfl rfl), (jd_pre (av := [.ref (ad 18), .ref (ad 0), .int p2, .int p1]) hP24 hK (hD I0 J0) (fun U h => nWm h hN))⟩ rfl rfl hl8.1 rfl (lv_room (Nat.le_of_ble_eq_true rfl)) d_K_better_55 ⟨Nat.zero_le _, Nat.zero_le _⟩) hS25 (hD I0 J0) hA (fun H35 L36 hP37 hS38 => ?_)
        refine lv_iconst (v := 0) hx hb d_K_better_58 (by decide) ?_
        cases hf34
        exact hend H35 L36 59 ls7 hP37 hS38 d_K_better_59
      · have hf31 := ifn hf27 h29
        refine lv_aload hx hb d_K_better_37 (lv_at hl8 0 rfl) ?_
        refine lv_iload_n hx hb d_K_better_39 rfl (lv_at hl8 4 rfl) ?_
        refine lv_iload_n hx hb d_K_better_40 rfl (lv_at hl8 3 rfl) ?_
        obtain ⟨x39, hc40, hf41⟩ := ob1_ex hf31
        refine jd_ci (va_runV (As := [.int p2, .int p1]) (rest := []) cx (cm_H_isAbove l D ca ad hs hc40 H22.size) (cwV 2 hts (jd_gV tb_133 tb_134 tb_135 tb_52 tb_136) rfl rfl rfl ⟨rfl, by decide, by decide, rfl⟩ (by rw [hR]; decide)) ⟨jd_blind nWc, (va_recv hK hP24 (ci := 0) (q0 := 0) rfl rfl), (jd_pre (av := [.ref (ad 0), .int p2, .int p1]) hP24 hK (hD I0 J0) (fun U h => nWm h hN))⟩ rfl rfl hl8.1 rfl (lv_room (Nat.le_of_ble_eq_true rfl)) d_K_better_41 ⟨Nat.zero_le _, Nat.zero_le _⟩) hS25 (hD I0 J0) hA (fun H42 L43 hP44 hS45 => ?_)
        refine lv_if_eq (tgt := 60) hx hb d_K_better_44 rfl (fun h46 => ?_) (fun h46 => ?_)
        · have hf47 := ifp hf41 h46
          refine lv_aload hx hb d_K_better_60 (lv_at hl8 0 rfl) ?_
          refine va_get (D := D) (ci := 0) (v := .int (I0 6 0)) (C := R_H) (T := F_H) (N := 9) hx hb hts (fun w h => List.mem_cons_of_mem _ (uw_H w h)) hown hK hP44 0 rfl rfl 8 (by decide) (hts _ (List.mem_cons_of_mem _ tb_558)) (fun _ h => h) rfl d_K_better_62 ?_
          refine lv_sipush (v := 400) hx hb d_K_better_65 (by decide) ?_
          refine lv_icmp_lt (tgt := 74) hx hb d_K_better_68 rfl (fun h49 => ?_) (fun h49 => ?_)
          · have hf50 := ifp hf47 h49
            refine lv_aload hx hb d_K_better_74 (lv_at hl8 0 rfl) ?_
            refine lv_iload_n hx hb d_K_better_76 rfl (lv_at hl8 3 rfl) ?_
            refine lv_iload_n hx hb d_K_better_77 rfl (lv_at hl8 4 rfl) ?_
            obtain ⟨I52, J53, hc54, hf55⟩ := ob2_ex hf50
            refine jd_cv (va_runV (As := [.int p1, .int p2]) (rest := []) cx (cm_H_write l D ca ad hs hc54 H42.size) (cwV 2 hts (jd_gV tb_153 tb_154 tb_155 tb_52 tb_156) rfl rfl rfl ⟨rfl, by decide, by decide, rfl⟩ (by rw [hR]; decide)) ⟨jd_blind nWc, (va_recv hK hP44 (ci := 0) (q0 := 0) rfl rfl), (jd_pre (av := [.ref (ad 0), .int p1, .int p2]) hP44 hK (hD I0 J0) (fun U h => nWm h hN))⟩ rfl rfl hl8.1 rfl (lv_room (Nat.le_of_ble_eq_true rfl)) d_K_better_78 ⟨Nat.zero_le _, Nat.zero_le _⟩) hS45 (hD I0 J0) hA (fun H56 L57 hP58 hS59 => ?_)
            refine lv_aload_n hx hb d_K_better_81 rfl (lv_at hl8 1 rfl) ?_
            refine lv_iload_n hx hb d_K_better_82 rfl (lv_at hl8 2 rfl) ?_
            obtain ⟨I60, hc61, hf62⟩ := ob1_ex hf55
            refine jd_cv (va_runV (As := [.int p0]) (rest := []) cx (cm_K_unload l D ca ad hs hc61 H56.size) (cwV 1 hts (jd_gV tb_173 tb_174 tb_6 tb_43 tb_175) rfl rfl rfl ⟨rfl, by decide, by decide, rfl⟩ (by rw [hR]; decide)) ⟨jd_blind nWc, (va_recv hK hP58 (ci := 3) (q0 := 15) rfl rfl), (jd_pre (av := [.ref (ad 15), .int p0]) hP58 hK (hD I52 J53) (fun U h => nWm h hN))⟩ rfl rfl hl8.1 rfl (lv_room (Nat.le_of_ble_eq_true rfl)) d_K_better_83 ⟨Nat.zero_le _, Nat.zero_le _⟩) hS59 (hD I52 J53) hA (fun H63 L64 hP65 hS66 => ?_)
            refine lv_aload hx hb d_K_better_86 (lv_at hl8 0 rfl) ?_
            refine va_get (D := D) (ci := 0) (v := .int (I60 6 0)) (C := R_H) (T := F_H) (N := 9) hx hb hts (fun w h => List.mem_cons_of_mem _ (uw_H w h)) hown hK hP65 0 rfl rfl 8 (by decide) (hts _ (List.mem_cons_of_mem _ tb_558)) (fun _ h => h) rfl d_K_better_88 ?_
            cases hf62
            exact hend H63 L64 91 ls7 hP65 hS66 d_K_better_91
          · have hf51 := ifn hf47 h49
            refine lv_bipush (v := -2) hx hb d_K_better_71 (by decide) ?_
            cases hf51
            exact hend H42 L43 73 ls7 hP44 hS45 d_K_better_73
        · have hf48 := ifn hf41 h46
          refine lv_aload_n hx hb d_K_better_47 rfl (lv_at hl8 1 rfl) ?_
          refine va_get (D := D) (ci := 3) (v := .ref (ad 18)) (C := R_K) (T := F_K) (N := 5) hx hb hts (fun w h => List.mem_cons_of_mem _ (uw_K w h)) hown hK hP44 15 rfl rfl 2 (by decide) (hts _ (List.mem_cons_of_mem _ tb_107)) (fun _ h => h) rfl d_K_better_48 ?_
          refine lv_aload hx hb d_K_better_51 (lv_at hl8 0 rfl) ?_
          refine lv_iload_n hx hb d_K_better_53 rfl (lv_at hl8 4 rfl) ?_
          refine lv_iload_n hx hb d_K_better_54 rfl (lv_at hl8 3 rfl) ?_
          obtain ⟨I67, hc68, hf69⟩ := ob1_ex hf48
          refine jd_cv (va_runV (As := [.ref (ad 0), .int p2, .int p1]) (rest := []) cx (cm_S_trace l D ca ad hs hc68 H42.size) (cwV 3 hts (jd_gV tb_138 tb_139 tb_140 tb_44 tb_141) rfl rfl rfl ⟨rfl, by decide, by decide, rfl⟩ (by rw [hR]; decide)) ⟨jd_blind nWc, (va_recv hK hP44 (ci := 4) (q0 := 18) rfl rfl), (jd_pre (av := [.ref (ad 18), .ref (ad 0), .int p2, .int p1]) hP44 hK (hD I0 J0) (fun U h => nWm h hN))⟩ rfl rfl hl8.1 rfl (lv_room (Nat.le_of_ble_eq_true rfl)) d_K_better_55 ⟨Nat.zero_le _, Nat.zero_le _⟩) hS45 (hD I0 J0) hA (fun H70 L71 hP72 hS73 => ?_)
          refine lv_iconst (v := 0) hx hb d_K_better_58 (by decide) ?_
          cases hf69
          exact hend H70 L71 59 ls7 hP72 hS73 d_K_better_59
    · have hf28 := ifp hf21 h26
      refine lv_iconst (v := -1) hx hb d_K_better_30 (by decide) ?_
      cases hf28
      exact hend H22 L23 31 ls7 hP24 hS25 d_K_better_31
theorem d_K_withdraw_0 : decode b_K_withdraw 0 = .ok (.aload_n 0, 1) := by decide +kernel
theorem d_K_withdraw_1 : decode b_K_withdraw 1 = .ok (.iload_n 1, 1) := by decide +kernel
theorem d_K_withdraw_2 : decode b_K_withdraw 2 = .ok (.invokevirtual 58, 3) := by decide +kernel
theorem d_K_withdraw_5 : decode b_K_withdraw 5 = .ok (.astore_n 3, 1) := by decide +kernel
theorem d_K_withdraw_6 : decode b_K_withdraw 6 = .ok (.aload_n 3, 1) := by decide +kernel
theorem d_K_withdraw_7 : decode b_K_withdraw 7 = .ok (.ifnull 27, 3) := by decide +kernel
theorem d_K_withdraw_10 : decode b_K_withdraw 10 = .ok (.iload_n 2, 1) := by decide +kernel
theorem d_K_withdraw_11 : decode b_K_withdraw 11 = .ok (.iconst 1, 1) := by decide +kernel
theorem d_K_withdraw_12 : decode b_K_withdraw 12 = .ok (.if_icmp .lt 22, 3) := by decide +kernel
theorem d_K_withdraw_15 : decode b_K_withdraw 15 = .ok (.iload_n 2, 1) := by decide +kernel
theorem d_K_withdraw_16 : decode b_K_withdraw 16 = .ok (.aload_n 3, 1) := by decide +kernel
theorem d_K_withdraw_17 : decode b_K_withdraw 17 = .ok (.getfield 74, 3) := by decide +kernel
theorem d_K_withdraw_20 : decode b_K_withdraw 20 = .ok (.if_icmp .gt 14, 3) := by decide +kernel
theorem d_K_withdraw_23 : decode b_K_withdraw 23 = .ok (.aload_n 3, 1) := by decide +kernel
theorem d_K_withdraw_24 : decode b_K_withdraw 24 = .ok (.getfield 87, 3) := by decide +kernel
theorem d_K_withdraw_27 : decode b_K_withdraw 27 = .ok (.iload_n 2, 1) := by decide +kernel
theorem d_K_withdraw_28 : decode b_K_withdraw 28 = .ok (.iconst 1, 1) := by decide +kernel
theorem d_K_withdraw_29 : decode b_K_withdraw 29 = .ok (.isub, 1) := by decide +kernel
theorem d_K_withdraw_30 : decode b_K_withdraw 30 = .ok (.baload, 1) := by decide +kernel
theorem d_K_withdraw_31 : decode b_K_withdraw 31 = .ok (.ifCond .eq 5, 3) := by decide +kernel
theorem d_K_withdraw_34 : decode b_K_withdraw 34 = .ok (.iconst 0, 1) := by decide +kernel
theorem d_K_withdraw_35 : decode b_K_withdraw 35 = .ok (.ireturn, 1) := by decide +kernel
theorem d_K_withdraw_36 : decode b_K_withdraw 36 = .ok (.aload_n 3, 1) := by decide +kernel
theorem d_K_withdraw_37 : decode b_K_withdraw 37 = .ok (.iload_n 2, 1) := by decide +kernel
theorem d_K_withdraw_38 : decode b_K_withdraw 38 = .ok (.iconst 1, 1) := by decide +kernel
theorem d_K_withdraw_39 : decode b_K_withdraw 39 = .ok (.isub, 1) := by decide +kernel
theorem d_K_withdraw_40 : decode b_K_withdraw 40 = .ok (.invokevirtual 91, 3) := by decide +kernel
theorem d_K_withdraw_43 : decode b_K_withdraw 43 = .ok (.aload_n 0, 1) := by decide +kernel
theorem d_K_withdraw_44 : decode b_K_withdraw 44 = .ok (.iload_n 1, 1) := by decide +kernel
theorem d_K_withdraw_45 : decode b_K_withdraw 45 = .ok (.invokevirtual 55, 3) := by decide +kernel
theorem d_K_withdraw_48 : decode b_K_withdraw 48 = .ok (.iconst 1, 1) := by decide +kernel
theorem d_K_withdraw_49 : decode b_K_withdraw 49 = .ok (.ireturn, 1) := by decide +kernel
def fm_K_withdraw (p0 : Int32) (p1 : Int32) (I0 : IS) (J0 : JS) : Option (Int32 × IS × JS) :=
  ob1 (fm_K_find p0) (fun _ => if p1 < (1 : Int32) then some ((0 : Int32), I0, J0) else if (I0 6 0) < p1 then some ((0 : Int32), I0, J0) else grd (inB (p1 - (1 : Int32)) 400) (if (I0 2 (p1 - (1 : Int32)).toNatClampNeg) = 0 then ob2 (fm_H_takeBack (p1 - (1 : Int32)) I0 J0) (fun I20 J21 => ob1 (fm_K_unload p0 I20) (fun I28 => some ((1 : Int32), I28, J21))) else some ((0 : Int32), I0, J0)))
set_option maxHeartbeats 4000000 in
set_option maxRecDepth 100000 in
theorem cm_K_withdraw (l : Launch) (D : va_G) (ca : Nat → ClassId) (ad : Nat → Nat) (hs : Nat → Option Nat) {p0 : Int32} {p1 : Int32} {I0 : IS} {J0 : JS} {r : Int32 × IS × JS} (hh : hs p0.toNatClampNeg = some (ad 0)) (hf : fm_K_withdraw p0 p1 I0 J0 = some r) : CtI l y_K_withdraw (Cond.code y_K_withdraw b_K_withdraw 4 (some .boolean) :: TB) { frames := 4, cells := 0, slots := 0, locals := 85 } [.ref (ad 15), .int p0, .int p1] D cls_all (tysC ca) NN (wC ca ad hs I0 J0) (wC ca ad hs r.2.1 r.2.2) r.1 := by
  refine jd_metZ (cc := b_K_withdraw) (by decide) rfl (Nat.le_of_ble_eq_true rfl) (lv := [(0, .ref (ad 15)), (1, .int p0), (2, .int p1)]) rfl ?_
  intro p e R s m args below meth c A Q ls cx hR hK hN hD0 hA hP hS hl hend
  have hx := cx.1
  have hb := cx.2.1
  have hml := cx.2.2.1
  have hown := cx.2.2.2.1
  have hts := cx.2.2.2.2
  have hD : ∀ I J, va_D A (wC ca ad hs I J) := fun I J => jd_Dc hD0 rfl
  unfold fm_K_withdraw at hf
  refine lv_aload_n hx hb d_K_withdraw_0 rfl (lv_at hl 0 rfl) ?_
  refine lv_iload_n hx hb d_K_withdraw_1 rfl (lv_at hl 1 rfl) ?_
  obtain ⟨_, hc1, hf2⟩ := ob1_ex hf
  refine jd_cq (va_runV (As := [.int p0]) (rest := []) cx (cm_K_find l D ca ad hs hh hc1 s.heap.size) (cwV 1 hts (jd_gV tb_124 tb_125 tb_0 tb_43 tb_126) rfl rfl rfl ⟨rfl, by decide, by decide, rfl⟩ (by rw [hR]; decide)) ⟨jd_blind nWc, (va_recv hK hP (ci := 3) (q0 := 15) rfl rfl), (jd_pre (av := [.ref (ad 15), .int p0]) hP hK (hD I0 J0) (fun U h => nWm h hN))⟩ rfl rfl hl.1 rfl (lv_room (Nat.le_of_ble_eq_true rfl)) d_K_withdraw_2 ⟨Nat.zero_le _, Nat.zero_le _⟩) hS (hD I0 J0) hA (fun H3 L4 hP5 hS6 => ?_)
  refine lv_astore_n hx hb d_K_withdraw_5 rfl hl (by decide) (lv' := [(3, .ref (ad 0)), (0, .ref (ad 15)), (1, .int p0), (2, .int p1)]) rfl (fun ls7 hl8 => ?_)
  refine lv_aload_n hx hb d_K_withdraw_6 rfl (lv_at hl8 0 rfl) ?_
  refine lv_ifnull hx hb d_K_withdraw_7 ?_
  refine lv_iload_n hx hb d_K_withdraw_10 rfl (lv_at hl8 3 rfl) ?_
  refine lv_iconst (v := 1) hx hb d_K_withdraw_11 (by decide) ?_
  refine lv_icmp_lt (tgt := 34) hx hb d_K_withdraw_12 rfl (fun h9 => ?_) (fun h9 => ?_)
  · have hf10 := ifp hf2 h9
    refine lv_iconst (v := 0) hx hb d_K_withdraw_34 (by decide) ?_
    cases hf10
    exact hend H3 L4 35 ls7 (show narrow .boolean (.int (0 : Int32)) = .int (0 : Int32) from rfl) hP5 hS6 d_K_withdraw_35
  · have hf11 := ifn hf2 h9
    refine lv_iload_n hx hb d_K_withdraw_15 rfl (lv_at hl8 3 rfl) ?_
    refine lv_aload_n hx hb d_K_withdraw_16 rfl (lv_at hl8 0 rfl) ?_
    refine va_get (D := D) (ci := 0) (v := .int (I0 6 0)) (C := R_H) (T := F_H) (N := 9) hx hb hts (fun w h => List.mem_cons_of_mem _ (uw_H w h)) hown hK hP5 0 rfl rfl 8 (by decide) (hts _ (List.mem_cons_of_mem _ tb_558)) (fun _ h => h) rfl d_K_withdraw_17 ?_
    refine lv_icmp_gt (tgt := 34) hx hb d_K_withdraw_20 rfl (fun h12 => ?_) (fun h12 => ?_)
    · have hf13 := ifp hf11 h12
      refine lv_iconst (v := 0) hx hb d_K_withdraw_34 (by decide) ?_
      cases hf13
      exact hend H3 L4 35 ls7 (show narrow .boolean (.int (0 : Int32)) = .int (0 : Int32) from rfl) hP5 hS6 d_K_withdraw_35
    · have hf14 := ifn hf11 h12
      refine lv_aload_n hx hb d_K_withdraw_23 rfl (lv_at hl8 0 rfl) ?_
      refine va_get (D := D) (ci := 0) (v := .ref (ad 3)) (C := R_H) (T := F_H) (N := 9) hx hb hts (fun w h => List.mem_cons_of_mem _ (uw_H w h)) hown hK hP5 0 rfl rfl 2 (by decide) (hts _ (List.mem_cons_of_mem _ tb_540)) (fun _ h => h) rfl d_K_withdraw_24 ?_
      refine lv_iload_n hx hb d_K_withdraw_27 rfl (lv_at hl8 3 rfl) ?_
      refine lv_iconst (v := 1) hx hb d_K_withdraw_28 (by decide) ?_
      refine lv_isub hx hb d_K_withdraw_29 ?_
      obtain ⟨hg15, hf16⟩ := grd_ex hf14
      refine va_zald hx hb hK hP5 3 1 rfl rfl (inB_in hg15) d_K_withdraw_30 ?_
      refine lv_if_eq (tgt := 36) hx hb d_K_withdraw_31 rfl (fun h17 => ?_) (fun h17 => ?_)
      · have hf18 := ifp hf16 h17
        refine lv_aload_n hx hb d_K_withdraw_36 rfl (lv_at hl8 0 rfl) ?_
        refine lv_iload_n hx hb d_K_withdraw_37 rfl (lv_at hl8 3 rfl) ?_
        refine lv_iconst (v := 1) hx hb d_K_withdraw_38 (by decide) ?_
        refine lv_isub hx hb d_K_withdraw_39 ?_
        obtain ⟨I20, J21, hc22, hf23⟩ := ob2_ex hf18
        refine jd_cv (va_runV (As := [.int (p1 - (1 : Int32))]) (rest := []) cx (cm_H_takeBack l D ca ad hs hc22 H3.size) (cwV 1 hts (jd_gV tb_188 tb_189 tb_190 tb_52 tb_191) rfl rfl rfl ⟨rfl, by decide, by decide, rfl⟩ (by rw [hR]; decide)) ⟨jd_blind nWc, (va_recv hK hP5 (ci := 0) (q0 := 0) rfl rfl), (jd_pre (av := [.ref (ad 0), .int (p1 - (1 : Int32))]) hP5 hK (hD I0 J0) (fun U h => nWm h hN))⟩ rfl rfl hl8.1 rfl (lv_room (Nat.le_of_ble_eq_true rfl)) d_K_withdraw_40 ⟨Nat.zero_le _, Nat.zero_le _⟩) hS6 (hD I0 J0) hA (fun H24 L25 hP26 hS27 => ?_)
        refine lv_aload_n hx hb d_K_withdraw_43 rfl (lv_at hl8 1 rfl) ?_
        refine lv_iload_n hx hb d_K_withdraw_44 rfl (lv_at hl8 2 rfl) ?_
        obtain ⟨I28, hc29, hf30⟩ := ob1_ex hf23
        refine jd_cv (va_runV (As := [.int p0]) (rest := []) cx (cm_K_unload l D ca ad hs hc29 H24.size) (cwV 1 hts (jd_gV tb_173 tb_174 tb_6 tb_43 tb_175) rfl rfl rfl ⟨rfl, by decide, by decide, rfl⟩ (by rw [hR]; decide)) ⟨jd_blind nWc, (va_recv hK hP26 (ci := 3) (q0 := 15) rfl rfl), (jd_pre (av := [.ref (ad 15), .int p0]) hP26 hK (hD I20 J21) (fun U h => nWm h hN))⟩ rfl rfl hl8.1 rfl (lv_room (Nat.le_of_ble_eq_true rfl)) d_K_withdraw_45 ⟨Nat.zero_le _, Nat.zero_le _⟩) hS27 (hD I20 J21) hA (fun H31 L32 hP33 hS34 => ?_)
        refine lv_iconst (v := 1) hx hb d_K_withdraw_48 (by decide) ?_
        cases hf30
        exact hend H31 L32 49 ls7 (show narrow .boolean (.int (1 : Int32)) = .int (1 : Int32) from rfl) hP33 hS34 d_K_withdraw_49
      · have hf19 := ifn hf16 h17
        refine lv_iconst (v := 0) hx hb d_K_withdraw_34 (by decide) ?_
        cases hf19
        exact hend H3 L4 35 ls7 (show narrow .boolean (.int (0 : Int32)) = .int (0 : Int32) from rfl) hP5 hS6 d_K_withdraw_35
theorem d_K_scratch_0 : decode b_K_scratch 0 = .ok (.aload_n 0, 1) := by decide +kernel
theorem d_K_scratch_1 : decode b_K_scratch 1 = .ok (.iload_n 1, 1) := by decide +kernel
theorem d_K_scratch_2 : decode b_K_scratch 2 = .ok (.invokevirtual 58, 3) := by decide +kernel
theorem d_K_scratch_5 : decode b_K_scratch 5 = .ok (.astore_n 3, 1) := by decide +kernel
theorem d_K_scratch_6 : decode b_K_scratch 6 = .ok (.aload_n 3, 1) := by decide +kernel
theorem d_K_scratch_7 : decode b_K_scratch 7 = .ok (.ifnull 19, 3) := by decide +kernel
theorem d_K_scratch_10 : decode b_K_scratch 10 = .ok (.aload_n 3, 1) := by decide +kernel
theorem d_K_scratch_11 : decode b_K_scratch 11 = .ok (.iload_n 2, 1) := by decide +kernel
theorem d_K_scratch_12 : decode b_K_scratch 12 = .ok (.invokevirtual 62, 3) := by decide +kernel
theorem d_K_scratch_15 : decode b_K_scratch 15 = .ok (.ifCond .eq 11, 3) := by decide +kernel
theorem d_K_scratch_18 : decode b_K_scratch 18 = .ok (.aload_n 3, 1) := by decide +kernel
theorem d_K_scratch_19 : decode b_K_scratch 19 = .ok (.invokevirtual 94, 3) := by decide +kernel
theorem d_K_scratch_22 : decode b_K_scratch 22 = .ok (.iconst 1, 1) := by decide +kernel
theorem d_K_scratch_23 : decode b_K_scratch 23 = .ok (.if_icmp .ne 5, 3) := by decide +kernel
theorem d_K_scratch_26 : decode b_K_scratch 26 = .ok (.iconst 0, 1) := by decide +kernel
theorem d_K_scratch_27 : decode b_K_scratch 27 = .ok (.ireturn, 1) := by decide +kernel
theorem d_K_scratch_28 : decode b_K_scratch 28 = .ok (.aload_n 3, 1) := by decide +kernel
theorem d_K_scratch_29 : decode b_K_scratch 29 = .ok (.iload_n 2, 1) := by decide +kernel
theorem d_K_scratch_30 : decode b_K_scratch 30 = .ok (.invokevirtual 98, 3) := by decide +kernel
theorem d_K_scratch_33 : decode b_K_scratch 33 = .ok (.aload_n 0, 1) := by decide +kernel
theorem d_K_scratch_34 : decode b_K_scratch 34 = .ok (.iload_n 1, 1) := by decide +kernel
theorem d_K_scratch_35 : decode b_K_scratch 35 = .ok (.invokevirtual 55, 3) := by decide +kernel
theorem d_K_scratch_38 : decode b_K_scratch 38 = .ok (.iconst 1, 1) := by decide +kernel
theorem d_K_scratch_39 : decode b_K_scratch 39 = .ok (.ireturn, 1) := by decide +kernel
def fm_K_scratch (p0 : Int32) (p1 : Int32) (I0 : IS) (J0 : JS) : Option (Int32 × IS × JS) :=
  ob1 (fm_K_find p0) (fun _ => ob1 (fm_H_has p1 I0) (fun x9 => if x9 = 0 then some ((0 : Int32), I0, J0) else ob1 (fm_H_size I0) (fun x19 => if x19 = (1 : Int32) then some ((0 : Int32), I0, J0) else ob2 (fm_H_remove p1 I0 J0) (fun I29 J30 => ob1 (fm_K_unload p0 I29) (fun I37 => some ((1 : Int32), I37, J30))))))
set_option maxHeartbeats 4000000 in
set_option maxRecDepth 100000 in
theorem cm_K_scratch (l : Launch) (D : va_G) (ca : Nat → ClassId) (ad : Nat → Nat) (hs : Nat → Option Nat) {p0 : Int32} {p1 : Int32} {I0 : IS} {J0 : JS} {r : Int32 × IS × JS} (hh : hs p0.toNatClampNeg = some (ad 0)) (hf : fm_K_scratch p0 p1 I0 J0 = some r) : CtI l y_K_scratch (Cond.code y_K_scratch b_K_scratch 4 (some .boolean) :: TB) { frames := 4, cells := 0, slots := 0, locals := 85 } [.ref (ad 15), .int p0, .int p1] D cls_all (tysC ca) NN (wC ca ad hs I0 J0) (wC ca ad hs r.2.1 r.2.2) r.1 := by
  refine jd_metZ (cc := b_K_scratch) (by decide) rfl (Nat.le_of_ble_eq_true rfl) (lv := [(0, .ref (ad 15)), (1, .int p0), (2, .int p1)]) rfl ?_
  intro p e R s m args below meth c A Q ls cx hR hK hN hD0 hA hP hS hl hend
  have hx := cx.1
  have hb := cx.2.1
  have hml := cx.2.2.1
  have hown := cx.2.2.2.1
  have hts := cx.2.2.2.2
  have hD : ∀ I J, va_D A (wC ca ad hs I J) := fun I J => jd_Dc hD0 rfl
  unfold fm_K_scratch at hf
  refine lv_aload_n hx hb d_K_scratch_0 rfl (lv_at hl 0 rfl) ?_
  refine lv_iload_n hx hb d_K_scratch_1 rfl (lv_at hl 1 rfl) ?_
  obtain ⟨_, hc1, hf2⟩ := ob1_ex hf
  refine jd_cq (va_runV (As := [.int p0]) (rest := []) cx (cm_K_find l D ca ad hs hh hc1 s.heap.size) (cwV 1 hts (jd_gV tb_124 tb_125 tb_0 tb_43 tb_126) rfl rfl rfl ⟨rfl, by decide, by decide, rfl⟩ (by rw [hR]; decide)) ⟨jd_blind nWc, (va_recv hK hP (ci := 3) (q0 := 15) rfl rfl), (jd_pre (av := [.ref (ad 15), .int p0]) hP hK (hD I0 J0) (fun U h => nWm h hN))⟩ rfl rfl hl.1 rfl (lv_room (Nat.le_of_ble_eq_true rfl)) d_K_scratch_2 ⟨Nat.zero_le _, Nat.zero_le _⟩) hS (hD I0 J0) hA (fun H3 L4 hP5 hS6 => ?_)
  refine lv_astore_n hx hb d_K_scratch_5 rfl hl (by decide) (lv' := [(3, .ref (ad 0)), (0, .ref (ad 15)), (1, .int p0), (2, .int p1)]) rfl (fun ls7 hl8 => ?_)
  refine lv_aload_n hx hb d_K_scratch_6 rfl (lv_at hl8 0 rfl) ?_
  refine lv_ifnull hx hb d_K_scratch_7 ?_
  refine lv_aload_n hx hb d_K_scratch_10 rfl (lv_at hl8 0 rfl) ?_
  refine lv_iload_n hx hb d_K_scratch_11 rfl (lv_at hl8 3 rfl) ?_
  obtain ⟨x9, hc10, hf11⟩ := ob1_ex hf2
  refine jd_ci (va_runV (As := [.int p1]) (rest := []) cx (cm_H_has l D ca ad hs hc10 H3.size) (cwV 1 hts (jd_gV tb_127 tb_128 tb_129 tb_52 tb_130) rfl rfl rfl ⟨rfl, by decide, by decide, rfl⟩ (by rw [hR]; decide)) ⟨jd_blind nWc, (va_recv hK hP5 (ci := 0) (q0 := 0) rfl rfl), (jd_pre (av := [.ref (ad 0), .int p1]) hP5 hK (hD I0 J0) (fun U h => nWm h hN))⟩ rfl rfl hl8.1 rfl (lv_room (Nat.le_of_ble_eq_true rfl)) d_K_scratch_12 ⟨Nat.zero_le _, Nat.zero_le _⟩) hS6 (hD I0 J0) hA (fun H12 L13 hP14 hS15 => ?_)
  refine lv_if_eq (tgt := 26) hx hb d_K_scratch_15 rfl (fun h16 => ?_) (fun h16 => ?_)
  · have hf17 := ifp hf11 h16
    refine lv_iconst (v := 0) hx hb d_K_scratch_26 (by decide) ?_
    cases hf17
    exact hend H12 L13 27 ls7 (show narrow .boolean (.int (0 : Int32)) = .int (0 : Int32) from rfl) hP14 hS15 d_K_scratch_27
  · have hf18 := ifn hf11 h16
    refine lv_aload_n hx hb d_K_scratch_18 rfl (lv_at hl8 0 rfl) ?_
    obtain ⟨x19, hc20, hf21⟩ := ob1_ex hf18
    refine jd_ci (va_runV (As := []) (rest := []) cx (cm_H_size l D ca ad hs hc20 H12.size) (cwV 0 hts (jd_gV tb_196 tb_197 tb_198 tb_52 tb_199) rfl rfl rfl ⟨rfl, by decide, by decide, rfl⟩ (by rw [hR]; decide)) ⟨jd_blind nWc, (va_recv hK hP14 (ci := 0) (q0 := 0) rfl rfl), (jd_pre (av := [.ref (ad 0)]) hP14 hK (hD I0 J0) (fun U h => nWm h hN))⟩ rfl rfl hl8.1 rfl (lv_room (Nat.le_of_ble_eq_true rfl)) d_K_scratch_19 ⟨Nat.zero_le _, Nat.zero_le _⟩) hS15 (hD I0 J0) hA (fun H22 L23 hP24 hS25 => ?_)
    refine lv_iconst (v := 1) hx hb d_K_scratch_22 (by decide) ?_
    refine lv_icmp_ne (tgt := 28) hx hb d_K_scratch_23 rfl (fun h26 => ?_) (fun h26 => ?_)
    · have hf27 := ifn hf21 h26
      refine lv_aload_n hx hb d_K_scratch_28 rfl (lv_at hl8 0 rfl) ?_
      refine lv_iload_n hx hb d_K_scratch_29 rfl (lv_at hl8 3 rfl) ?_
      obtain ⟨I29, J30, hc31, hf32⟩ := ob2_ex hf27
      refine jd_cv (va_runV (As := [.int p1]) (rest := []) cx (cm_H_remove l D ca ad hs hc31 H22.size) (cwV 1 hts (jd_gV tb_206 tb_207 tb_208 tb_52 tb_209) rfl rfl rfl ⟨rfl, by decide, by decide, rfl⟩ (by rw [hR]; decide)) ⟨jd_blind nWc, (va_recv hK hP24 (ci := 0) (q0 := 0) rfl rfl), (jd_pre (av := [.ref (ad 0), .int p1]) hP24 hK (hD I0 J0) (fun U h => nWm h hN))⟩ rfl rfl hl8.1 rfl (lv_room (Nat.le_of_ble_eq_true rfl)) d_K_scratch_30 ⟨Nat.zero_le _, Nat.zero_le _⟩) hS25 (hD I0 J0) hA (fun H33 L34 hP35 hS36 => ?_)
      refine lv_aload_n hx hb d_K_scratch_33 rfl (lv_at hl8 1 rfl) ?_
      refine lv_iload_n hx hb d_K_scratch_34 rfl (lv_at hl8 2 rfl) ?_
      obtain ⟨I37, hc38, hf39⟩ := ob1_ex hf32
      refine jd_cv (va_runV (As := [.int p0]) (rest := []) cx (cm_K_unload l D ca ad hs hc38 H33.size) (cwV 1 hts (jd_gV tb_173 tb_174 tb_6 tb_43 tb_175) rfl rfl rfl ⟨rfl, by decide, by decide, rfl⟩ (by rw [hR]; decide)) ⟨jd_blind nWc, (va_recv hK hP35 (ci := 3) (q0 := 15) rfl rfl), (jd_pre (av := [.ref (ad 15), .int p0]) hP35 hK (hD I29 J30) (fun U h => nWm h hN))⟩ rfl rfl hl8.1 rfl (lv_room (Nat.le_of_ble_eq_true rfl)) d_K_scratch_35 ⟨Nat.zero_le _, Nat.zero_le _⟩) hS36 (hD I29 J30) hA (fun H40 L41 hP42 hS43 => ?_)
      refine lv_iconst (v := 1) hx hb d_K_scratch_38 (by decide) ?_
      cases hf39
      exact hend H40 L41 39 ls7 (show narrow .boolean (.int (1 : Int32)) = .int (1 : Int32) from rfl) hP42 hS43 d_K_scratch_39
    · have hf28 := ifp hf21 h26
      refine lv_iconst (v := 0) hx hb d_K_scratch_26 (by decide) ?_
      cases hf28
      exact hend H22 L23 27 ls7 (show narrow .boolean (.int (0 : Int32)) = .int (0 : Int32) from rfl) hP24 hS25 d_K_scratch_27
theorem d_K_settled_0 : decode b_K_settled 0 = .ok (.aload_n 0, 1) := by decide +kernel
theorem d_K_settled_1 : decode b_K_settled 1 = .ok (.iload_n 1, 1) := by decide +kernel
theorem d_K_settled_2 : decode b_K_settled 2 = .ok (.invokevirtual 58, 3) := by decide +kernel
theorem d_K_settled_5 : decode b_K_settled 5 = .ok (.astore 4, 2) := by decide +kernel
theorem d_K_settled_7 : decode b_K_settled 7 = .ok (.aload 4, 2) := by decide +kernel
theorem d_K_settled_9 : decode b_K_settled 9 = .ok (.ifnull 17, 3) := by decide +kernel
theorem d_K_settled_12 : decode b_K_settled 12 = .ok (.aload 4, 2) := by decide +kernel
theorem d_K_settled_14 : decode b_K_settled 14 = .ok (.iload_n 2, 1) := by decide +kernel
theorem d_K_settled_15 : decode b_K_settled 15 = .ok (.iload_n 3, 1) := by decide +kernel
theorem d_K_settled_16 : decode b_K_settled 16 = .ok (.invokevirtual 66, 3) := by decide +kernel
theorem d_K_settled_19 : decode b_K_settled 19 = .ok (.ifCond .eq 7, 3) := by decide +kernel
theorem d_K_settled_22 : decode b_K_settled 22 = .ok (.iconst 1, 1) := by decide +kernel
theorem d_K_settled_23 : decode b_K_settled 23 = .ok (.goto 4, 3) := by decide +kernel
theorem d_K_settled_26 : decode b_K_settled 26 = .ok (.iconst 0, 1) := by decide +kernel
theorem d_K_settled_27 : decode b_K_settled 27 = .ok (.ireturn, 1) := by decide +kernel
def fm_K_settled (p0 : Int32) (p1 : Int32) (p2 : Int32) (I0 : IS) : Option (Int32) :=
  ob1 (fm_K_find p0) (fun _ => ob1 (fm_H_isAbove p1 p2 I0) (fun x9 => if x9 = 0 then some (0 : Int32) else some (1 : Int32)))
set_option maxHeartbeats 4000000 in
set_option maxRecDepth 100000 in
theorem cm_K_settled (l : Launch) (D : va_G) (ca : Nat → ClassId) (ad : Nat → Nat) (hs : Nat → Option Nat) {p0 : Int32} {p1 : Int32} {p2 : Int32} {I0 : IS} {J0 : JS} {r : Int32} (hh : hs p0.toNatClampNeg = some (ad 0)) (hf : fm_K_settled p0 p1 p2 I0 = some r) : CtI l y_K_settled (Cond.code y_K_settled b_K_settled 5 (some .boolean) :: TB) { frames := 3, cells := 0, slots := 0, locals := 64 } [.ref (ad 15), .int p0, .int p1, .int p2] D cls_all (tysC ca) NN (wC ca ad hs I0 J0) (wC ca ad hs I0 J0) r := by
  refine jd_metZ (cc := b_K_settled) (by decide) rfl (Nat.le_of_ble_eq_true rfl) (lv := [(0, .ref (ad 15)), (1, .int p0), (2, .int p1), (3, .int p2)]) rfl ?_
  intro p e R s m args below meth c A Q ls cx hR hK hN hD0 hA hP hS hl hend
  have hx := cx.1
  have hb := cx.2.1
  have hml := cx.2.2.1
  have hown := cx.2.2.2.1
  have hts := cx.2.2.2.2
  have hD : ∀ I J, va_D A (wC ca ad hs I J) := fun I J => jd_Dc hD0 rfl
  unfold fm_K_settled at hf
  refine lv_aload_n hx hb d_K_settled_0 rfl (lv_at hl 0 rfl) ?_
  refine lv_iload_n hx hb d_K_settled_1 rfl (lv_at hl 1 rfl) ?_
  obtain ⟨_, hc1, hf2⟩ := ob1_ex hf
  refine jd_cq (va_runV (As := [.int p0]) (rest := []) cx (cm_K_find l D ca ad hs hh hc1 s.heap.size) (cwV 1 hts (jd_gV tb_124 tb_125 tb_0 tb_43 tb_126) rfl rfl rfl ⟨rfl, by decide, by decide, rfl⟩ (by rw [hR]; decide)) ⟨jd_blind nWc, (va_recv hK hP (ci := 3) (q0 := 15) rfl rfl), (jd_pre (av := [.ref (ad 15), .int p0]) hP hK (hD I0 J0) (fun U h => nWm h hN))⟩ rfl rfl hl.1 rfl (lv_room (Nat.le_of_ble_eq_true rfl)) d_K_settled_2 ⟨Nat.zero_le _, Nat.zero_le _⟩) hS (hD I0 J0) hA (fun H3 L4 hP5 hS6 => ?_)
  refine lv_astore hx hb d_K_settled_5 hl (by decide) (lv' := [(4, .ref (ad 0)), (0, .ref (ad 15)), (1, .int p0), (2, .int p1), (3, .int p2)]) rfl (fun ls7 hl8 => ?_)
  refine lv_aload hx hb d_K_settled_7 (lv_at hl8 0 rfl) ?_
  refine lv_ifnull hx hb d_K_settled_9 ?_
  refine lv_aload hx hb d_K_settled_12 (lv_at hl8 0 rfl) ?_
  refine lv_iload_n hx hb d_K_settled_14 rfl (lv_at hl8 3 rfl) ?_
  refine lv_iload_n hx hb d_K_settled_15 rfl (lv_at hl8 4 rfl) ?_
  obtain ⟨x9, hc10, hf11⟩ := ob1_ex hf2
  refine jd_ci (va_runV (As := [.int p1, .int p2]) (rest := []) cx (cm_H_isAbove l D ca ad hs hc10 H3.size) (cwV 2 hts (jd_gV tb_133 tb_134 tb_135 tb_52 tb_136) rfl rfl rfl ⟨rfl, by decide, by decide, rfl⟩ (by rw [hR]; decide)) ⟨jd_blind nWc, (va_recv hK hP5 (ci := 0) (q0 := 0) rfl rfl), (jd_pre (av := [.ref (ad 0), .int p1, .int p2]) hP5 hK (hD I0 J0) (fun U h => nWm h hN))⟩ rfl rfl hl8.1 rfl (lv_room (Nat.le_of_ble_eq_true rfl)) d_K_settled_16 ⟨Nat.zero_le _, Nat.zero_le _⟩) hS6 (hD I0 J0) hA (fun H12 L13 hP14 hS15 => ?_)
  refine lv_if_eq (tgt := 26) hx hb d_K_settled_19 rfl (fun h16 => ?_) (fun h16 => ?_)
  · have hf17 := ifp hf11 h16
    refine lv_iconst (v := 0) hx hb d_K_settled_26 (by decide) ?_
    cases hf17
    exact hend H12 L13 27 ls7 (show narrow .boolean (.int (0 : Int32)) = .int (0 : Int32) from rfl) hP14 hS15 d_K_settled_27
  · have hf18 := ifn hf11 h16
    refine lv_iconst (v := 1) hx hb d_K_settled_22 (by decide) ?_
    refine lv_goto (tgt := 27) hx hb d_K_settled_23 rfl ?_
    cases hf18
    exact hend H12 L13 27 ls7 (show narrow .boolean (.int (1 : Int32)) = .int (1 : Int32) from rfl) hP14 hS15 d_K_settled_27
theorem d_K_direct_0 : decode b_K_direct 0 = .ok (.aload_n 0, 1) := by decide +kernel
theorem d_K_direct_1 : decode b_K_direct 1 = .ok (.iload_n 1, 1) := by decide +kernel
theorem d_K_direct_2 : decode b_K_direct 2 = .ok (.invokevirtual 58, 3) := by decide +kernel
theorem d_K_direct_5 : decode b_K_direct 5 = .ok (.astore 4, 2) := by decide +kernel
theorem d_K_direct_7 : decode b_K_direct 7 = .ok (.aload 4, 2) := by decide +kernel
theorem d_K_direct_9 : decode b_K_direct 9 = .ok (.ifnull 35, 3) := by decide +kernel
theorem d_K_direct_12 : decode b_K_direct 12 = .ok (.aload 4, 2) := by decide +kernel
theorem d_K_direct_14 : decode b_K_direct 14 = .ok (.iload_n 2, 1) := by decide +kernel
theorem d_K_direct_15 : decode b_K_direct 15 = .ok (.iload_n 3, 1) := by decide +kernel
theorem d_K_direct_16 : decode b_K_direct 16 = .ok (.invokevirtual 66, 3) := by decide +kernel
theorem d_K_direct_19 : decode b_K_direct 19 = .ok (.ifCond .eq 25, 3) := by decide +kernel
theorem d_K_direct_22 : decode b_K_direct 22 = .ok (.aload 4, 2) := by decide +kernel
theorem d_K_direct_24 : decode b_K_direct 24 = .ok (.getfield 101, 3) := by decide +kernel
theorem d_K_direct_27 : decode b_K_direct 27 = .ok (.iload_n 2, 1) := by decide +kernel
theorem d_K_direct_28 : decode b_K_direct 28 = .ok (.iaload, 1) := by decide +kernel
theorem d_K_direct_29 : decode b_K_direct 29 = .ok (.aload 4, 2) := by decide +kernel
theorem d_K_direct_31 : decode b_K_direct 31 = .ok (.getfield 104, 3) := by decide +kernel
theorem d_K_direct_34 : decode b_K_direct 34 = .ok (.iload_n 3, 1) := by decide +kernel
theorem d_K_direct_35 : decode b_K_direct 35 = .ok (.iaload, 1) := by decide +kernel
theorem d_K_direct_36 : decode b_K_direct 36 = .ok (.iand, 1) := by decide +kernel
theorem d_K_direct_37 : decode b_K_direct 37 = .ok (.ifCond .ne 7, 3) := by decide +kernel
theorem d_K_direct_40 : decode b_K_direct 40 = .ok (.iconst 1, 1) := by decide +kernel
theorem d_K_direct_41 : decode b_K_direct 41 = .ok (.goto 4, 3) := by decide +kernel
theorem d_K_direct_44 : decode b_K_direct 44 = .ok (.iconst 0, 1) := by decide +kernel
theorem d_K_direct_45 : decode b_K_direct 45 = .ok (.ireturn, 1) := by decide +kernel
def fm_K_direct (p0 : Int32) (p1 : Int32) (p2 : Int32) (I0 : IS) : Option (Int32) :=
  ob1 (fm_K_find p0) (fun _ => ob1 (fm_H_isAbove p1 p2 I0) (fun x9 => if x9 = 0 then some (0 : Int32) else grd (inB p1 16) (grd (inB p2 16) (if ((I0 3 p1.toNatClampNeg) &&& (I0 4 p2.toNatClampNeg)) = 0 then some (1 : Int32) else some (0 : Int32)))))
set_option maxHeartbeats 4000000 in
set_option maxRecDepth 100000 in
theorem cm_K_direct (l : Launch) (D : va_G) (ca : Nat → ClassId) (ad : Nat → Nat) (hs : Nat → Option Nat) {p0 : Int32} {p1 : Int32} {p2 : Int32} {I0 : IS} {J0 : JS} {r : Int32} (hh : hs p0.toNatClampNeg = some (ad 0)) (hf : fm_K_direct p0 p1 p2 I0 = some r) : CtI l y_K_direct (Cond.code y_K_direct b_K_direct 5 (some .boolean) :: TB) { frames := 3, cells := 0, slots := 0, locals := 64 } [.ref (ad 15), .int p0, .int p1, .int p2] D cls_all (tysC ca) NN (wC ca ad hs I0 J0) (wC ca ad hs I0 J0) r := by
  refine jd_metZ (cc := b_K_direct) (by decide) rfl (Nat.le_of_ble_eq_true rfl) (lv := [(0, .ref (ad 15)), (1, .int p0), (2, .int p1), (3, .int p2)]) rfl ?_
  intro p e R s m args below meth c A Q ls cx hR hK hN hD0 hA hP hS hl hend
  have hx := cx.1
  have hb := cx.2.1
  have hml := cx.2.2.1
  have hown := cx.2.2.2.1
  have hts := cx.2.2.2.2
  have hD : ∀ I J, va_D A (wC ca ad hs I J) := fun I J => jd_Dc hD0 rfl
  unfold fm_K_direct at hf
  refine lv_aload_n hx hb d_K_direct_0 rfl (lv_at hl 0 rfl) ?_
  refine lv_iload_n hx hb d_K_direct_1 rfl (lv_at hl 1 rfl) ?_
  obtain ⟨_, hc1, hf2⟩ := ob1_ex hf
  refine jd_cq (va_runV (As := [.int p0]) (rest := []) cx (cm_K_find l D ca ad hs hh hc1 s.heap.size) (cwV 1 hts (jd_gV tb_124 tb_125 tb_0 tb_43 tb_126) rfl rfl rfl ⟨rfl, by decide, by decide, rfl⟩ (by rw [hR]; decide)) ⟨jd_blind nWc, (va_recv hK hP (ci := 3) (q0 := 15) rfl rfl), (jd_pre (av := [.ref (ad 15), .int p0]) hP hK (hD I0 J0) (fun U h => nWm h hN))⟩ rfl rfl hl.1 rfl (lv_room (Nat.le_of_ble_eq_true rfl)) d_K_direct_2 ⟨Nat.zero_le _, Nat.zero_le _⟩) hS (hD I0 J0) hA (fun H3 L4 hP5 hS6 => ?_)
  refine lv_astore hx hb d_K_direct_5 hl (by decide) (lv' := [(4, .ref (ad 0)), (0, .ref (ad 15)), (1, .int p0), (2, .int p1), (3, .int p2)]) rfl (fun ls7 hl8 => ?_)
  refine lv_aload hx hb d_K_direct_7 (lv_at hl8 0 rfl) ?_
  refine lv_ifnull hx hb d_K_direct_9 ?_
  refine lv_aload hx hb d_K_direct_12 (lv_at hl8 0 rfl) ?_
  refine lv_iload_n hx hb d_K_direct_14 rfl (lv_at hl8 3 rfl) ?_
  refine lv_iload_n hx hb d_K_direct_15 rfl (lv_at hl8 4 rfl) ?_
  obtain ⟨x9, hc10, hf11⟩ := ob1_ex hf2
  refine jd_ci (va_runV (As := [.int p1, .int p2]) (rest := []) cx (cm_H_isAbove l D ca ad hs hc10 H3.size) (cwV 2 hts (jd_gV tb_133 tb_134 tb_135 tb_52 tb_136) rfl rfl rfl ⟨rfl, by decide, by decide, rfl⟩ (by rw [hR]; decide)) ⟨jd_blind nWc, (va_recv hK hP5 (ci := 0) (q0 := 0) rfl rfl), (jd_pre (av := [.ref (ad 0), .int p1, .int p2]) hP5 hK (hD I0 J0) (fun U h => nWm h hN))⟩ rfl rfl hl8.1 rfl (lv_room (Nat.le_of_ble_eq_true rfl)) d_K_direct_16 ⟨Nat.zero_le _, Nat.zero_le _⟩) hS6 (hD I0 J0) hA (fun H12 L13 hP14 hS15 => ?_)
  refine lv_if_eq (tgt := 44) hx hb d_K_direct_19 rfl (fun h16 => ?_) (fun h16 => ?_)
  · have hf17 := ifp hf11 h16
    refine lv_iconst (v := 0) hx hb d_K_direct_44 (by decide) ?_
    cases hf17
    exact hend H12 L13 45 ls7 (show narrow .boolean (.int (0 : Int32)) = .int (0 : Int32) from rfl) hP14 hS15 d_K_direct_45
  · have hf18 := ifn hf11 h16
    refine lv_aload hx hb d_K_direct_22 (lv_at hl8 0 rfl) ?_
    refine va_get (D := D) (ci := 0) (v := .ref (ad 4)) (C := R_H) (T := F_H) (N := 9) hx hb hts (fun w h => List.mem_cons_of_mem _ (uw_H w h)) hown hK hP14 0 rfl rfl 3 (by decide) (hts _ (List.mem_cons_of_mem _ tb_544)) (fun _ h => h) rfl d_K_direct_24 ?_
    refine lv_iload_n hx hb d_K_direct_27 rfl (lv_at hl8 3 rfl) ?_
    obtain ⟨hg19, hf20⟩ := grd_ex hf18
    refine va_iald hx hb hK hP14 4 2 rfl rfl (inB_in hg19) d_K_direct_28 ?_
    refine lv_aload hx hb d_K_direct_29 (lv_at hl8 0 rfl) ?_
    refine va_get (D := D) (ci := 0) (v := .ref (ad 5)) (C := R_H) (T := F_H) (N := 9) hx hb hts (fun w h => List.mem_cons_of_mem _ (uw_H w h)) hown hK hP14 0 rfl rfl 4 (by decide) (hts _ (List.mem_cons_of_mem _ tb_547)) (fun _ h => h) rfl d_K_direct_31 ?_
    refine lv_iload_n hx hb d_K_direct_34 rfl (lv_at hl8 4 rfl) ?_
    obtain ⟨hg21, hf22⟩ := grd_ex hf20
    refine va_iald hx hb hK hP14 5 2 rfl rfl (inB_in hg21) d_K_direct_35 ?_
    refine lv_iand hx hb d_K_direct_36 ?_
    refine lv_if_ne (tgt := 44) hx hb d_K_direct_37 rfl (fun h23 => ?_) (fun h23 => ?_)
    · have hf24 := ifn hf22 h23
      refine lv_iconst (v := 0) hx hb d_K_direct_44 (by decide) ?_
      cases hf24
      exact hend H12 L13 45 ls7 (show narrow .boolean (.int (0 : Int32)) = .int (0 : Int32) from rfl) hP14 hS15 d_K_direct_45
    · have hf25 := ifp hf22 h23
      refine lv_iconst (v := 1) hx hb d_K_direct_40 (by decide) ?_
      refine lv_goto (tgt := 45) hx hb d_K_direct_41 rfl ?_
      cases hf25
      exact hend H12 L13 45 ls7 (show narrow .boolean (.int (1 : Int32)) = .int (1 : Int32) from rfl) hP14 hS15 d_K_direct_45
theorem d_K_orders_0 : decode b_K_orders 0 = .ok (.aload_n 0, 1) := by decide +kernel
theorem d_K_orders_1 : decode b_K_orders 1 = .ok (.iload_n 1, 1) := by decide +kernel
theorem d_K_orders_2 : decode b_K_orders 2 = .ok (.invokevirtual 58, 3) := by decide +kernel
theorem d_K_orders_5 : decode b_K_orders 5 = .ok (.astore_n 2, 1) := by decide +kernel
theorem d_K_orders_6 : decode b_K_orders 6 = .ok (.aload_n 2, 1) := by decide +kernel
theorem d_K_orders_7 : decode b_K_orders 7 = .ok (.ifnonnull 7, 3) := by decide +kernel
theorem d_K_orders_10 : decode b_K_orders 10 = .ok (.lconst 0, 1) := by decide +kernel
theorem d_K_orders_11 : decode b_K_orders 11 = .ok (.goto 9, 3) := by decide +kernel
theorem d_K_orders_14 : decode b_K_orders 14 = .ok (.aload_n 0, 1) := by decide +kernel
theorem d_K_orders_15 : decode b_K_orders 15 = .ok (.iload_n 1, 1) := by decide +kernel
theorem d_K_orders_16 : decode b_K_orders 16 = .ok (.aload_n 2, 1) := by decide +kernel
theorem d_K_orders_17 : decode b_K_orders 17 = .ok (.invokevirtual 107, 3) := by decide +kernel
theorem d_K_orders_20 : decode b_K_orders 20 = .ok (.lreturn, 1) := by decide +kernel
def fm_K_orders (p0 : Int32) (I0 : IS) (J0 : JS) : Option (Int64 × IS × JS) :=
  ob1 (fm_K_find p0) (fun _ => ob3 (fm_K_total p0 I0 J0) (fun y9 I10 J11 => some (y9, I10, J11)))
set_option maxHeartbeats 4000000 in
set_option maxRecDepth 100000 in
theorem cm_K_orders (l : Launch) (D : va_G) (ca : Nat → ClassId) (ad : Nat → Nat) (hs : Nat → Option Nat) {p0 : Int32} {I0 : IS} {J0 : JS} {r : Int64 × IS × JS} (hh : hs p0.toNatClampNeg = some (ad 0)) (hf : fm_K_orders p0 I0 J0 = some r) : CtL l y_K_orders (Cond.code y_K_orders b_K_orders 3 (some .long) :: TB) { frames := 7, cells := 0, slots := 0, locals := 153 } [.ref (ad 15), .int p0] D cls_all (tysC ca) NN (wC ca ad hs I0 J0) (wC ca ad hs r.2.1 r.2.2) r.1 := by
  refine jd_metL (cc := b_K_orders) (by decide) rfl (Nat.le_of_ble_eq_true rfl) (lv := [(0, .ref (ad 15)), (1, .int p0)]) rfl ?_
  intro p e R s m args below meth c A Q ls cx hR hK hN hD0 hA hP hS hl hend
  have hx := cx.1
  have hb := cx.2.1
  have hml := cx.2.2.1
  have hown := cx.2.2.2.1
  have hts := cx.2.2.2.2
  have hD : ∀ I J, va_D A (wC ca ad hs I J) := fun I J => jd_Dc hD0 rfl
  unfold fm_K_orders at hf
  refine lv_aload_n hx hb d_K_orders_0 rfl (lv_at hl 0 rfl) ?_
  refine lv_iload_n hx hb d_K_orders_1 rfl (lv_at hl 1 rfl) ?_
  obtain ⟨_, hc1, hf2⟩ := ob1_ex hf
  refine jd_cq (va_runV (As := [.int p0]) (rest := []) cx (cm_K_find l D ca ad hs hh hc1 s.heap.size) (cwV 1 hts (jd_gV tb_124 tb_125 tb_0 tb_43 tb_126) rfl rfl rfl ⟨rfl, by decide, by decide, rfl⟩ (by rw [hR]; decide)) ⟨jd_blind nWc, (va_recv hK hP (ci := 3) (q0 := 15) rfl rfl), (jd_pre (av := [.ref (ad 15), .int p0]) hP hK (hD I0 J0) (fun U h => nWm h hN))⟩ rfl rfl hl.1 rfl (lv_room (Nat.le_of_ble_eq_true rfl)) d_K_orders_2 ⟨Nat.zero_le _, Nat.zero_le _⟩) hS (hD I0 J0) hA (fun H3 L4 hP5 hS6 => ?_)
  refine lv_astore_n hx hb d_K_orders_5 rfl hl (by decide) (lv' := [(2, .ref (ad 0)), (0, .ref (ad 15)), (1, .int p0)]) rfl (fun ls7 hl8 => ?_)
  refine lv_aload_n hx hb d_K_orders_6 rfl (lv_at hl8 0 rfl) ?_
  refine lv_ifnonnull (tgt := 14) hx hb d_K_orders_7 rfl ?_
  refine lv_aload_n hx hb d_K_orders_14 rfl (lv_at hl8 1 rfl) ?_
  refine lv_iload_n hx hb d_K_orders_15 rfl (lv_at hl8 2 rfl) ?_
  refine lv_aload_n hx hb d_K_orders_16 rfl (lv_at hl8 0 rfl) ?_
  obtain ⟨y9, I10, J11, hc12, hf13⟩ := ob3_ex hf2
  refine jd_cl (va_runV (As := [.int p0, .ref (ad 0)]) (rest := []) cx (cm_K_total l D ca ad hs hc12 H3.size) (cwV 2 hts (jd_gV tb_222 tb_223 tb_7 tb_43 tb_224) rfl rfl rfl ⟨rfl, by decide, by decide, rfl⟩ (by rw [hR]; decide)) ⟨jd_blind nWc, (va_recv hK hP5 (ci := 3) (q0 := 15) rfl rfl), (jd_pre (av := [.ref (ad 15), .int p0, .ref (ad 0)]) hP5 hK (hD I0 J0) (fun U h => nWm h hN))⟩ rfl rfl hl8.1 rfl (lv_room (Nat.le_of_ble_eq_true rfl)) d_K_orders_17 ⟨Nat.zero_le _, Nat.zero_le _⟩) hS6 (hD I0 J0) hA (fun H14 L15 hP16 hS17 => ?_)
  cases hf13
  exact hend H14 L15 20 ls7 hP16 hS17 d_K_orders_20
theorem d_K_atRank_0 : decode b_K_atRank 0 = .ok (.aload_n 0, 1) := by decide +kernel
theorem d_K_atRank_1 : decode b_K_atRank 1 = .ok (.iload_n 1, 1) := by decide +kernel
theorem d_K_atRank_2 : decode b_K_atRank 2 = .ok (.invokevirtual 58, 3) := by decide +kernel
theorem d_K_atRank_5 : decode b_K_atRank 5 = .ok (.astore 4, 2) := by decide +kernel
theorem d_K_atRank_7 : decode b_K_atRank 7 = .ok (.aload 4, 2) := by decide +kernel
theorem d_K_atRank_9 : decode b_K_atRank 9 = .ok (.ifnull 23, 3) := by decide +kernel
theorem d_K_atRank_12 : decode b_K_atRank 12 = .ok (.aload 4, 2) := by decide +kernel
theorem d_K_atRank_14 : decode b_K_atRank 14 = .ok (.iload_n 2, 1) := by decide +kernel
theorem d_K_atRank_15 : decode b_K_atRank 15 = .ok (.invokevirtual 62, 3) := by decide +kernel
theorem d_K_atRank_18 : decode b_K_atRank 18 = .ok (.ifCond .eq 14, 3) := by decide +kernel
theorem d_K_atRank_21 : decode b_K_atRank 21 = .ok (.iload_n 3, 1) := by decide +kernel
theorem d_K_atRank_22 : decode b_K_atRank 22 = .ok (.iconst 1, 1) := by decide +kernel
theorem d_K_atRank_23 : decode b_K_atRank 23 = .ok (.if_icmp .lt 9, 3) := by decide +kernel
theorem d_K_atRank_26 : decode b_K_atRank 26 = .ok (.iload_n 3, 1) := by decide +kernel
theorem d_K_atRank_27 : decode b_K_atRank 27 = .ok (.bipush 16, 2) := by decide +kernel
theorem d_K_atRank_29 : decode b_K_atRank 29 = .ok (.if_icmp .le 5, 3) := by decide +kernel
theorem d_K_atRank_32 : decode b_K_atRank 32 = .ok (.lconst 0, 1) := by decide +kernel
theorem d_K_atRank_33 : decode b_K_atRank 33 = .ok (.lreturn, 1) := by decide +kernel
theorem d_K_atRank_34 : decode b_K_atRank 34 = .ok (.aload_n 0, 1) := by decide +kernel
theorem d_K_atRank_35 : decode b_K_atRank 35 = .ok (.iload_n 1, 1) := by decide +kernel
theorem d_K_atRank_36 : decode b_K_atRank 36 = .ok (.aload 4, 2) := by decide +kernel
theorem d_K_atRank_38 : decode b_K_atRank 38 = .ok (.invokevirtual 111, 3) := by decide +kernel
theorem d_K_atRank_41 : decode b_K_atRank 41 = .ok (.aload 4, 2) := by decide +kernel
theorem d_K_atRank_43 : decode b_K_atRank 43 = .ok (.getfield 115, 3) := by decide +kernel
theorem d_K_atRank_46 : decode b_K_atRank 46 = .ok (.getfield 118, 3) := by decide +kernel
theorem d_K_atRank_49 : decode b_K_atRank 49 = .ok (.iload_n 2, 1) := by decide +kernel
theorem d_K_atRank_50 : decode b_K_atRank 50 = .ok (.bipush 16, 2) := by decide +kernel
theorem d_K_atRank_52 : decode b_K_atRank 52 = .ok (.imul, 1) := by decide +kernel
theorem d_K_atRank_53 : decode b_K_atRank 53 = .ok (.iload_n 3, 1) := by decide +kernel
theorem d_K_atRank_54 : decode b_K_atRank 54 = .ok (.iadd, 1) := by decide +kernel
theorem d_K_atRank_55 : decode b_K_atRank 55 = .ok (.iconst 1, 1) := by decide +kernel
theorem d_K_atRank_56 : decode b_K_atRank 56 = .ok (.isub, 1) := by decide +kernel
theorem d_K_atRank_57 : decode b_K_atRank 57 = .ok (.laload, 1) := by decide +kernel
theorem d_K_atRank_58 : decode b_K_atRank 58 = .ok (.lreturn, 1) := by decide +kernel
def fm_K_atRank (p0 : Int32) (p1 : Int32) (p2 : Int32) (I0 : IS) (J0 : JS) : Option (Int64 × IS × JS) :=
  ob1 (fm_K_find p0) (fun _ => ob1 (fm_H_has p1 I0) (fun x9 => if x9 = 0 then some ((0 : Int64), I0, J0) else if p2 < (1 : Int32) then some ((0 : Int64), I0, J0) else if p2 ≤ (16 : Int32) then ob2 (fm_K_tally p0 I0 J0) (fun I25 J26 => grd (inB (((p1 * (16 : Int32)) + p2) - (1 : Int32)) 256) (some (J26 1 (((p1 * (16 : Int32)) + p2) - (1 : Int32)).toNatClampNeg, I25, J26))) else some ((0 : Int64), I0, J0)))
set_option maxHeartbeats 4000000 in
set_option maxRecDepth 100000 in
theorem cm_K_atRank (l : Launch) (D : va_G) (ca : Nat → ClassId) (ad : Nat → Nat) (hs : Nat → Option Nat) {p0 : Int32} {p1 : Int32} {p2 : Int32} {I0 : IS} {J0 : JS} {r : Int64 × IS × JS} (hh : hs p0.toNatClampNeg = some (ad 0)) (hf : fm_K_atRank p0 p1 p2 I0 J0 = some r) : CtL l y_K_atRank (Cond.code y_K_atRank b_K_atRank 5 (some .long) :: TB) { frames := 7, cells := 0, slots := 0, locals := 153 } [.ref (ad 15), .int p0, .int p1, .int p2] D cls_all (tysC ca) NN (wC ca ad hs I0 J0) (wC ca ad hs r.2.1 r.2.2) r.1 := by
  refine jd_metL (cc := b_K_atRank) (by decide) rfl (Nat.le_of_ble_eq_true rfl) (lv := [(0, .ref (ad 15)), (1, .int p0), (2, .int p1), (3, .int p2)]) rfl ?_
  intro p e R s m args below meth c A Q ls cx hR hK hN hD0 hA hP hS hl hend
  have hx := cx.1
  have hb := cx.2.1
  have hml := cx.2.2.1
  have hown := cx.2.2.2.1
  have hts := cx.2.2.2.2
  have hD : ∀ I J, va_D A (wC ca ad hs I J) := fun I J => jd_Dc hD0 rfl
  unfold fm_K_atRank at hf
  refine lv_aload_n hx hb d_K_atRank_0 rfl (lv_at hl 0 rfl) ?_
  refine lv_iload_n hx hb d_K_atRank_1 rfl (lv_at hl 1 rfl) ?_
  obtain ⟨_, hc1, hf2⟩ := ob1_ex hf
  refine jd_cq (va_runV (As := [.int p0]) (rest := []) cx (cm_K_find l D ca ad hs hh hc1 s.heap.size) (cwV 1 hts (jd_gV tb_124 tb_125 tb_0 tb_43 tb_126) rfl rfl rfl ⟨rfl, by decide, by decide, rfl⟩ (by rw [hR]; decide)) ⟨jd_blind nWc, (va_recv hK hP (ci := 3) (q0 := 15) rfl rfl), (jd_pre (av := [.ref (ad 15), .int p0]) hP hK (hD I0 J0) (fun U h => nWm h hN))⟩ rfl rfl hl.1 rfl (lv_room (Nat.le_of_ble_eq_true rfl)) d_K_atRank_2 ⟨Nat.zero_le _, Nat.zero_le _⟩) hS (hD I0 J0) hA (fun H3 L4 hP5 hS6 => ?_)
  refine lv_astore hx hb d_K_atRank_5 hl (by decide) (lv' := [(4, .ref (ad 0)), (0, .ref (ad 15)), (1, .int p0), (2, .int p1), (3, .int p2)]) rfl (fun ls7 hl8 => ?_)
  refine lv_aload hx hb d_K_atRank_7 (lv_at hl8 0 rfl) ?_
  refine lv_ifnull hx hb d_K_atRank_9 ?_
  refine lv_aload hx hb d_K_atRank_12 (lv_at hl8 0 rfl) ?_
  refine lv_iload_n hx hb d_K_atRank_14 rfl (lv_at hl8 3 rfl) ?_
  obtain ⟨x9, hc10, hf11⟩ := ob1_ex hf2
  refine jd_ci (va_runV (As := [.int p1]) (rest := []) cx (cm_H_has l D ca ad hs hc10 H3.size) (cwV 1 hts (jd_gV tb_127 tb_128 tb_129 tb_52 tb_130) rfl rfl rfl ⟨rfl, by decide, by decide, rfl⟩ (by rw [hR]; decide)) ⟨jd_blind nWc, (va_recv hK hP5 (ci := 0) (q0 := 0) rfl rfl), (jd_pre (av := [.ref (ad 0), .int p1]) hP5 hK (hD I0 J0) (fun U h => nWm h hN))⟩ rfl rfl hl8.1 rfl (lv_room (Nat.le_of_ble_eq_true rfl)) d_K_atRank_15 ⟨Nat.zero_le _, Nat.zero_le _⟩) hS6 (hD I0 J0) hA (fun H12 L13 hP14 hS15 => ?_)
  refine lv_if_eq (tgt := 32) hx hb d_K_atRank_18 rfl (fun h16 => ?_) (fun h16 => ?_)
  · have hf17 := ifp hf11 h16
    refine lv_lconst (v := 0) hx hb d_K_atRank_32 (by decide) ?_
    cases hf17
    exact hend H12 L13 33 ls7 hP14 hS15 d_K_atRank_33
  · have hf18 := ifn hf11 h16
    refine lv_iload_n hx hb d_K_atRank_21 rfl (lv_at hl8 4 rfl) ?_
    refine lv_iconst (v := 1) hx hb d_K_atRank_22 (by decide) ?_
    refine lv_icmp_lt (tgt := 32) hx hb d_K_atRank_23 rfl (fun h19 => ?_) (fun h19 => ?_)
    · have hf20 := ifp hf18 h19
      refine lv_lconst (v := 0) hx hb d_K_atRank_32 (by decide) ?_
      cases hf20
      exact hend H12 L13 33 ls7 hP14 hS15 d_K_atRank_33
    · have hf21 := ifn hf18 h19
      refine lv_iload_n hx hb d_K_atRank_26 rfl (lv_at hl8 4 rfl) ?_
      refine lv_bipush (v := 16) hx hb d_K_atRank_27 (by decide) ?_
      refine lv_icmp_le (tgt := 34) hx hb d_K_atRank_29 rfl (fun h22 => ?_) (fun h22 => ?_)
      · have hf23 := ifp hf21 h22
        refine lv_aload_n hx hb d_K_atRank_34 rfl (lv_at hl8 1 rfl) ?_
        refine lv_iload_n hx hb d_K_atRank_35 rfl (lv_at hl8 2 rfl) ?_
        refine lv_aload hx hb d_K_atRank_36 (lv_at hl8 0 rfl) ?_
        obtain ⟨I25, J26, hc27, hf28⟩ := ob2_ex hf23
        refine jd_cv (va_runV (As := [.int p0, .ref (ad 0)]) (rest := []) cx (cm_K_tally l D ca ad hs hc27 H12.size) (cwV 2 hts (jd_gV tb_269 tb_270 tb_16 tb_43 tb_271) rfl rfl rfl ⟨rfl, by decide, by decide, rfl⟩ (by rw [hR]; decide)) ⟨jd_blind nWc, (va_recv hK hP14 (ci := 3) (q0 := 15) rfl rfl), (jd_pre (av := [.ref (ad 15), .int p0, .ref (ad 0)]) hP14 hK (hD I0 J0) (fun U h => nWm h hN))⟩ rfl rfl hl8.1 rfl (lv_room (Nat.le_of_ble_eq_true rfl)) d_K_atRank_38 ⟨Nat.zero_le _, Nat.zero_le _⟩) hS15 (hD I0 J0) hA (fun H29 L30 hP31 hS32 => ?_)
        refine lv_aload hx hb d_K_atRank_41 (lv_at hl8 0 rfl) ?_
        refine va_get (D := D) (ci := 0) (v := .ref (ad 6)) (C := R_H) (T := F_H) (N := 9) hx hb hts (fun w h => List.mem_cons_of_mem _ (uw_H w h)) hown hK hP31 0 rfl rfl 5 (by decide) (hts _ (List.mem_cons_of_mem _ tb_550)) (fun _ h => h) rfl d_K_atRank_43 ?_
        refine va_get (D := D) (ci := 1) (v := .ref (ad 7)) (C := R_T) (T := F_T) (N := 4) hx hb hts (fun w h => List.mem_cons_of_mem _ (uw_T w h)) hown hK hP31 6 rfl rfl 2 (by decide) (hts _ (List.mem_cons_of_mem _ tb_491)) (fun _ h => h) rfl d_K_atRank_46 ?_
        refine lv_iload_n hx hb d_K_atRank_49 rfl (lv_at hl8 3 rfl) ?_
        refine lv_bipush (v := 16) hx hb d_K_atRank_50 (by decide) ?_
        refine lv_imul hx hb d_K_atRank_52 ?_
        refine lv_iload_n hx hb d_K_atRank_53 rfl (lv_at hl8 4 rfl) ?_
        refine lv_iadd hx hb d_K_atRank_54 ?_
        refine lv_iconst (v := 1) hx hb d_K_atRank_55 (by decide) ?_
        refine lv_isub hx hb d_K_atRank_56 ?_
        obtain ⟨hg33, hf34⟩ := grd_ex hf28
        refine va_lald hx hb hK hP31 7 3 rfl rfl (inB_in hg33) d_K_atRank_57 ?_
        cases hf34
        exact hend H29 L30 58 ls7 hP31 hS32 d_K_atRank_58
      · have hf24 := ifn hf21 h22
        refine lv_lconst (v := 0) hx hb d_K_atRank_32 (by decide) ?_
        cases hf24
        exact hend H12 L13 33 ls7 hP14 hS15 d_K_atRank_33
theorem d_K_before_0 : decode b_K_before 0 = .ok (.aload_n 0, 1) := by decide +kernel
theorem d_K_before_1 : decode b_K_before 1 = .ok (.iload_n 1, 1) := by decide +kernel
theorem d_K_before_2 : decode b_K_before 2 = .ok (.invokevirtual 58, 3) := by decide +kernel
theorem d_K_before_5 : decode b_K_before 5 = .ok (.astore 4, 2) := by decide +kernel
theorem d_K_before_7 : decode b_K_before 7 = .ok (.aload 4, 2) := by decide +kernel
theorem d_K_before_9 : decode b_K_before 9 = .ok (.ifnull 26, 3) := by decide +kernel
theorem d_K_before_12 : decode b_K_before 12 = .ok (.aload 4, 2) := by decide +kernel
theorem d_K_before_14 : decode b_K_before 14 = .ok (.iload_n 2, 1) := by decide +kernel
theorem d_K_before_15 : decode b_K_before 15 = .ok (.invokevirtual 62, 3) := by decide +kernel
theorem d_K_before_18 : decode b_K_before 18 = .ok (.ifCond .eq 17, 3) := by decide +kernel
theorem d_K_before_21 : decode b_K_before 21 = .ok (.aload 4, 2) := by decide +kernel
theorem d_K_before_23 : decode b_K_before 23 = .ok (.iload_n 3, 1) := by decide +kernel
theorem d_K_before_24 : decode b_K_before 24 = .ok (.invokevirtual 62, 3) := by decide +kernel
theorem d_K_before_27 : decode b_K_before 27 = .ok (.ifCond .eq 8, 3) := by decide +kernel
theorem d_K_before_30 : decode b_K_before 30 = .ok (.iload_n 2, 1) := by decide +kernel
theorem d_K_before_31 : decode b_K_before 31 = .ok (.iload_n 3, 1) := by decide +kernel
theorem d_K_before_32 : decode b_K_before 32 = .ok (.if_icmp .ne 5, 3) := by decide +kernel
theorem d_K_before_35 : decode b_K_before 35 = .ok (.lconst 0, 1) := by decide +kernel
theorem d_K_before_36 : decode b_K_before 36 = .ok (.lreturn, 1) := by decide +kernel
theorem d_K_before_37 : decode b_K_before 37 = .ok (.aload_n 0, 1) := by decide +kernel
theorem d_K_before_38 : decode b_K_before 38 = .ok (.iload_n 1, 1) := by decide +kernel
theorem d_K_before_39 : decode b_K_before 39 = .ok (.aload 4, 2) := by decide +kernel
theorem d_K_before_41 : decode b_K_before 41 = .ok (.invokevirtual 111, 3) := by decide +kernel
theorem d_K_before_44 : decode b_K_before 44 = .ok (.aload 4, 2) := by decide +kernel
theorem d_K_before_46 : decode b_K_before 46 = .ok (.getfield 115, 3) := by decide +kernel
theorem d_K_before_49 : decode b_K_before 49 = .ok (.getfield 124, 3) := by decide +kernel
theorem d_K_before_52 : decode b_K_before 52 = .ok (.iload_n 2, 1) := by decide +kernel
theorem d_K_before_53 : decode b_K_before 53 = .ok (.bipush 16, 2) := by decide +kernel
theorem d_K_before_55 : decode b_K_before 55 = .ok (.imul, 1) := by decide +kernel
theorem d_K_before_56 : decode b_K_before 56 = .ok (.iload_n 3, 1) := by decide +kernel
theorem d_K_before_57 : decode b_K_before 57 = .ok (.iadd, 1) := by decide +kernel
theorem d_K_before_58 : decode b_K_before 58 = .ok (.laload, 1) := by decide +kernel
theorem d_K_before_59 : decode b_K_before 59 = .ok (.lreturn, 1) := by decide +kernel
def fm_K_before (p0 : Int32) (p1 : Int32) (p2 : Int32) (I0 : IS) (J0 : JS) : Option (Int64 × IS × JS) :=
  ob1 (fm_K_find p0) (fun _ => ob1 (fm_H_has p1 I0) (fun x9 => if x9 = 0 then some ((0 : Int64), I0, J0) else ob1 (fm_H_has p2 I0) (fun x19 => if x19 = 0 then some ((0 : Int64), I0, J0) else if p1 = p2 then some ((0 : Int64), I0, J0) else ob2 (fm_K_tally p0 I0 J0) (fun I32 J33 => grd (inB ((p1 * (16 : Int32)) + p2) 256) (some (J33 2 ((p1 * (16 : Int32)) + p2).toNatClampNeg, I32, J33))))))
set_option maxHeartbeats 4000000 in
set_option maxRecDepth 100000 in
theorem cm_K_before (l : Launch) (D : va_G) (ca : Nat → ClassId) (ad : Nat → Nat) (hs : Nat → Option Nat) {p0 : Int32} {p1 : Int32} {p2 : Int32} {I0 : IS} {J0 : JS} {r : Int64 × IS × JS} (hh : hs p0.toNatClampNeg = some (ad 0)) (hf : fm_K_before p0 p1 p2 I0 J0 = some r) : CtL l y_K_before (Cond.code y_K_before b_K_before 5 (some .long) :: TB) { frames := 7, cells := 0, slots := 0, locals := 153 } [.ref (ad 15), .int p0, .int p1, .int p2] D cls_all (tysC ca) NN (wC ca ad hs I0 J0) (wC ca ad hs r.2.1 r.2.2) r.1 := by
  refine jd_metL (cc := b_K_before) (by decide) rfl (Nat.le_of_ble_eq_true rfl) (lv := [(0, .ref (ad 15)), (1, .int p0), (2, .int p1), (3, .int p2)]) rfl ?_
  intro p e R s m args below meth c A Q ls cx hR hK hN hD0 hA hP hS hl hend
  have hx := cx.1
  have hb := cx.2.1
  have hml := cx.2.2.1
  have hown := cx.2.2.2.1
  have hts := cx.2.2.2.2
  have hD : ∀ I J, va_D A (wC ca ad hs I J) := fun I J => jd_Dc hD0 rfl
  unfold fm_K_before at hf
  refine lv_aload_n hx hb d_K_before_0 rfl (lv_at hl 0 rfl) ?_
  refine lv_iload_n hx hb d_K_before_1 rfl (lv_at hl 1 rfl) ?_
  obtain ⟨_, hc1, hf2⟩ := ob1_ex hf
  refine jd_cq (va_runV (As := [.int p0]) (rest := []) cx (cm_K_find l D ca ad hs hh hc1 s.heap.size) (cwV 1 hts (jd_gV tb_124 tb_125 tb_0 tb_43 tb_126) rfl rfl rfl ⟨rfl, by decide, by decide, rfl⟩ (by rw [hR]; decide)) ⟨jd_blind nWc, (va_recv hK hP (ci := 3) (q0 := 15) rfl rfl), (jd_pre (av := [.ref (ad 15), .int p0]) hP hK (hD I0 J0) (fun U h => nWm h hN))⟩ rfl rfl hl.1 rfl (lv_room (Nat.le_of_ble_eq_true rfl)) d_K_before_2 ⟨Nat.zero_le _, Nat.zero_le _⟩) hS (hD I0 J0) hA (fun H3 L4 hP5 hS6 => ?_)
  refine lv_astore hx hb d_K_before_5 hl (by decide) (lv' := [(4, .ref (ad 0)), (0, .ref (ad 15)), (1, .int p0), (2, .int p1), (3, .int p2)]) rfl (fun ls7 hl8 => ?_)
  refine lv_aload hx hb d_K_before_7 (lv_at hl8 0 rfl) ?_
  refine lv_ifnull hx hb d_K_before_9 ?_
  refine lv_aload hx hb d_K_before_12 (lv_at hl8 0 rfl) ?_
  refine lv_iload_n hx hb d_K_before_14 rfl (lv_at hl8 3 rfl) ?_
  obtain ⟨x9, hc10, hf11⟩ := ob1_ex hf2
  refine jd_ci (va_runV (As := [.int p1]) (rest := []) cx (cm_H_has l D ca ad hs hc10 H3.size) (cwV 1 hts (jd_gV tb_127 tb_128 tb_129 tb_52 tb_130) rfl rfl rfl ⟨rfl, by decide, by decide, rfl⟩ (by rw [hR]; decide)) ⟨jd_blind nWc, (va_recv hK hP5 (ci := 0) (q0 := 0) rfl rfl), (jd_pre (av := [.ref (ad 0), .int p1]) hP5 hK (hD I0 J0) (fun U h => nWm h hN))⟩ rfl rfl hl8.1 rfl (lv_room (Nat.le_of_ble_eq_true rfl)) d_K_before_15 ⟨Nat.zero_le _, Nat.zero_le _⟩) hS6 (hD I0 J0) hA (fun H12 L13 hP14 hS15 => ?_)
  refine lv_if_eq (tgt := 35) hx hb d_K_before_18 rfl (fun h16 => ?_) (fun h16 => ?_)
  · have hf17 := ifp hf11 h16
    refine lv_lconst (v := 0) hx hb d_K_before_35 (by decide) ?_
    cases hf17
    exact hend H12 L13 36 ls7 hP14 hS15 d_K_before_36
  · have hf18 := ifn hf11 h16
    refine lv_aload hx hb d_K_before_21 (lv_at hl8 0 rfl) ?_
    refine lv_iload_n hx hb d_K_before_23 rfl (lv_at hl8 4 rfl) ?_
    obtain ⟨x19, hc20, hf21⟩ := ob1_ex hf18
    refine jd_ci (va_runV (As := [.int p2]) (rest := []) cx (cm_H_has l D ca ad hs hc20 H12.size) (cwV 1 hts (jd_gV tb_127 tb_128 tb_129 tb_52 tb_130) rfl rfl rfl ⟨rfl, by decide, by decide, rfl⟩ (by rw [hR]; decide)) ⟨jd_blind nWc, (va_recv hK hP14 (ci := 0) (q0 := 0) rfl rfl), (jd_pre (av := [.ref (ad 0), .int p2]) hP14 hK (hD I0 J0) (fun U h => nWm h hN))⟩ rfl rfl hl8.1 rfl (lv_room (Nat.le_of_ble_eq_true rfl)) d_K_before_24 ⟨Nat.zero_le _, Nat.zero_le _⟩) hS15 (hD I0 J0) hA (fun H22 L23 hP24 hS25 => ?_)
    refine lv_if_eq (tgt := 35) hx hb d_K_before_27 rfl (fun h26 => ?_) (fun h26 => ?_)
    · have hf27 := ifp hf21 h26
      refine lv_lconst (v := 0) hx hb d_K_before_35 (by decide) ?_
      cases hf27
      exact hend H22 L23 36 ls7 hP24 hS25 d_K_before_36
    · have hf28 := ifn hf21 h26
      refine lv_iload_n hx hb d_K_before_30 rfl (lv_at hl8 3 rfl) ?_
      refine lv_iload_n hx hb d_K_before_31 rfl (lv_at hl8 4 rfl) ?_
      refine lv_icmp_ne (tgt := 37) hx hb d_K_before_32 rfl (fun h29 => ?_) (fun h29 => ?_)
      · have hf30 := ifn hf28 h29
        refine lv_aload_n hx hb d_K_before_37 rfl (lv_at hl8 1 rfl) ?_
        refine lv_iload_n hx hb d_K_before_38 rfl (lv_at hl8 2 rfl) ?_
        refine lv_aload hx hb d_K_before_39 (lv_at hl8 0 rfl) ?_
        obtain ⟨I32, J33, hc34, hf35⟩ := ob2_ex hf30
        refine jd_cv (va_runV (As := [.int p0, .ref (ad 0)]) (rest := []) cx (cm_K_tally l D ca ad hs hc34 H22.size) (cwV 2 hts (jd_gV tb_269 tb_270 tb_16 tb_43 tb_271) rfl rfl rfl ⟨rfl, by decide, by decide, rfl⟩ (by rw [hR]; decide)) ⟨jd_blind nWc, (va_recv hK hP24 (ci := 3) (q0 := 15) rfl rfl), (jd_pre (av := [.ref (ad 15), .int p0, .ref (ad 0)]) hP24 hK (hD I0 J0) (fun U h => nWm h hN))⟩ rfl rfl hl8.1 rfl (lv_room (Nat.le_of_ble_eq_true rfl)) d_K_before_41 ⟨Nat.zero_le _, Nat.zero_le _⟩) hS25 (hD I0 J0) hA (fun H36 L37 hP38 hS39 => ?_)
        refine lv_aload hx hb d_K_before_44 (lv_at hl8 0 rfl) ?_
        refine va_get (D := D) (ci := 0) (v := .ref (ad 6)) (C := R_H) (T := F_H) (N := 9) hx hb hts (fun w h => List.mem_cons_of_mem _ (uw_H w h)) hown hK hP38 0 rfl rfl 5 (by decide) (hts _ (List.mem_cons_of_mem _ tb_550)) (fun _ h => h) rfl d_K_before_46 ?_
        refine va_get (D := D) (ci := 1) (v := .ref (ad 8)) (C := R_T) (T := F_T) (N := 4) hx hb hts (fun w h => List.mem_cons_of_mem _ (uw_T w h)) hown hK hP38 6 rfl rfl 3 (by decide) (hts _ (List.mem_cons_of_mem _ tb_493)) (fun _ h => h) rfl d_K_before_49 ?_
        refine lv_iload_n hx hb d_K_before_52 rfl (lv_at hl8 3 rfl) ?_
        refine lv_bipush (v := 16) hx hb d_K_before_53 (by decide) ?_
        refine lv_imul hx hb d_K_before_55 ?_
        refine lv_iload_n hx hb d_K_before_56 rfl (lv_at hl8 4 rfl) ?_
        refine lv_iadd hx hb d_K_before_57 ?_
        obtain ⟨hg40, hf41⟩ := grd_ex hf35
        refine va_lald hx hb hK hP38 8 3 rfl rfl (inB_in hg40) d_K_before_58 ?_
        cases hf41
        exact hend H36 L37 59 ls7 hP38 hS39 d_K_before_59
      · have hf31 := ifp hf28 h29
        refine lv_lconst (v := 0) hx hb d_K_before_35 (by decide) ?_
        cases hf31
        exact hend H22 L23 36 ls7 hP24 hS25 d_K_before_36
theorem d_K_meanRank_0 : decode b_K_meanRank 0 = .ok (.aload_n 0, 1) := by decide +kernel
theorem d_K_meanRank_1 : decode b_K_meanRank 1 = .ok (.iload_n 1, 1) := by decide +kernel
theorem d_K_meanRank_2 : decode b_K_meanRank 2 = .ok (.invokevirtual 58, 3) := by decide +kernel
theorem d_K_meanRank_5 : decode b_K_meanRank 5 = .ok (.astore 4, 2) := by decide +kernel
theorem d_K_meanRank_7 : decode b_K_meanRank 7 = .ok (.aload 4, 2) := by decide +kernel
theorem d_K_meanRank_9 : decode b_K_meanRank 9 = .ok (.ifnull 12, 3) := by decide +kernel
theorem d_K_meanRank_12 : decode b_K_meanRank 12 = .ok (.aload 4, 2) := by decide +kernel
theorem d_K_meanRank_14 : decode b_K_meanRank 14 = .ok (.iload_n 2, 1) := by decide +kernel
theorem d_K_meanRank_15 : decode b_K_meanRank 15 = .ok (.invokevirtual 62, 3) := by decide +kernel
theorem d_K_meanRank_18 : decode b_K_meanRank 18 = .ok (.ifCond .ne 5, 3) := by decide +kernel
theorem d_K_meanRank_21 : decode b_K_meanRank 21 = .ok (.lconst 0, 1) := by decide +kernel
theorem d_K_meanRank_22 : decode b_K_meanRank 22 = .ok (.lreturn, 1) := by decide +kernel
theorem d_K_meanRank_23 : decode b_K_meanRank 23 = .ok (.aload_n 0, 1) := by decide +kernel
theorem d_K_meanRank_24 : decode b_K_meanRank 24 = .ok (.iload_n 1, 1) := by decide +kernel
theorem d_K_meanRank_25 : decode b_K_meanRank 25 = .ok (.aload 4, 2) := by decide +kernel
theorem d_K_meanRank_27 : decode b_K_meanRank 27 = .ok (.invokevirtual 111, 3) := by decide +kernel
theorem d_K_meanRank_30 : decode b_K_meanRank 30 = .ok (.aload 4, 2) := by decide +kernel
theorem d_K_meanRank_32 : decode b_K_meanRank 32 = .ok (.getfield 115, 3) := by decide +kernel
theorem d_K_meanRank_35 : decode b_K_meanRank 35 = .ok (.iload_n 2, 1) := by decide +kernel
theorem d_K_meanRank_36 : decode b_K_meanRank 36 = .ok (.invokevirtual 127, 3) := by decide +kernel
theorem d_K_meanRank_39 : decode b_K_meanRank 39 = .ok (.aload 4, 2) := by decide +kernel
theorem d_K_meanRank_41 : decode b_K_meanRank 41 = .ok (.getfield 115, 3) := by decide +kernel
theorem d_K_meanRank_44 : decode b_K_meanRank 44 = .ok (.getfield 131, 3) := by decide +kernel
theorem d_K_meanRank_47 : decode b_K_meanRank 47 = .ok (.iload_n 3, 1) := by decide +kernel
theorem d_K_meanRank_48 : decode b_K_meanRank 48 = .ok (.invokestatic 134, 3) := by decide +kernel
theorem d_K_meanRank_51 : decode b_K_meanRank 51 = .ok (.lreturn, 1) := by decide +kernel
def fm_K_meanRank (p0 : Int32) (p1 : Int32) (p2 : Int32) (I0 : IS) (J0 : JS) : Option (Int64 × IS × JS) :=
  ob1 (fm_K_find p0) (fun _ => ob1 (fm_H_has p1 I0) (fun x9 => if x9 = 0 then some ((0 : Int64), I0, J0) else ob2 (fm_K_tally p0 I0 J0) (fun I19 J20 => ob1 (fm_T_sumOfRanks p1 J20) (fun y27 => ob1 (fm_K_inLowestTerms y27 (J20 0 0) p2) (fun y34 => some (y34, I19, J20))))))
set_option maxHeartbeats 4000000 in
set_option maxRecDepth 100000 in
theorem cm_K_meanRank (l : Launch) (D : va_G) (ca : Nat → ClassId) (ad : Nat → Nat) (hs : Nat → Option Nat) {p0 : Int32} {p1 : Int32} {p2 : Int32} {I0 : IS} {J0 : JS} {r : Int64 × IS × JS} (hh : hs p0.toNatClampNeg = some (ad 0)) (hf : fm_K_meanRank p0 p1 p2 I0 J0 = some r) : CtL l y_K_meanRank (Cond.code y_K_meanRank b_K_meanRank 5 (some .long) :: TB) { frames := 7, cells := 0, slots := 0, locals := 153 } [.ref (ad 15), .int p0, .int p1, .int p2] D cls_all (tysC ca) NN (wC ca ad hs I0 J0) (wC ca ad hs r.2.1 r.2.2) r.1 := by
  refine jd_metL (cc := b_K_meanRank) (by decide) rfl (Nat.le_of_ble_eq_true rfl) (lv := [(0, .ref (ad 15)), (1, .int p0), (2, .int p1), (3, .int p2)]) rfl ?_
  intro p e R s m args below meth c A Q ls cx hR hK hN hD0 hA hP hS hl hend
  have hx := cx.1
  have hb := cx.2.1
  have hml := cx.2.2.1
  have hown := cx.2.2.2.1
  have hts := cx.2.2.2.2
  have hD : ∀ I J, va_D A (wC ca ad hs I J) := fun I J => jd_Dc hD0 rfl
  unfold fm_K_meanRank at hf
  refine lv_aload_n hx hb d_K_meanRank_0 rfl (lv_at hl 0 rfl) ?_
  refine lv_iload_n hx hb d_K_meanRank_1 rfl (lv_at hl 1 rfl) ?_
  obtain ⟨_, hc1, hf2⟩ := ob1_ex hf
  refine jd_cq (va_runV (As := [.int p0]) (rest := []) cx (cm_K_find l D ca ad hs hh hc1 s.heap.size) (cwV 1 hts (jd_gV tb_124 tb_125 tb_0 tb_43 tb_126) rfl rfl rfl ⟨rfl, by decide, by decide, rfl⟩ (by rw [hR]; decide)) ⟨jd_blind nWc, (va_recv hK hP (ci := 3) (q0 := 15) rfl rfl), (jd_pre (av := [.ref (ad 15), .int p0]) hP hK (hD I0 J0) (fun U h => nWm h hN))⟩ rfl rfl hl.1 rfl (lv_room (Nat.le_of_ble_eq_true rfl)) d_K_meanRank_2 ⟨Nat.zero_le _, Nat.zero_le _⟩) hS (hD I0 J0) hA (fun H3 L4 hP5 hS6 => ?_)
  refine lv_astore hx hb d_K_meanRank_5 hl (by decide) (lv' := [(4, .ref (ad 0)), (0, .ref (ad 15)), (1, .int p0), (2, .int p1), (3, .int p2)]) rfl (fun ls7 hl8 => ?_)
  refine lv_aload hx hb d_K_meanRank_7 (lv_at hl8 0 rfl) ?_
  refine lv_ifnull hx hb d_K_meanRank_9 ?_
  refine lv_aload hx hb d_K_meanRank_12 (lv_at hl8 0 rfl) ?_
  refine lv_iload_n hx hb d_K_meanRank_14 rfl (lv_at hl8 3 rfl) ?_
  obtain ⟨x9, hc10, hf11⟩ := ob1_ex hf2
  refine jd_ci (va_runV (As := [.int p1]) (rest := []) cx (cm_H_has l D ca ad hs hc10 H3.size) (cwV 1 hts (jd_gV tb_127 tb_128 tb_129 tb_52 tb_130) rfl rfl rfl ⟨rfl, by decide, by decide, rfl⟩ (by rw [hR]; decide)) ⟨jd_blind nWc, (va_recv hK hP5 (ci := 0) (q0 := 0) rfl rfl), (jd_pre (av := [.ref (ad 0), .int p1]) hP5 hK (hD I0 J0) (fun U h => nWm h hN))⟩ rfl rfl hl8.1 rfl (lv_room (Nat.le_of_ble_eq_true rfl)) d_K_meanRank_15 ⟨Nat.zero_le _, Nat.zero_le _⟩) hS6 (hD I0 J0) hA (fun H12 L13 hP14 hS15 => ?_)
  refine lv_if_ne (tgt := 23) hx hb d_K_meanRank_18 rfl (fun h16 => ?_) (fun h16 => ?_)
  · have hf17 := ifn hf11 h16
    refine lv_aload_n hx hb d_K_meanRank_23 rfl (lv_at hl8 1 rfl) ?_
    refine lv_iload_n hx hb d_K_meanRank_24 rfl (lv_at hl8 2 rfl) ?_
    refine lv_aload hx hb d_K_meanRank_25 (lv_at hl8 0 rfl) ?_
    obtain ⟨I19, J20, hc21, hf22⟩ := ob2_ex hf17
    refine jd_cv (va_runV (As := [.int p0, .ref (ad 0)]) (rest := []) cx (cm_K_tally l D ca ad hs hc21 H12.size) (cwV 2 hts (jd_gV tb_269 tb_270 tb_16 tb_43 tb_271) rfl rfl rfl ⟨rfl, by decide, by decide, rfl⟩ (by rw [hR]; decide)) ⟨jd_blind nWc, (va_recv hK hP14 (ci := 3) (q0 := 15) rfl rfl), (jd_pre (av := [.ref (ad 15), .int p0, .ref (ad 0)]) hP14 hK (hD I0 J0) (fun U h => nWm h hN))⟩ rfl rfl hl8.1 rfl (lv_room (Nat.le_of_ble_eq_true rfl)) d_K_meanRank_27 ⟨Nat.zero_le _, Nat.zero_le _⟩) hS15 (hD I0 J0) hA (fun H23 L24 hP25 hS26 => ?_)
    refine lv_aload hx hb d_K_meanRank_30 (lv_at hl8 0 rfl) ?_
    refine va_get (D := D) (ci := 0) (v := .ref (ad 6)) (C := R_H) (T := F_H) (N := 9) hx hb hts (fun w h => List.mem_cons_of_mem _ (uw_H w h)) hown hK hP25 0 rfl rfl 5 (by decide) (hts _ (List.mem_cons_of_mem _ tb_550)) (fun _ h => h) rfl d_K_meanRank_32 ?_
    refine lv_iload_n hx hb d_K_meanRank_35 rfl (lv_at hl8 3 rfl) ?_
    obtain ⟨y27, hc28, hf29⟩ := ob1_ex hf22
    refine jd_cl (va_runV (As := [.int p1]) (rest := []) cx (cm_T_sumOfRanks l D ca ad hs hc28 H23.size) (cwV 1 hts (jd_gV tb_304 tb_305 tb_306 tb_53 tb_307) rfl rfl rfl ⟨rfl, by decide, by decide, rfl⟩ (by rw [hR]; decide)) ⟨jd_blind nWc, (va_recv hK hP25 (ci := 1) (q0 := 6) rfl rfl), (jd_pre (av := [.ref (ad 6), .int p1]) hP25 hK (hD I19 J20) (fun U h => nWm h hN))⟩ rfl rfl hl8.1 rfl (lv_room (Nat.le_of_ble_eq_true rfl)) d_K_meanRank_36 ⟨Nat.zero_le _, Nat.zero_le _⟩) hS26 (hD I19 J20) hA (fun H30 L31 hP32 hS33 => ?_)
    refine lv_aload hx hb d_K_meanRank_39 (lv_at hl8 0 rfl) ?_
    refine va_get (D := D) (ci := 0) (v := .ref (ad 6)) (C := R_H) (T := F_H) (N := 9) hx hb hts (fun w h => List.mem_cons_of_mem _ (uw_H w h)) hown hK hP32 0 rfl rfl 5 (by decide) (hts _ (List.mem_cons_of_mem _ tb_550)) (fun _ h => h) rfl d_K_meanRank_41 ?_
    refine va_get (D := D) (ci := 1) (v := .long (J20 0 0)) (C := R_T) (T := F_T) (N := 4) hx hb hts (fun w h => List.mem_cons_of_mem _ (uw_T w h)) hown hK hP32 6 rfl rfl 1 (by decide) (hts _ (List.mem_cons_of_mem _ tb_488)) (fun _ h => h) rfl d_K_meanRank_44 ?_
    refine lv_iload_n hx hb d_K_meanRank_47 rfl (lv_at hl8 4 rfl) ?_
    obtain ⟨y34, hc35, hf36⟩ := ob1_ex hf29
    refine jd_cl (va_runS (As := [.long y27, .long (J20 0 0), .int p2]) (rest := []) cx (cm_K_inLowestTerms l D ca (wC ca ad hs I19 J20) (I0 := I19) (J0 := J20) hc35 H30.size) (va_cwS 3 hts (jd_gS2 tb_308 tb_309 tb_43 tb_310) rfl rfl rfl ⟨by decide, by decide, rfl⟩ (by rw [hR]; decide)) ⟨jd_blind nWc, (jd_pre (av := [.long y27, .long (J20 0 0), .int p2]) hP32 hK (hD I19 J20) (fun U h => nWm h hN))⟩ rfl rfl hl8.1 rfl (lv_room (Nat.le_of_ble_eq_true rfl)) d_K_meanRank_48 ⟨Nat.zero_le _, Nat.zero_le _⟩) hS33 (hD I19 J20) hA (fun H37 L38 hP39 hS40 => ?_)
    cases hf36
    exact hend H37 L38 51 ls7 hP39 hS40 d_K_meanRank_51
  · have hf18 := ifp hf11 h16
    refine lv_lconst (v := 0) hx hb d_K_meanRank_21 (by decide) ?_
    cases hf18
    exact hend H12 L13 22 ls7 hP14 hS15 d_K_meanRank_22
theorem d_K_order_0 : decode b_K_order 0 = .ok (.aload_n 0, 1) := by decide +kernel
theorem d_K_order_1 : decode b_K_order 1 = .ok (.iload_n 1, 1) := by decide +kernel
theorem d_K_order_2 : decode b_K_order 2 = .ok (.invokevirtual 58, 3) := by decide +kernel
theorem d_K_order_5 : decode b_K_order 5 = .ok (.astore 5, 2) := by decide +kernel
theorem d_K_order_7 : decode b_K_order 7 = .ok (.aload 5, 2) := by decide +kernel
theorem d_K_order_9 : decode b_K_order 9 = .ok (.ifnull 37, 3) := by decide +kernel
theorem d_K_order_12 : decode b_K_order 12 = .ok (.iload 4, 2) := by decide +kernel
theorem d_K_order_14 : decode b_K_order 14 = .ok (.iconst 1, 1) := by decide +kernel
theorem d_K_order_15 : decode b_K_order 15 = .ok (.if_icmp .lt 31, 3) := by decide +kernel
theorem d_K_order_18 : decode b_K_order 18 = .ok (.iload 4, 2) := by decide +kernel
theorem d_K_order_20 : decode b_K_order 20 = .ok (.aload 5, 2) := by decide +kernel
theorem d_K_order_22 : decode b_K_order 22 = .ok (.invokevirtual 94, 3) := by decide +kernel
theorem d_K_order_25 : decode b_K_order 25 = .ok (.if_icmp .gt 21, 3) := by decide +kernel
theorem d_K_order_28 : decode b_K_order 28 = .ok (.lload_n 2, 1) := by decide +kernel
theorem d_K_order_29 : decode b_K_order 29 = .ok (.lconst 0, 1) := by decide +kernel
theorem d_K_order_30 : decode b_K_order 30 = .ok (.lcmp, 1) := by decide +kernel
theorem d_K_order_31 : decode b_K_order 31 = .ok (.ifCond .lt 15, 3) := by decide +kernel
theorem d_K_order_34 : decode b_K_order 34 = .ok (.lload_n 2, 1) := by decide +kernel
theorem d_K_order_35 : decode b_K_order 35 = .ok (.aload_n 0, 1) := by decide +kernel
theorem d_K_order_36 : decode b_K_order 36 = .ok (.iload_n 1, 1) := by decide +kernel
theorem d_K_order_37 : decode b_K_order 37 = .ok (.aload 5, 2) := by decide +kernel
theorem d_K_order_39 : decode b_K_order 39 = .ok (.invokevirtual 107, 3) := by decide +kernel
theorem d_K_order_42 : decode b_K_order 42 = .ok (.lcmp, 1) := by decide +kernel
theorem d_K_order_43 : decode b_K_order 43 = .ok (.ifCond .lt 5, 3) := by decide +kernel
theorem d_K_order_46 : decode b_K_order 46 = .ok (.iconst (-1), 1) := by decide +kernel
theorem d_K_order_47 : decode b_K_order 47 = .ok (.ireturn, 1) := by decide +kernel
theorem d_K_order_48 : decode b_K_order 48 = .ok (.aload_n 0, 1) := by decide +kernel
theorem d_K_order_49 : decode b_K_order 49 = .ok (.iload_n 1, 1) := by decide +kernel
theorem d_K_order_50 : decode b_K_order 50 = .ok (.aload 5, 2) := by decide +kernel
theorem d_K_order_52 : decode b_K_order 52 = .ok (.invokevirtual 140, 3) := by decide +kernel
theorem d_K_order_55 : decode b_K_order 55 = .ok (.aload_n 0, 1) := by decide +kernel
theorem d_K_order_56 : decode b_K_order 56 = .ok (.getfield 29, 3) := by decide +kernel
theorem d_K_order_59 : decode b_K_order 59 = .ok (.aload 5, 2) := by decide +kernel
theorem d_K_order_61 : decode b_K_order 61 = .ok (.lload_n 2, 1) := by decide +kernel
theorem d_K_order_62 : decode b_K_order 62 = .ok (.iload 4, 2) := by decide +kernel
theorem d_K_order_64 : decode b_K_order 64 = .ok (.invokevirtual 143, 3) := by decide +kernel
theorem d_K_order_67 : decode b_K_order 67 = .ok (.ireturn, 1) := by decide +kernel
def fm_K_order (p0 : Int32) (p1 : Int64) (p2 : Int32) (I0 : IS) (J0 : JS) : Option (Int32 × IS × JS) :=
  ob1 (fm_K_find p0) (fun _ => if p2 < (1 : Int32) then some ((-1 : Int32), I0, J0) else ob1 (fm_H_size I0) (fun x12 => if x12 < p2 then some ((-1 : Int32), I0, J0) else if (lg_cmp p1 (0 : Int64)) < 0 then some ((-1 : Int32), I0, J0) else ob3 (fm_K_total p0 I0 J0) (fun y25 I26 J27 => if (lg_cmp p1 y25) < 0 then ob2 (fm_K_load p0 I26 J27) (fun I37 J38 => ob1 (fm_L_entryAt p1 p2 I37 J38) (fun x45 => some (x45, I37, J38))) else some ((-1 : Int32), I26, J27))))
set_option maxHeartbeats 4000000 in
set_option maxRecDepth 100000 in
theorem cm_K_order (l : Launch) (D : va_G) (ca : Nat → ClassId) (ad : Nat → Nat) (hs : Nat → Option Nat) {p0 : Int32} {p1 : Int64} {p2 : Int32} {I0 : IS} {J0 : JS} {r : Int32 × IS × JS} (hh : hs p0.toNatClampNeg = some (ad 0)) (hf : fm_K_order p0 p1 p2 I0 J0 = some r) : CtI l y_K_order (Cond.code y_K_order b_K_order 6 (some .int) :: TB) { frames := 7, cells := 0, slots := 0, locals := 153 } [.ref (ad 15), .int p0, .long p1, .int p2] D cls_all (tysC ca) NN (wC ca ad hs I0 J0) (wC ca ad hs r.2.1 r.2.2) r.1 := by
  refine jd_metI (cc := b_K_order) (by decide) rfl (Nat.le_of_ble_eq_true rfl) (lv := [(0, .ref (ad 15)), (1, .int p0), (2, .long p1), (4, .int p2)]) rfl ?_
  intro p e R s m args below meth c A Q ls cx hR hK hN hD0 hA hP hS hl hend
  have hx := cx.1
  have hb := cx.2.1
  have hml := cx.2.2.1
  have hown := cx.2.2.2.1
  have hts := cx.2.2.2.2
  have hD : ∀ I J, va_D A (wC ca ad hs I J) := fun I J => jd_Dc hD0 rfl
  unfold fm_K_order at hf
  refine lv_aload_n hx hb d_K_order_0 rfl (lv_at hl 0 rfl) ?_
  refine lv_iload_n hx hb d_K_order_1 rfl (lv_at hl 1 rfl) ?_
  obtain ⟨_, hc1, hf2⟩ := ob1_ex hf
  refine jd_cq (va_runV (As := [.int p0]) (rest := []) cx (cm_K_find l D ca ad hs hh hc1 s.heap.size) (cwV 1 hts (jd_gV tb_124 tb_125 tb_0 tb_43 tb_126) rfl rfl rfl ⟨rfl, by decide, by decide, rfl⟩ (by rw [hR]; decide)) ⟨jd_blind nWc, (va_recv hK hP (ci := 3) (q0 := 15) rfl rfl), (jd_pre (av := [.ref (ad 15), .int p0]) hP hK (hD I0 J0) (fun U h => nWm h hN))⟩ rfl rfl hl.1 rfl (lv_room (Nat.le_of_ble_eq_true rfl)) d_K_order_2 ⟨Nat.zero_le _, Nat.zero_le _⟩) hS (hD I0 J0) hA (fun H3 L4 hP5 hS6 => ?_)
  refine lv_astore hx hb d_K_order_5 hl (by decide) (lv' := [(5, .ref (ad 0)), (0, .ref (ad 15)), (1, .int p0), (2, .long p1), (4, .int p2)]) rfl (fun ls7 hl8 => ?_)
  refine lv_aload hx hb d_K_order_7 (lv_at hl8 0 rfl) ?_
  refine lv_ifnull hx hb d_K_order_9 ?_
  refine lv_iload hx hb d_K_order_12 (lv_at hl8 4 rfl) ?_
  refine lv_iconst (v := 1) hx hb d_K_order_14 (by decide) ?_
  refine lv_icmp_lt (tgt := 46) hx hb d_K_order_15 rfl (fun h9 => ?_) (fun h9 => ?_)
  · have hf10 := ifp hf2 h9
    refine lv_iconst (v := -1) hx hb d_K_order_46 (by decide) ?_
    cases hf10
    exact hend H3 L4 47 ls7 hP5 hS6 d_K_order_47
  · have hf11 := ifn hf2 h9
    refine lv_iload hx hb d_K_order_18 (lv_at hl8 4 rfl) ?_
    refine lv_aload hx hb d_K_order_20 (lv_at hl8 0 rfl) ?_
    obtain ⟨x12, hc13, hf14⟩ := ob1_ex hf11
    refine jd_ci (va_runV (As := []) (rest := [.int p2]) cx (cm_H_size l D ca ad hs hc13 H3.size) (cwV 0 hts (jd_gV tb_196 tb_197 tb_198 tb_52 tb_199) rfl rfl rfl ⟨rfl, by decide, by decide, rfl⟩ (by rw [hR]; decide)) ⟨jd_blind nWc, (va_recv hK hP5 (ci := 0) (q0 := 0) rfl rfl), (jd_pre (av := [.ref (ad 0)]) hP5 hK (hD I0 J0) (fun U h => nWm h hN))⟩ rfl rfl hl8.1 rfl (lv_room (Nat.le_of_ble_eq_true rfl)) d_K_order_22 ⟨Nat.zero_le _, Nat.zero_le _⟩) hS6 (hD I0 J0) hA (fun H15 L16 hP17 hS18 => ?_)
    refine lv_icmp_gt (tgt := 46) hx hb d_K_order_25 rfl (fun h19 => ?_) (fun h19 => ?_)
    · have hf20 := ifp hf14 h19
      refine lv_iconst (v := -1) hx hb d_K_order_46 (by decide) ?_
      cases hf20
      exact hend H15 L16 47 ls7 hP17 hS18 d_K_order_47
    · have hf21 := ifn hf14 h19
      refine lv_lload_n hx hb d_K_order_28 rfl (lv_at hl8 3 rfl) ?_
      refine lv_lconst (v := 0) hx hb d_K_order_29 (by decide) ?_
      refine W.lcmp hx hb d_K_order_30 ?_
      refine lv_if_lt (tgt := 46) hx hb d_K_order_31 rfl (fun h22 => ?_) (fun h22 => ?_)
      · have hf23 := ifp hf21 h22
        refine lv_iconst (v := -1) hx hb d_K_order_46 (by decide) ?_
        cases hf23
        exact hend H15 L16 47 ls7 hP17 hS18 d_K_order_47
      · have hf24 := ifn hf21 h22
        refine lv_lload_n hx hb d_K_order_34 rfl (lv_at hl8 3 rfl) ?_
        refine lv_aload_n hx hb d_K_order_35 rfl (lv_at hl8 1 rfl) ?_
        refine lv_iload_n hx hb d_K_order_36 rfl (lv_at hl8 2 rfl) ?_
        refine lv_aload hx hb d_K_order_37 (lv_at hl8 0 rfl) ?_
        obtain ⟨y25, I26, J27, hc28, hf29⟩ := ob3_ex hf24
        refine jd_cl (va_runV (As := [.int p0, .ref (ad 0)]) (rest := [.long p1]) cx (cm_K_total l D ca ad hs hc28 H15.size) (cwV 2 hts (jd_gV tb_222 tb_223 tb_7 tb_43 tb_224) rfl rfl rfl ⟨rfl, by decide, by decide, rfl⟩ (by rw [hR]; decide)) ⟨jd_blind nWc, (va_recv hK hP17 (ci := 3) (q0 := 15) rfl rfl), (jd_pre (av := [.ref (ad 15), .int p0, .ref (ad 0)]) hP17 hK (hD I0 J0) (fun U h => nWm h hN))⟩ rfl rfl hl8.1 rfl (lv_room (Nat.le_of_ble_eq_true rfl)) d_K_order_39 ⟨Nat.zero_le _, Nat.zero_le _⟩) hS18 (hD I0 J0) hA (fun H30 L31 hP32 hS33 => ?_)
        refine W.lcmp hx hb d_K_order_42 ?_
        refine lv_if_lt (tgt := 48) hx hb d_K_order_43 rfl (fun h34 => ?_) (fun h34 => ?_)
        · have hf35 := ifp hf29 h34
          refine lv_aload_n hx hb d_K_order_48 rfl (lv_at hl8 1 rfl) ?_
          refine lv_iload_n hx hb d_K_order_49 rfl (lv_at hl8 2 rfl) ?_
          refine lv_aload hx hb d_K_order_50 (lv_at hl8 0 rfl) ?_
          obtain ⟨I37, J38, hc39, hf40⟩ := ob2_ex hf35
          refine jd_cv (va_runV (As := [.int p0, .ref (ad 0)]) (rest := []) cx (cm_K_load l D ca ad hs hc39 H30.size) (cwV 2 hts (jd_gV tb_225 tb_226 tb_8 tb_43 tb_227) rfl rfl rfl ⟨rfl, by decide, by decide, rfl⟩ (by rw [hR]; decide)) ⟨jd_blind nWc, (va_recv hK hP32 (ci := 3) (q0 := 15) rfl rfl), (jd_pre (av := [.ref (ad 15), .int p0, .ref (ad 0)]) hP32 hK (hD I26 J27) (fun U h => nWm h hN))⟩ rfl rfl hl8.1 rfl (lv_room (Nat.le_of_ble_eq_true rfl)) d_K_order_52 ⟨Nat.zero_le _, Nat.zero_le _⟩) hS33 (hD I26 J27) hA (fun H41 L42 hP43 hS44 => ?_)
          refine lv_aload_n hx hb d_K_order_55 rfl (lv_at hl8 1 rfl) ?_
          refine va_get (D := D) (ci := 3) (v := .ref (ad 21)) (C := R_K) (T := F_K) (N := 5) hx hb hts (fun w h => List.mem_cons_of_mem _ (uw_K w h)) hown hK hP43 15 rfl rfl 3 (by decide) (hts _ (List.mem_cons_of_mem _ tb_108)) (fun _ h => h) rfl d_K_order_56 ?_
          refine lv_aload hx hb d_K_order_59 (lv_at hl8 0 rfl) ?_
          refine lv_lload_n hx hb d_K_order_61 rfl (lv_at hl8 3 rfl) ?_
          refine lv_iload hx hb d_K_order_62 (lv_at hl8 4 rfl) ?_
          obtain ⟨x45, hc46, hf47⟩ := ob1_ex hf40
          refine jd_ci (va_runV (As := [.ref (ad 0), .long p1, .int p2]) (rest := []) cx (cm_L_entryAt l D ca ad hs hc46 H41.size) (cwV 3 hts (jd_gV tb_318 tb_319 tb_320 tb_45 tb_321) rfl rfl rfl ⟨rfl, by decide, by decide, rfl⟩ (by rw [hR]; decide)) ⟨jd_blind nWc, (va_recv hK hP43 (ci := 5) (q0 := 21) rfl rfl), (jd_pre (av := [.ref (ad 21), .ref (ad 0), .long p1, .int p2]) hP43 hK (hD I37 J38) (fun U h => nWm h hN))⟩ rfl rfl hl8.1 rfl (lv_room (Nat.le_of_ble_eq_true rfl)) d_K_order_64 ⟨Nat.zero_le _, Nat.zero_le _⟩) hS44 (hD I37 J38) hA (fun H48 L49 hP50 hS51 => ?_)
          cases hf47
          exact hend H48 L49 67 ls7 hP50 hS51 d_K_order_67
        · have hf36 := ifn hf29 h34
          refine lv_iconst (v := -1) hx hb d_K_order_46 (by decide) ?_
          cases hf36
          exact hend H30 L31 47 ls7 hP32 hS33 d_K_order_47
theorem d_K_numberOf_0 : decode b_K_numberOf 0 = .ok (.aload_n 0, 1) := by decide +kernel
theorem d_K_numberOf_1 : decode b_K_numberOf 1 = .ok (.iload_n 1, 1) := by decide +kernel
theorem d_K_numberOf_2 : decode b_K_numberOf 2 = .ok (.invokevirtual 58, 3) := by decide +kernel
theorem d_K_numberOf_5 : decode b_K_numberOf 5 = .ok (.astore_n 2, 1) := by decide +kernel
theorem d_K_numberOf_6 : decode b_K_numberOf 6 = .ok (.aload_n 2, 1) := by decide +kernel
theorem d_K_numberOf_7 : decode b_K_numberOf 7 = .ok (.ifnull 14, 3) := by decide +kernel
theorem d_K_numberOf_10 : decode b_K_numberOf 10 = .ok (.aload_n 2, 1) := by decide +kernel
theorem d_K_numberOf_11 : decode b_K_numberOf 11 = .ok (.aload_n 0, 1) := by decide +kernel
theorem d_K_numberOf_12 : decode b_K_numberOf 12 = .ok (.getfield 15, 3) := by decide +kernel
theorem d_K_numberOf_15 : decode b_K_numberOf 15 = .ok (.invokevirtual 149, 3) := by decide +kernel
theorem d_K_numberOf_18 : decode b_K_numberOf 18 = .ok (.ifCond .ne 7, 3) := by decide +kernel
theorem d_K_numberOf_21 : decode b_K_numberOf 21 = .ok (.ldc2_w 153, 3) := by decide +kernel
theorem d_K_numberOf_24 : decode b_K_numberOf 24 = .ok (.lreturn, 1) := by decide +kernel
theorem d_K_numberOf_25 : decode b_K_numberOf 25 = .ok (.aload_n 0, 1) := by decide +kernel
theorem d_K_numberOf_26 : decode b_K_numberOf 26 = .ok (.iload_n 1, 1) := by decide +kernel
theorem d_K_numberOf_27 : decode b_K_numberOf 27 = .ok (.aload_n 2, 1) := by decide +kernel
theorem d_K_numberOf_28 : decode b_K_numberOf 28 = .ok (.invokevirtual 140, 3) := by decide +kernel
theorem d_K_numberOf_31 : decode b_K_numberOf 31 = .ok (.aload_n 0, 1) := by decide +kernel
theorem d_K_numberOf_32 : decode b_K_numberOf 32 = .ok (.getfield 29, 3) := by decide +kernel
theorem d_K_numberOf_35 : decode b_K_numberOf 35 = .ok (.aload_n 2, 1) := by decide +kernel
theorem d_K_numberOf_36 : decode b_K_numberOf 36 = .ok (.aload_n 0, 1) := by decide +kernel
theorem d_K_numberOf_37 : decode b_K_numberOf 37 = .ok (.getfield 15, 3) := by decide +kernel
theorem d_K_numberOf_40 : decode b_K_numberOf 40 = .ok (.invokevirtual 155, 3) := by decide +kernel
theorem d_K_numberOf_43 : decode b_K_numberOf 43 = .ok (.lreturn, 1) := by decide +kernel
def fm_K_numberOf (p0 : Int32) (I0 : IS) (J0 : JS) : Option (Int64 × IS × JS) :=
  ob1 (fm_K_find p0) (fun _ => ob1 (fm_H_allows I0) (fun x9 => if x9 = 0 then some ((-1 : Int64), I0, J0) else ob2 (fm_K_load p0 I0 J0) (fun I19 J20 => ob1 (fm_L_numberOfRow I19 J20) (fun y27 => some (y27, I19, J20)))))
set_option maxHeartbeats 4000000 in
set_option maxRecDepth 100000 in
theorem cm_K_numberOf (l : Launch) (D : va_G) (ca : Nat → ClassId) (ad : Nat → Nat) (hs : Nat → Option Nat) {p0 : Int32} {I0 : IS} {J0 : JS} {r : Int64 × IS × JS} (hh : hs p0.toNatClampNeg = some (ad 0)) (hf : fm_K_numberOf p0 I0 J0 = some r) : CtL l y_K_numberOf (Cond.code y_K_numberOf b_K_numberOf 3 (some .long) :: TB) { frames := 6, cells := 0, slots := 0, locals := 131 } [.ref (ad 15), .int p0] D cls_all (tysC ca) NN (wC ca ad hs I0 J0) (wC ca ad hs r.2.1 r.2.2) r.1 := by
  refine jd_metL (cc := b_K_numberOf) (by decide) rfl (Nat.le_of_ble_eq_true rfl) (lv := [(0, .ref (ad 15)), (1, .int p0)]) rfl ?_
  intro p e R s m args below meth c A Q ls cx hR hK hN hD0 hA hP hS hl hend
  have hx := cx.1
  have hb := cx.2.1
  have hml := cx.2.2.1
  have hown := cx.2.2.2.1
  have hts := cx.2.2.2.2
  have hD : ∀ I J, va_D A (wC ca ad hs I J) := fun I J => jd_Dc hD0 rfl
  unfold fm_K_numberOf at hf
  refine lv_aload_n hx hb d_K_numberOf_0 rfl (lv_at hl 0 rfl) ?_
  refine lv_iload_n hx hb d_K_numberOf_1 rfl (lv_at hl 1 rfl) ?_
  obtain ⟨_, hc1, hf2⟩ := ob1_ex hf
  refine jd_cq (va_runV (As := [.int p0]) (rest := []) cx (cm_K_find l D ca ad hs hh hc1 s.heap.size) (cwV 1 hts (jd_gV tb_124 tb_125 tb_0 tb_43 tb_126) rfl rfl rfl ⟨rfl, by decide, by decide, rfl⟩ (by rw [hR]; decide)) ⟨jd_blind nWc, (va_recv hK hP (ci := 3) (q0 := 15) rfl rfl), (jd_pre (av := [.ref (ad 15), .int p0]) hP hK (hD I0 J0) (fun U h => nWm h hN))⟩ rfl rfl hl.1 rfl (lv_room (Nat.le_of_ble_eq_true rfl)) d_K_numberOf_2 ⟨Nat.zero_le _, Nat.zero_le _⟩) hS (hD I0 J0) hA (fun H3 L4 hP5 hS6 => ?_)
  refine lv_astore_n hx hb d_K_numberOf_5 rfl hl (by decide) (lv' := [(2, .ref (ad 0)), (0, .ref (ad 15)), (1, .int p0)]) rfl (fun ls7 hl8 => ?_)
  refine lv_aload_n hx hb d_K_numberOf_6 rfl (lv_at hl8 0 rfl) ?_
  refine lv_ifnull hx hb d_K_numberOf_7 ?_
  refine lv_aload_n hx hb d_K_numberOf_10 rfl (lv_at hl8 0 rfl) ?_
  refine lv_aload_n hx hb d_K_numberOf_11 rfl (lv_at hl8 1 rfl) ?_
  refine va_get (D := D) (ci := 3) (v := .ref (ad 17)) (C := R_K) (T := F_K) (N := 5) hx hb hts (fun w h => List.mem_cons_of_mem _ (uw_K w h)) hown hK hP5 15 rfl rfl 1 (by decide) (hts _ (List.mem_cons_of_mem _ tb_106)) (fun _ h => h) rfl d_K_numberOf_12 ?_
  obtain ⟨x9, hc10, hf11⟩ := ob1_ex hf2
  refine jd_ci (va_runV (As := [.ref (ad 17)]) (rest := []) cx (cm_H_allows l D ca ad hs hc10 H3.size) (cwV 1 hts (jd_gV tb_330 tb_331 tb_332 tb_52 tb_333) rfl rfl rfl ⟨rfl, by decide, by decide, rfl⟩ (by rw [hR]; decide)) ⟨jd_blind nWc, (va_recv hK hP5 (ci := 0) (q0 := 0) rfl rfl), (jd_pre (av := [.ref (ad 0), .ref (ad 17)]) hP5 hK (hD I0 J0) (fun U h => nWm h hN))⟩ rfl rfl hl8.1 rfl (lv_room (Nat.le_of_ble_eq_true rfl)) d_K_numberOf_15 ⟨Nat.zero_le _, Nat.zero_le _⟩) hS6 (hD I0 J0) hA (fun H12 L13 hP14 hS15 => ?_)
  refine lv_if_ne (tgt := 25) hx hb d_K_numberOf_18 rfl (fun h16 => ?_) (fun h16 => ?_)
  · have hf17 := ifn hf11 h16
    refine lv_aload_n hx hb d_K_numberOf_25 rfl (lv_at hl8 1 rfl) ?_
    refine lv_iload_n hx hb d_K_numberOf_26 rfl (lv_at hl8 2 rfl) ?_
    refine lv_aload_n hx hb d_K_numberOf_27 rfl (lv_at hl8 0 rfl) ?_
    obtain ⟨I19, J20, hc21, hf22⟩ := ob2_ex hf17
    refine jd_cv (va_runV (As := [.int p0, .ref (ad 0)]) (rest := []) cx (cm_K_load l D ca ad hs hc21 H12.size) (cwV 2 hts (jd_gV tb_225 tb_226 tb_8 tb_43 tb_227) rfl rfl rfl ⟨rfl, by decide, by decide, rfl⟩ (by rw [hR]; decide)) ⟨jd_blind nWc, (va_recv hK hP14 (ci := 3) (q0 := 15) rfl rfl), (jd_pre (av := [.ref (ad 15), .int p0, .ref (ad 0)]) hP14 hK (hD I0 J0) (fun U h => nWm h hN))⟩ rfl rfl hl8.1 rfl (lv_room (Nat.le_of_ble_eq_true rfl)) d_K_numberOf_28 ⟨Nat.zero_le _, Nat.zero_le _⟩) hS15 (hD I0 J0) hA (fun H23 L24 hP25 hS26 => ?_)
    refine lv_aload_n hx hb d_K_numberOf_31 rfl (lv_at hl8 1 rfl) ?_
    refine va_get (D := D) (ci := 3) (v := .ref (ad 21)) (C := R_K) (T := F_K) (N := 5) hx hb hts (fun w h => List.mem_cons_of_mem _ (uw_K w h)) hown hK hP25 15 rfl rfl 3 (by decide) (hts _ (List.mem_cons_of_mem _ tb_108)) (fun _ h => h) rfl d_K_numberOf_32 ?_
    refine lv_aload_n hx hb d_K_numberOf_35 rfl (lv_at hl8 0 rfl) ?_
    refine lv_aload_n hx hb d_K_numberOf_36 rfl (lv_at hl8 1 rfl) ?_
    refine va_get (D := D) (ci := 3) (v := .ref (ad 17)) (C := R_K) (T := F_K) (N := 5) hx hb hts (fun w h => List.mem_cons_of_mem _ (uw_K w h)) hown hK hP25 15 rfl rfl 1 (by decide) (hts _ (List.mem_cons_of_mem _ tb_106)) (fun _ h => h) rfl d_K_numberOf_37 ?_
    obtain ⟨y27, hc28, hf29⟩ := ob1_ex hf22
    refine jd_cl (va_runV (As := [.ref (ad 0), .ref (ad 17)]) (rest := []) cx (cm_L_numberOfRow l D ca ad hs hc28 H23.size) (cwV 2 hts (jd_gV tb_337 tb_338 tb_339 tb_45 tb_340) rfl rfl rfl ⟨rfl, by decide, by decide, rfl⟩ (by rw [hR]; decide)) ⟨jd_blind nWc, (va_recv hK hP25 (ci := 5) (q0 := 21) rfl rfl), (jd_pre (av := [.ref (ad 21), .ref (ad 0), .ref (ad 17)]) hP25 hK (hD I19 J20) (fun U h => nWm h hN))⟩ rfl rfl hl8.1 rfl (lv_room (Nat.le_of_ble_eq_true rfl)) d_K_numberOf_40 ⟨Nat.zero_le _, Nat.zero_le _⟩) hS26 (hD I19 J20) hA (fun H30 L31 hP32 hS33 => ?_)
    cases hf29
    exact hend H30 L31 43 ls7 hP32 hS33 d_K_numberOf_43
  · have hf18 := ifp hf11 h16
    refine lv_ldc2 (v := -1) hx hb hown (hts _ (List.mem_cons_of_mem _ tb_336)) d_K_numberOf_21 ?_
    cases hf18
    exact hend H12 L13 24 ls7 hP14 hS15 d_K_numberOf_24
theorem d_K_ask_0 : decode b_K_ask 0 = .ok (.aload_n 0, 1) := by decide +kernel
theorem d_K_ask_1 : decode b_K_ask 1 = .ok (.iload_n 1, 1) := by decide +kernel
theorem d_K_ask_2 : decode b_K_ask 2 = .ok (.invokevirtual 58, 3) := by decide +kernel
theorem d_K_ask_5 : decode b_K_ask 5 = .ok (.astore_n 3, 1) := by decide +kernel
theorem d_K_ask_6 : decode b_K_ask 6 = .ok (.aload_n 3, 1) := by decide +kernel
theorem d_K_ask_7 : decode b_K_ask 7 = .ok (.ifnull 12, 3) := by decide +kernel
theorem d_K_ask_10 : decode b_K_ask 10 = .ok (.iload_n 2, 1) := by decide +kernel
theorem d_K_ask_11 : decode b_K_ask 11 = .ok (.ifCond .lt 8, 3) := by decide +kernel
theorem d_K_ask_14 : decode b_K_ask 14 = .ok (.iload_n 2, 1) := by decide +kernel
theorem d_K_ask_15 : decode b_K_ask 15 = .ok (.iconst 1, 1) := by decide +kernel
theorem d_K_ask_16 : decode b_K_ask 16 = .ok (.if_icmp .le 5, 3) := by decide +kernel
theorem d_K_ask_19 : decode b_K_ask 19 = .ok (.iconst (-1), 1) := by decide +kernel
theorem d_K_ask_20 : decode b_K_ask 20 = .ok (.ireturn, 1) := by decide +kernel
theorem d_K_ask_21 : decode b_K_ask 21 = .ok (.aload_n 0, 1) := by decide +kernel
theorem d_K_ask_22 : decode b_K_ask 22 = .ok (.iload_n 1, 1) := by decide +kernel
theorem d_K_ask_23 : decode b_K_ask 23 = .ok (.aload_n 3, 1) := by decide +kernel
theorem d_K_ask_24 : decode b_K_ask 24 = .ok (.invokevirtual 111, 3) := by decide +kernel
theorem d_K_ask_27 : decode b_K_ask 27 = .ok (.aload_n 3, 1) := by decide +kernel
theorem d_K_ask_28 : decode b_K_ask 28 = .ok (.getfield 115, 3) := by decide +kernel
theorem d_K_ask_31 : decode b_K_ask 31 = .ok (.aload_n 3, 1) := by decide +kernel
theorem d_K_ask_32 : decode b_K_ask 32 = .ok (.invokevirtual 159, 3) := by decide +kernel
theorem d_K_ask_35 : decode b_K_ask 35 = .ok (.istore 4, 2) := by decide +kernel
theorem d_K_ask_37 : decode b_K_ask 37 = .ok (.iload 4, 2) := by decide +kernel
theorem d_K_ask_39 : decode b_K_ask 39 = .ok (.iconst (-1), 1) := by decide +kernel
theorem d_K_ask_40 : decode b_K_ask 40 = .ok (.if_icmp .ne 5, 3) := by decide +kernel
theorem d_K_ask_43 : decode b_K_ask 43 = .ok (.iconst (-1), 1) := by decide +kernel
theorem d_K_ask_44 : decode b_K_ask 44 = .ok (.ireturn, 1) := by decide +kernel
theorem d_K_ask_45 : decode b_K_ask 45 = .ok (.iload_n 2, 1) := by decide +kernel
theorem d_K_ask_46 : decode b_K_ask 46 = .ok (.ifCond .ne 11, 3) := by decide +kernel
theorem d_K_ask_49 : decode b_K_ask 49 = .ok (.iload 4, 2) := by decide +kernel
theorem d_K_ask_51 : decode b_K_ask 51 = .ok (.bipush 16, 2) := by decide +kernel
theorem d_K_ask_53 : decode b_K_ask 53 = .ok (.idiv, 1) := by decide +kernel
theorem d_K_ask_54 : decode b_K_ask 54 = .ok (.goto 8, 3) := by decide +kernel
theorem d_K_ask_57 : decode b_K_ask 57 = .ok (.iload 4, 2) := by decide +kernel
theorem d_K_ask_59 : decode b_K_ask 59 = .ok (.bipush 16, 2) := by decide +kernel
theorem d_K_ask_61 : decode b_K_ask 61 = .ok (.irem, 1) := by decide +kernel
theorem d_K_ask_62 : decode b_K_ask 62 = .ok (.ireturn, 1) := by decide +kernel
def fm_K_ask (p0 : Int32) (p1 : Int32) (I0 : IS) (J0 : JS) : Option (Int32 × IS × JS) :=
  ob1 (fm_K_find p0) (fun _ => if p1 < 0 then some ((-1 : Int32), I0, J0) else if p1 ≤ (1 : Int32) then ob2 (fm_K_tally p0 I0 J0) (fun I15 J16 => ob1 (fm_T_evenestPair I15 J16) (fun x23 => if x23 = (-1 : Int32) then some ((-1 : Int32), I15, J16) else if p1 = 0 then some (x23 / (16 : Int32), I15, J16) else some (x23 - x23 / (16 : Int32) * (16 : Int32), I15, J16))) else some ((-1 : Int32), I0, J0))
set_option maxHeartbeats 4000000 in
set_option maxRecDepth 100000 in
theorem cm_K_ask (l : Launch) (D : va_G) (ca : Nat → ClassId) (ad : Nat → Nat) (hs : Nat → Option Nat) {p0 : Int32} {p1 : Int32} {I0 : IS} {J0 : JS} {r : Int32 × IS × JS} (hh : hs p0.toNatClampNeg = some (ad 0)) (hf : fm_K_ask p0 p1 I0 J0 = some r) : CtI l y_K_ask (Cond.code y_K_ask b_K_ask 5 (some .int) :: TB) { frames := 7, cells := 0, slots := 0, locals := 153 } [.ref (ad 15), .int p0, .int p1] D cls_all (tysC ca) NN (wC ca ad hs I0 J0) (wC ca ad hs r.2.1 r.2.2) r.1 := by
  refine jd_metI (cc := b_K_ask) (by decide) rfl (Nat.le_of_ble_eq_true rfl) (lv := [(0, .ref (ad 15)), (1, .int p0), (2, .int p1)]) rfl ?_
  intro p e R s m args below meth c A Q ls cx hR hK hN hD0 hA hP hS hl hend
  have hx := cx.1
  have hb := cx.2.1
  have hml := cx.2.2.1
  have hown := cx.2.2.2.1
  have hts := cx.2.2.2.2
  have hD : ∀ I J, va_D A (wC ca ad hs I J) := fun I J => jd_Dc hD0 rfl
  unfold fm_K_ask at hf
  refine lv_aload_n hx hb d_K_ask_0 rfl (lv_at hl 0 rfl) ?_
  refine lv_iload_n hx hb d_K_ask_1 rfl (lv_at hl 1 rfl) ?_
  obtain ⟨_, hc1, hf2⟩ := ob1_ex hf
  refine jd_cq (va_runV (As := [.int p0]) (rest := []) cx (cm_K_find l D ca ad hs hh hc1 s.heap.size) (cwV 1 hts (jd_gV tb_124 tb_125 tb_0 tb_43 tb_126) rfl rfl rfl ⟨rfl, by decide, by decide, rfl⟩ (by rw [hR]; decide)) ⟨jd_blind nWc, (va_recv hK hP (ci := 3) (q0 := 15) rfl rfl), (jd_pre (av := [.ref (ad 15), .int p0]) hP hK (hD I0 J0) (fun U h => nWm h hN))⟩ rfl rfl hl.1 rfl (lv_room (Nat.le_of_ble_eq_true rfl)) d_K_ask_2 ⟨Nat.zero_le _, Nat.zero_le _⟩) hS (hD I0 J0) hA (fun H3 L4 hP5 hS6 => ?_)
  refine lv_astore_n hx hb d_K_ask_5 rfl hl (by decide) (lv' := [(3, .ref (ad 0)), (0, .ref (ad 15)), (1, .int p0), (2, .int p1)]) rfl (fun ls7 hl8 => ?_)
  refine lv_aload_n hx hb d_K_ask_6 rfl (lv_at hl8 0 rfl) ?_
  refine lv_ifnull hx hb d_K_ask_7 ?_
  refine lv_iload_n hx hb d_K_ask_10 rfl (lv_at hl8 3 rfl) ?_
  refine lv_if_lt (tgt := 19) hx hb d_K_ask_11 rfl (fun h9 => ?_) (fun h9 => ?_)
  · have hf10 := ifp hf2 h9
    refine lv_iconst (v := -1) hx hb d_K_ask_19 (by decide) ?_
    cases hf10
    exact hend H3 L4 20 ls7 hP5 hS6 d_K_ask_20
  · have hf11 := ifn hf2 h9
    refine lv_iload_n hx hb d_K_ask_14 rfl (lv_at hl8 3 rfl) ?_
    refine lv_iconst (v := 1) hx hb d_K_ask_15 (by decide) ?_
    refine lv_icmp_le (tgt := 21) hx hb d_K_ask_16 rfl (fun h12 => ?_) (fun h12 => ?_)
    · have hf13 := ifp hf11 h12
      refine lv_aload_n hx hb d_K_ask_21 rfl (lv_at hl8 1 rfl) ?_
      refine lv_iload_n hx hb d_K_ask_22 rfl (lv_at hl8 2 rfl) ?_
      refine lv_aload_n hx hb d_K_ask_23 rfl (lv_at hl8 0 rfl) ?_
      obtain ⟨I15, J16, hc17, hf18⟩ := ob2_ex hf13
      refine jd_cv (va_runV (As := [.int p0, .ref (ad 0)]) (rest := []) cx (cm_K_tally l D ca ad hs hc17 H3.size) (cwV 2 hts (jd_gV tb_269 tb_270 tb_16 tb_43 tb_271) rfl rfl rfl ⟨rfl, by decide, by decide, rfl⟩ (by rw [hR]; decide)) ⟨jd_blind nWc, (va_recv hK hP5 (ci := 3) (q0 := 15) rfl rfl), (jd_pre (av := [.ref (ad 15), .int p0, .ref (ad 0)]) hP5 hK (hD I0 J0) (fun U h => nWm h hN))⟩ rfl rfl hl8.1 rfl (lv_room (Nat.le_of_ble_eq_true rfl)) d_K_ask_24 ⟨Nat.zero_le _, Nat.zero_le _⟩) hS6 (hD I0 J0) hA (fun H19 L20 hP21 hS22 => ?_)
      refine lv_aload_n hx hb d_K_ask_27 rfl (lv_at hl8 0 rfl) ?_
      refine va_get (D := D) (ci := 0) (v := .ref (ad 6)) (C := R_H) (T := F_H) (N := 9) hx hb hts (fun w h => List.mem_cons_of_mem _ (uw_H w h)) hown hK hP21 0 rfl rfl 5 (by decide) (hts _ (List.mem_cons_of_mem _ tb_550)) (fun _ h => h) rfl d_K_ask_28 ?_
      refine lv_aload_n hx hb d_K_ask_31 rfl (lv_at hl8 0 rfl) ?_
      obtain ⟨x23, hc24, hf25⟩ := ob1_ex hf18
      refine jd_ci (va_runV (As := [.ref (ad 0)]) (rest := []) cx (cm_T_evenestPair l D ca ad hs hc24 H19.size) (cwV 1 hts (jd_gV tb_345 tb_346 tb_347 tb_53 tb_348) rfl rfl rfl ⟨rfl, by decide, by decide, rfl⟩ (by rw [hR]; decide)) ⟨jd_blind nWc, (va_recv hK hP21 (ci := 1) (q0 := 6) rfl rfl), (jd_pre (av := [.ref (ad 6), .ref (ad 0)]) hP21 hK (hD I15 J16) (fun U h => nWm h hN))⟩ rfl rfl hl8.1 rfl (lv_room (Nat.le_of_ble_eq_true rfl)) d_K_ask_32 ⟨Nat.zero_le _, Nat.zero_le _⟩) hS22 (hD I15 J16) hA (fun H26 L27 hP28 hS29 => ?_)
      refine lv_istore hx hb d_K_ask_35 hl8 (by decide) (lv' := [(4, .int x23), (3, .ref (ad 0)), (0, .ref (ad 15)), (1, .int p0), (2, .int p1)]) rfl (fun ls30 hl31 => ?_)
      refine lv_iload hx hb d_K_ask_37 (lv_at hl31 0 rfl) ?_
      refine lv_iconst (v := -1) hx hb d_K_ask_39 (by decide) ?_
      refine lv_icmp_ne (tgt := 45) hx hb d_K_ask_40 rfl (fun h32 => ?_) (fun h32 => ?_)
      · have hf33 := ifn hf25 h32
        refine lv_iload_n hx hb d_K_ask_45 rfl (lv_at hl31 4 rfl) ?_
        refine lv_if_ne (tgt := 57) hx hb d_K_ask_46 rfl (fun h35 => ?_) (fun h35 => ?_)
        · have hf36 := ifn hf33 h35
          refine lv_iload hx hb d_K_ask_57 (lv_at hl31 0 rfl) ?_
          refine lv_bipush (v := 16) hx hb d_K_ask_59 (by decide) ?_
          refine lv_irem hx hb d_K_ask_61 (by decide) ?_
          cases hf36
          exact hend H26 L27 62 ls30 hP28 hS29 d_K_ask_62
        · have hf37 := ifp hf33 h35
          refine lv_iload hx hb d_K_ask_49 (lv_at hl31 0 rfl) ?_
          refine lv_bipush (v := 16) hx hb d_K_ask_51 (by decide) ?_
          refine lv_idiv hx hb d_K_ask_53 (by decide) ?_
          refine lv_goto (tgt := 62) hx hb d_K_ask_54 rfl ?_
          cases hf37
          exact hend H26 L27 62 ls30 hP28 hS29 d_K_ask_62
      · have hf34 := ifp hf25 h32
        refine lv_iconst (v := -1) hx hb d_K_ask_43 (by decide) ?_
        cases hf34
        exact hend H26 L27 44 ls30 hP28 hS29 d_K_ask_44
    · have hf14 := ifn hf11 h12
      refine lv_iconst (v := -1) hx hb d_K_ask_19 (by decide) ?_
      cases hf14
      exact hend H3 L4 20 ls7 hP5 hS6 d_K_ask_20
theorem d_K_tie_0 : decode b_K_tie 0 = .ok (.aload_n 0, 1) := by decide +kernel
theorem d_K_tie_1 : decode b_K_tie 1 = .ok (.iload_n 1, 1) := by decide +kernel
theorem d_K_tie_2 : decode b_K_tie 2 = .ok (.invokevirtual 58, 3) := by decide +kernel
theorem d_K_tie_5 : decode b_K_tie 5 = .ok (.astore_n 2, 1) := by decide +kernel
theorem d_K_tie_6 : decode b_K_tie 6 = .ok (.aload_n 2, 1) := by decide +kernel
theorem d_K_tie_7 : decode b_K_tie 7 = .ok (.ifnonnull 7, 3) := by decide +kernel
theorem d_K_tie_10 : decode b_K_tie 10 = .ok (.iconst 0, 1) := by decide +kernel
theorem d_K_tie_11 : decode b_K_tie 11 = .ok (.goto 10, 3) := by decide +kernel
theorem d_K_tie_14 : decode b_K_tie 14 = .ok (.aload_n 2, 1) := by decide +kernel
theorem d_K_tie_15 : decode b_K_tie 15 = .ok (.invokestatic 163, 3) := by decide +kernel
theorem d_K_tie_18 : decode b_K_tie 18 = .ok (.getfield 167, 3) := by decide +kernel
theorem d_K_tie_21 : decode b_K_tie 21 = .ok (.ireturn, 1) := by decide +kernel
def fm_K_tie (p0 : Int32) (I0 : IS) : Option (Int32 × IS) :=
  ob1 (fm_K_find p0) (fun _ => ob1 (fm_K_rowsOf I0) (fun I9 => some (I9 9 0, I9)))
set_option maxHeartbeats 4000000 in
set_option maxRecDepth 100000 in
theorem cm_K_tie (l : Launch) (D : va_G) (ca : Nat → ClassId) (ad : Nat → Nat) (hs : Nat → Option Nat) {p0 : Int32} {I0 : IS} {J0 : JS} {r : Int32 × IS} (hh : hs p0.toNatClampNeg = some (ad 0)) (hf : fm_K_tie p0 I0 = some r) : CtI l y_K_tie (Cond.code y_K_tie b_K_tie 3 (some .int) :: TB) { frames := 7, cells := 0, slots := 0, locals := 170 } [.ref (ad 15), .int p0] D cls_all (tysC ca) NN (wC ca ad hs I0 J0) (wC ca ad hs r.2 J0) r.1 := by
  refine jd_metI (cc := b_K_tie) (by decide) rfl (Nat.le_of_ble_eq_true rfl) (lv := [(0, .ref (ad 15)), (1, .int p0)]) rfl ?_
  intro p e R s m args below meth c A Q ls cx hR hK hN hD0 hA hP hS hl hend
  have hx := cx.1
  have hb := cx.2.1
  have hml := cx.2.2.1
  have hown := cx.2.2.2.1
  have hts := cx.2.2.2.2
  have hD : ∀ I J, va_D A (wC ca ad hs I J) := fun I J => jd_Dc hD0 rfl
  unfold fm_K_tie at hf
  refine lv_aload_n hx hb d_K_tie_0 rfl (lv_at hl 0 rfl) ?_
  refine lv_iload_n hx hb d_K_tie_1 rfl (lv_at hl 1 rfl) ?_
  obtain ⟨_, hc1, hf2⟩ := ob1_ex hf
  refine jd_cq (va_runV (As := [.int p0]) (rest := []) cx (cm_K_find l D ca ad hs hh hc1 s.heap.size) (cwV 1 hts (jd_gV tb_124 tb_125 tb_0 tb_43 tb_126) rfl rfl rfl ⟨rfl, by decide, by decide, rfl⟩ (by rw [hR]; decide)) ⟨jd_blind nWc, (va_recv hK hP (ci := 3) (q0 := 15) rfl rfl), (jd_pre (av := [.ref (ad 15), .int p0]) hP hK (hD I0 J0) (fun U h => nWm h hN))⟩ rfl rfl hl.1 rfl (lv_room (Nat.le_of_ble_eq_true rfl)) d_K_tie_2 ⟨Nat.zero_le _, Nat.zero_le _⟩) hS (hD I0 J0) hA (fun H3 L4 hP5 hS6 => ?_)
  refine lv_astore_n hx hb d_K_tie_5 rfl hl (by decide) (lv' := [(2, .ref (ad 0)), (0, .ref (ad 15)), (1, .int p0)]) rfl (fun ls7 hl8 => ?_)
  refine lv_aload_n hx hb d_K_tie_6 rfl (lv_at hl8 0 rfl) ?_
  refine lv_ifnonnull (tgt := 14) hx hb d_K_tie_7 rfl ?_
  refine lv_aload_n hx hb d_K_tie_14 rfl (lv_at hl8 0 rfl) ?_
  obtain ⟨I9, hc10, hf11⟩ := ob1_ex hf2
  refine jd_cq (va_runS (As := [.ref (ad 0)]) (rest := []) cx (cm_K_rowsOf l D ca ad hs hc10 H3.size) (va_cwS 1 hts (jd_gS2 tb_360 tb_361 tb_43 tb_362) rfl rfl rfl ⟨by decide, by decide, rfl⟩ (by rw [hR]; decide)) ⟨jd_blind nWc, (jd_pre (av := [.ref (ad 0)]) hP5 hK (hD I0 J0) (fun U h => nWm h hN))⟩ rfl rfl hl8.1 rfl (lv_room (Nat.le_of_ble_eq_true rfl)) d_K_tie_15 ⟨Nat.zero_le _, Nat.zero_le _⟩) hS6 (hD I0 J0) hA (fun H12 L13 hP14 hS15 => ?_)
  refine va_get (D := D) (ci := 2) (v := .int (I9 9 0)) (C := R_R) (T := F_R) (N := 8) hx hb hts (fun w h => List.mem_cons_of_mem _ (uw_R w h)) hown hK hP14 9 rfl rfl 1 (by decide) (hts _ (List.mem_cons_of_mem _ tb_511)) (fun _ h => h) rfl d_K_tie_18 ?_
  cases hf11
  exact hend H12 L13 21 ls7 hP14 hS15 d_K_tie_21
theorem d_K_tieEntry_0 : decode b_K_tieEntry 0 = .ok (.aload_n 0, 1) := by decide +kernel
theorem d_K_tieEntry_1 : decode b_K_tieEntry 1 = .ok (.iload_n 1, 1) := by decide +kernel
theorem d_K_tieEntry_2 : decode b_K_tieEntry 2 = .ok (.invokevirtual 58, 3) := by decide +kernel
theorem d_K_tieEntry_5 : decode b_K_tieEntry 5 = .ok (.astore_n 3, 1) := by decide +kernel
theorem d_K_tieEntry_6 : decode b_K_tieEntry 6 = .ok (.aload_n 3, 1) := by decide +kernel
theorem d_K_tieEntry_7 : decode b_K_tieEntry 7 = .ok (.ifnull 7, 3) := by decide +kernel
theorem d_K_tieEntry_10 : decode b_K_tieEntry 10 = .ok (.iload_n 2, 1) := by decide +kernel
theorem d_K_tieEntry_11 : decode b_K_tieEntry 11 = .ok (.ifCond .ge 5, 3) := by decide +kernel
theorem d_K_tieEntry_14 : decode b_K_tieEntry 14 = .ok (.iconst (-1), 1) := by decide +kernel
theorem d_K_tieEntry_15 : decode b_K_tieEntry 15 = .ok (.ireturn, 1) := by decide +kernel
theorem d_K_tieEntry_16 : decode b_K_tieEntry 16 = .ok (.aload_n 3, 1) := by decide +kernel
theorem d_K_tieEntry_17 : decode b_K_tieEntry 17 = .ok (.invokestatic 163, 3) := by decide +kernel
theorem d_K_tieEntry_20 : decode b_K_tieEntry 20 = .ok (.iload_n 2, 1) := by decide +kernel
theorem d_K_tieEntry_21 : decode b_K_tieEntry 21 = .ok (.invokevirtual 172, 3) := by decide +kernel
theorem d_K_tieEntry_24 : decode b_K_tieEntry 24 = .ok (.ireturn, 1) := by decide +kernel
def fm_K_tieEntry (p0 : Int32) (p1 : Int32) (I0 : IS) : Option (Int32 × IS) :=
  ob1 (fm_K_find p0) (fun _ => if 0 ≤ p1 then ob1 (fm_K_rowsOf I0) (fun I12 => ob1 (fm_R_tied p1 I12) (fun x19 => some (x19, I12))) else some ((-1 : Int32), I0))
set_option maxHeartbeats 4000000 in
set_option maxRecDepth 100000 in
theorem cm_K_tieEntry (l : Launch) (D : va_G) (ca : Nat → ClassId) (ad : Nat → Nat) (hs : Nat → Option Nat) {p0 : Int32} {p1 : Int32} {I0 : IS} {J0 : JS} {r : Int32 × IS} (hh : hs p0.toNatClampNeg = some (ad 0)) (hf : fm_K_tieEntry p0 p1 I0 = some r) : CtI l y_K_tieEntry (Cond.code y_K_tieEntry b_K_tieEntry 4 (some .int) :: TB) { frames := 7, cells := 0, slots := 0, locals := 170 } [.ref (ad 15), .int p0, .int p1] D cls_all (tysC ca) NN (wC ca ad hs I0 J0) (wC ca ad hs r.2 J0) r.1 := by
  refine jd_metI (cc := b_K_tieEntry) (by decide) rfl (Nat.le_of_ble_eq_true rfl) (lv := [(0, .ref (ad 15)), (1, .int p0), (2, .int p1)]) rfl ?_
  intro p e R s m args below meth c A Q ls cx hR hK hN hD0 hA hP hS hl hend
  have hx := cx.1
  have hb := cx.2.1
  have hml := cx.2.2.1
  have hown := cx.2.2.2.1
  have hts := cx.2.2.2.2
  have hD : ∀ I J, va_D A (wC ca ad hs I J) := fun I J => jd_Dc hD0 rfl
  unfold fm_K_tieEntry at hf
  refine lv_aload_n hx hb d_K_tieEntry_0 rfl (lv_at hl 0 rfl) ?_
  refine lv_iload_n hx hb d_K_tieEntry_1 rfl (lv_at hl 1 rfl) ?_
  obtain ⟨_, hc1, hf2⟩ := ob1_ex hf
  refine jd_cq (va_runV (As := [.int p0]) (rest := []) cx (cm_K_find l D ca ad hs hh hc1 s.heap.size) (cwV 1 hts (jd_gV tb_124 tb_125 tb_0 tb_43 tb_126) rfl rfl rfl ⟨rfl, by decide, by decide, rfl⟩ (by rw [hR]; decide)) ⟨jd_blind nWc, (va_recv hK hP (ci := 3) (q0 := 15) rfl rfl), (jd_pre (av := [.ref (ad 15), .int p0]) hP hK (hD I0 J0) (fun U h => nWm h hN))⟩ rfl rfl hl.1 rfl (lv_room (Nat.le_of_ble_eq_true rfl)) d_K_tieEntry_2 ⟨Nat.zero_le _, Nat.zero_le _⟩) hS (hD I0 J0) hA (fun H3 L4 hP5 hS6 => ?_)
  refine lv_astore_n hx hb d_K_tieEntry_5 rfl hl (by decide) (lv' := [(3, .ref (ad 0)), (0, .ref (ad 15)), (1, .int p0), (2, .int p1)]) rfl (fun ls7 hl8 => ?_)
  refine lv_aload_n hx hb d_K_tieEntry_6 rfl (lv_at hl8 0 rfl) ?_
  refine lv_ifnull hx hb d_K_tieEntry_7 ?_
  refine lv_iload_n hx hb d_K_tieEntry_10 rfl (lv_at hl8 3 rfl) ?_
  refine lv_if_ge (tgt := 16) hx hb d_K_tieEntry_11 rfl (fun h9 => ?_) (fun h9 => ?_)
  · have hf10 := ifp hf2 h9
    refine lv_aload_n hx hb d_K_tieEntry_16 rfl (lv_at hl8 0 rfl) ?_
    obtain ⟨I12, hc13, hf14⟩ := ob1_ex hf10
    refine jd_cq (va_runS (As := [.ref (ad 0)]) (rest := []) cx (cm_K_rowsOf l D ca ad hs hc13 H3.size) (va_cwS 1 hts (jd_gS2 tb_360 tb_361 tb_43 tb_362) rfl rfl rfl ⟨by decide, by decide, rfl⟩ (by rw [hR]; decide)) ⟨jd_blind nWc, (jd_pre (av := [.ref (ad 0)]) hP5 hK (hD I0 J0) (fun U h => nWm h hN))⟩ rfl rfl hl8.1 rfl (lv_room (Nat.le_of_ble_eq_true rfl)) d_K_tieEntry_17 ⟨Nat.zero_le _, Nat.zero_le _⟩) hS6 (hD I0 J0) hA (fun H15 L16 hP17 hS18 => ?_)
    refine lv_iload_n hx hb d_K_tieEntry_20 rfl (lv_at hl8 3 rfl) ?_
    obtain ⟨x19, hc20, hf21⟩ := ob1_ex hf14
    refine jd_ci (va_runV (As := [.int p1]) (rest := []) cx (cm_R_tied l D ca ad hs hc20 H15.size) (cwV 1 hts (jd_gV tb_396 tb_397 tb_398 tb_54 tb_399) rfl rfl rfl ⟨rfl, by decide, by decide, rfl⟩ (by rw [hR]; decide)) ⟨jd_blind nWc, (va_recv hK hP17 (ci := 2) (q0 := 9) rfl rfl), (jd_pre (av := [.ref (ad 9), .int p1]) hP17 hK (hD I12 J0) (fun U h => nWm h hN))⟩ rfl rfl hl8.1 rfl (lv_room (Nat.le_of_ble_eq_true rfl)) d_K_tieEntry_21 ⟨Nat.zero_le _, Nat.zero_le _⟩) hS18 (hD I12 J0) hA (fun H22 L23 hP24 hS25 => ?_)
    cases hf21
    exact hend H22 L23 24 ls7 hP24 hS25 d_K_tieEntry_24
  · have hf11 := ifn hf2 h9
    refine lv_iconst (v := -1) hx hb d_K_tieEntry_14 (by decide) ?_
    cases hf11
    exact hend H3 L4 15 ls7 hP5 hS6 d_K_tieEntry_15
theorem d_K_chains_0 : decode b_K_chains 0 = .ok (.aload_n 0, 1) := by decide +kernel
theorem d_K_chains_1 : decode b_K_chains 1 = .ok (.iload_n 1, 1) := by decide +kernel
theorem d_K_chains_2 : decode b_K_chains 2 = .ok (.invokevirtual 58, 3) := by decide +kernel
theorem d_K_chains_5 : decode b_K_chains 5 = .ok (.astore_n 2, 1) := by decide +kernel
theorem d_K_chains_6 : decode b_K_chains 6 = .ok (.aload_n 2, 1) := by decide +kernel
theorem d_K_chains_7 : decode b_K_chains 7 = .ok (.ifnonnull 7, 3) := by decide +kernel
theorem d_K_chains_10 : decode b_K_chains 10 = .ok (.iconst 0, 1) := by decide +kernel
theorem d_K_chains_11 : decode b_K_chains 11 = .ok (.goto 10, 3) := by decide +kernel
theorem d_K_chains_14 : decode b_K_chains 14 = .ok (.aload_n 2, 1) := by decide +kernel
theorem d_K_chains_15 : decode b_K_chains 15 = .ok (.invokestatic 163, 3) := by decide +kernel
theorem d_K_chains_18 : decode b_K_chains 18 = .ok (.getfield 167, 3) := by decide +kernel
theorem d_K_chains_21 : decode b_K_chains 21 = .ok (.ireturn, 1) := by decide +kernel
def fm_K_chains (p0 : Int32) (I0 : IS) : Option (Int32 × IS) :=
  ob1 (fm_K_find p0) (fun _ => ob1 (fm_K_rowsOf I0) (fun I9 => some (I9 9 0, I9)))
set_option maxHeartbeats 4000000 in
set_option maxRecDepth 100000 in
theorem cm_K_chains (l : Launch) (D : va_G) (ca : Nat → ClassId) (ad : Nat → Nat) (hs : Nat → Option Nat) {p0 : Int32} {I0 : IS} {J0 : JS} {r : Int32 × IS} (hh : hs p0.toNatClampNeg = some (ad 0)) (hf : fm_K_chains p0 I0 = some r) : CtI l y_K_chains (Cond.code y_K_chains b_K_chains 3 (some .int) :: TB) { frames := 7, cells := 0, slots := 0, locals := 170 } [.ref (ad 15), .int p0] D cls_all (tysC ca) NN (wC ca ad hs I0 J0) (wC ca ad hs r.2 J0) r.1 := by
  refine jd_metI (cc := b_K_chains) (by decide) rfl (Nat.le_of_ble_eq_true rfl) (lv := [(0, .ref (ad 15)), (1, .int p0)]) rfl ?_
  intro p e R s m args below meth c A Q ls cx hR hK hN hD0 hA hP hS hl hend
  have hx := cx.1
  have hb := cx.2.1
  have hml := cx.2.2.1
  have hown := cx.2.2.2.1
  have hts := cx.2.2.2.2
  have hD : ∀ I J, va_D A (wC ca ad hs I J) := fun I J => jd_Dc hD0 rfl
  unfold fm_K_chains at hf
  refine lv_aload_n hx hb d_K_chains_0 rfl (lv_at hl 0 rfl) ?_
  refine lv_iload_n hx hb d_K_chains_1 rfl (lv_at hl 1 rfl) ?_
  obtain ⟨_, hc1, hf2⟩ := ob1_ex hf
  refine jd_cq (va_runV (As := [.int p0]) (rest := []) cx (cm_K_find l D ca ad hs hh hc1 s.heap.size) (cwV 1 hts (jd_gV tb_124 tb_125 tb_0 tb_43 tb_126) rfl rfl rfl ⟨rfl, by decide, by decide, rfl⟩ (by rw [hR]; decide)) ⟨jd_blind nWc, (va_recv hK hP (ci := 3) (q0 := 15) rfl rfl), (jd_pre (av := [.ref (ad 15), .int p0]) hP hK (hD I0 J0) (fun U h => nWm h hN))⟩ rfl rfl hl.1 rfl (lv_room (Nat.le_of_ble_eq_true rfl)) d_K_chains_2 ⟨Nat.zero_le _, Nat.zero_le _⟩) hS (hD I0 J0) hA (fun H3 L4 hP5 hS6 => ?_)
  refine lv_astore_n hx hb d_K_chains_5 rfl hl (by decide) (lv' := [(2, .ref (ad 0)), (0, .ref (ad 15)), (1, .int p0)]) rfl (fun ls7 hl8 => ?_)
  refine lv_aload_n hx hb d_K_chains_6 rfl (lv_at hl8 0 rfl) ?_
  refine lv_ifnonnull (tgt := 14) hx hb d_K_chains_7 rfl ?_
  refine lv_aload_n hx hb d_K_chains_14 rfl (lv_at hl8 0 rfl) ?_
  obtain ⟨I9, hc10, hf11⟩ := ob1_ex hf2
  refine jd_cq (va_runS (As := [.ref (ad 0)]) (rest := []) cx (cm_K_rowsOf l D ca ad hs hc10 H3.size) (va_cwS 1 hts (jd_gS2 tb_360 tb_361 tb_43 tb_362) rfl rfl rfl ⟨by decide, by decide, rfl⟩ (by rw [hR]; decide)) ⟨jd_blind nWc, (jd_pre (av := [.ref (ad 0)]) hP5 hK (hD I0 J0) (fun U h => nWm h hN))⟩ rfl rfl hl8.1 rfl (lv_room (Nat.le_of_ble_eq_true rfl)) d_K_chains_15 ⟨Nat.zero_le _, Nat.zero_le _⟩) hS6 (hD I0 J0) hA (fun H12 L13 hP14 hS15 => ?_)
  refine va_get (D := D) (ci := 2) (v := .int (I9 9 0)) (C := R_R) (T := F_R) (N := 8) hx hb hts (fun w h => List.mem_cons_of_mem _ (uw_R w h)) hown hK hP14 9 rfl rfl 1 (by decide) (hts _ (List.mem_cons_of_mem _ tb_511)) (fun _ h => h) rfl d_K_chains_18 ?_
  cases hf11
  exact hend H12 L13 21 ls7 hP14 hS15 d_K_chains_21
theorem d_K_follows_0 : decode b_K_follows 0 = .ok (.aload_n 0, 1) := by decide +kernel
theorem d_K_follows_1 : decode b_K_follows 1 = .ok (.iload_n 1, 1) := by decide +kernel
theorem d_K_follows_2 : decode b_K_follows 2 = .ok (.invokevirtual 58, 3) := by decide +kernel
theorem d_K_follows_5 : decode b_K_follows 5 = .ok (.astore_n 3, 1) := by decide +kernel
theorem d_K_follows_6 : decode b_K_follows 6 = .ok (.aload_n 3, 1) := by decide +kernel
theorem d_K_follows_7 : decode b_K_follows 7 = .ok (.ifnull 11, 3) := by decide +kernel
theorem d_K_follows_10 : decode b_K_follows 10 = .ok (.aload_n 3, 1) := by decide +kernel
theorem d_K_follows_11 : decode b_K_follows 11 = .ok (.iload_n 2, 1) := by decide +kernel
theorem d_K_follows_12 : decode b_K_follows 12 = .ok (.invokevirtual 62, 3) := by decide +kernel
theorem d_K_follows_15 : decode b_K_follows 15 = .ok (.ifCond .ne 5, 3) := by decide +kernel
theorem d_K_follows_18 : decode b_K_follows 18 = .ok (.iconst (-1), 1) := by decide +kernel
theorem d_K_follows_19 : decode b_K_follows 19 = .ok (.ireturn, 1) := by decide +kernel
theorem d_K_follows_20 : decode b_K_follows 20 = .ok (.aload_n 3, 1) := by decide +kernel
theorem d_K_follows_21 : decode b_K_follows 21 = .ok (.invokestatic 163, 3) := by decide +kernel
theorem d_K_follows_24 : decode b_K_follows 24 = .ok (.getfield 176, 3) := by decide +kernel
theorem d_K_follows_27 : decode b_K_follows 27 = .ok (.iload_n 2, 1) := by decide +kernel
theorem d_K_follows_28 : decode b_K_follows 28 = .ok (.iaload, 1) := by decide +kernel
theorem d_K_follows_29 : decode b_K_follows 29 = .ok (.ireturn, 1) := by decide +kernel
def fm_K_follows (p0 : Int32) (p1 : Int32) (I0 : IS) : Option (Int32 × IS) :=
  ob1 (fm_K_find p0) (fun _ => ob1 (fm_H_has p1 I0) (fun x9 => if x9 = 0 then some ((-1 : Int32), I0) else ob1 (fm_K_rowsOf I0) (fun I19 => grd (inB p1 16) (some (I19 10 p1.toNatClampNeg, I19)))))
set_option maxHeartbeats 4000000 in
set_option maxRecDepth 100000 in
theorem cm_K_follows (l : Launch) (D : va_G) (ca : Nat → ClassId) (ad : Nat → Nat) (hs : Nat → Option Nat) {p0 : Int32} {p1 : Int32} {I0 : IS} {J0 : JS} {r : Int32 × IS} (hh : hs p0.toNatClampNeg = some (ad 0)) (hf : fm_K_follows p0 p1 I0 = some r) : CtI l y_K_follows (Cond.code y_K_follows b_K_follows 4 (some .int) :: TB) { frames := 7, cells := 0, slots := 0, locals := 170 } [.ref (ad 15), .int p0, .int p1] D cls_all (tysC ca) NN (wC ca ad hs I0 J0) (wC ca ad hs r.2 J0) r.1 := by
  refine jd_metI (cc := b_K_follows) (by decide) rfl (Nat.le_of_ble_eq_true rfl) (lv := [(0, .ref (ad 15)), (1, .int p0), (2, .int p1)]) rfl ?_
  intro p e R s m args below meth c A Q ls cx hR hK hN hD0 hA hP hS hl hend
  have hx := cx.1
  have hb := cx.2.1
  have hml := cx.2.2.1
  have hown := cx.2.2.2.1
  have hts := cx.2.2.2.2
  have hD : ∀ I J, va_D A (wC ca ad hs I J) := fun I J => jd_Dc hD0 rfl
  unfold fm_K_follows at hf
  refine lv_aload_n hx hb d_K_follows_0 rfl (lv_at hl 0 rfl) ?_
  refine lv_iload_n hx hb d_K_follows_1 rfl (lv_at hl 1 rfl) ?_
  obtain ⟨_, hc1, hf2⟩ := ob1_ex hf
  refine jd_cq (va_runV (As := [.int p0]) (rest := []) cx (cm_K_find l D ca ad hs hh hc1 s.heap.size) (cwV 1 hts (jd_gV tb_124 tb_125 tb_0 tb_43 tb_126) rfl rfl rfl ⟨rfl, by decide, by decide, rfl⟩ (by rw [hR]; decide)) ⟨jd_blind nWc, (va_recv hK hP (ci := 3) (q0 := 15) rfl rfl), (jd_pre (av := [.ref (ad 15), .int p0]) hP hK (hD I0 J0) (fun U h => nWm h hN))⟩ rfl rfl hl.1 rfl (lv_room (Nat.le_of_ble_eq_true rfl)) d_K_follows_2 ⟨Nat.zero_le _, Nat.zero_le _⟩) hS (hD I0 J0) hA (fun H3 L4 hP5 hS6 => ?_)
  refine lv_astore_n hx hb d_K_follows_5 rfl hl (by decide) (lv' := [(3, .ref (ad 0)), (0, .ref (ad 15)), (1, .int p0), (2, .int p1)]) rfl (fun ls7 hl8 => ?_)
  refine lv_aload_n hx hb d_K_follows_6 rfl (lv_at hl8 0 rfl) ?_
  refine lv_ifnull hx hb d_K_follows_7 ?_
  refine lv_aload_n hx hb d_K_follows_10 rfl (lv_at hl8 0 rfl) ?_
  refine lv_iload_n hx hb d_K_follows_11 rfl (lv_at hl8 3 rfl) ?_
  obtain ⟨x9, hc10, hf11⟩ := ob1_ex hf2
  refine jd_ci (va_runV (As := [.int p1]) (rest := []) cx (cm_H_has l D ca ad hs hc10 H3.size) (cwV 1 hts (jd_gV tb_127 tb_128 tb_129 tb_52 tb_130) rfl rfl rfl ⟨rfl, by decide, by decide, rfl⟩ (by rw [hR]; decide)) ⟨jd_blind nWc, (va_recv hK hP5 (ci := 0) (q0 := 0) rfl rfl), (jd_pre (av := [.ref (ad 0), .int p1]) hP5 hK (hD I0 J0) (fun U h => nWm h hN))⟩ rfl rfl hl8.1 rfl (lv_room (Nat.le_of_ble_eq_true rfl)) d_K_follows_12 ⟨Nat.zero_le _, Nat.zero_le _⟩) hS6 (hD I0 J0) hA (fun H12 L13 hP14 hS15 => ?_)
  refine lv_if_ne (tgt := 20) hx hb d_K_follows_15 rfl (fun h16 => ?_) (fun h16 => ?_)
  · have hf17 := ifn hf11 h16
    refine lv_aload_n hx hb d_K_follows_20 rfl (lv_at hl8 0 rfl) ?_
    obtain ⟨I19, hc20, hf21⟩ := ob1_ex hf17
    refine jd_cq (va_runS (As := [.ref (ad 0)]) (rest := []) cx (cm_K_rowsOf l D ca ad hs hc20 H12.size) (va_cwS 1 hts (jd_gS2 tb_360 tb_361 tb_43 tb_362) rfl rfl rfl ⟨by decide, by decide, rfl⟩ (by rw [hR]; decide)) ⟨jd_blind nWc, (jd_pre (av := [.ref (ad 0)]) hP14 hK (hD I0 J0) (fun U h => nWm h hN))⟩ rfl rfl hl8.1 rfl (lv_room (Nat.le_of_ble_eq_true rfl)) d_K_follows_21 ⟨Nat.zero_le _, Nat.zero_le _⟩) hS15 (hD I0 J0) hA (fun H22 L23 hP24 hS25 => ?_)
    refine va_get (D := D) (ci := 2) (v := .ref (ad 10)) (C := R_R) (T := F_R) (N := 8) hx hb hts (fun w h => List.mem_cons_of_mem _ (uw_R w h)) hown hK hP24 9 rfl rfl 2 (by decide) (hts _ (List.mem_cons_of_mem _ tb_513)) (fun _ h => h) rfl d_K_follows_24 ?_
    refine lv_iload_n hx hb d_K_follows_27 rfl (lv_at hl8 3 rfl) ?_
    obtain ⟨hg26, hf27⟩ := grd_ex hf21
    refine va_iald hx hb hK hP24 10 2 rfl rfl (inB_in hg26) d_K_follows_28 ?_
    cases hf27
    exact hend H22 L23 29 ls7 hP24 hS25 d_K_follows_29
  · have hf18 := ifp hf11 h16
    refine lv_iconst (v := -1) hx hb d_K_follows_18 (by decide) ?_
    cases hf18
    exact hend H12 L13 19 ls7 hP14 hS15 d_K_follows_19
theorem d_K_count_0 : decode b_K_count 0 = .ok (.iload_n 2, 1) := by decide +kernel
theorem d_K_count_1 : decode b_K_count 1 = .ok (.ifCond .lt 8, 3) := by decide +kernel
theorem d_K_count_4 : decode b_K_count 4 = .ok (.iload_n 2, 1) := by decide +kernel
theorem d_K_count_5 : decode b_K_count 5 = .ok (.iconst 3, 1) := by decide +kernel
theorem d_K_count_6 : decode b_K_count 6 = .ok (.if_icmp .le 5, 3) := by decide +kernel
theorem d_K_count_9 : decode b_K_count 9 = .ok (.iconst (-1), 1) := by decide +kernel
theorem d_K_count_10 : decode b_K_count 10 = .ok (.ireturn, 1) := by decide +kernel
theorem d_K_count_11 : decode b_K_count 11 = .ok (.aload_n 0, 1) := by decide +kernel
theorem d_K_count_12 : decode b_K_count 12 = .ok (.iload_n 1, 1) := by decide +kernel
theorem d_K_count_13 : decode b_K_count 13 = .ok (.invokevirtual 58, 3) := by decide +kernel
theorem d_K_count_16 : decode b_K_count 16 = .ok (.astore_n 3, 1) := by decide +kernel
theorem d_K_count_17 : decode b_K_count 17 = .ok (.aload_n 3, 1) := by decide +kernel
theorem d_K_count_18 : decode b_K_count 18 = .ok (.ifnonnull 5, 3) := by decide +kernel
theorem d_K_count_21 : decode b_K_count 21 = .ok (.iconst 0, 1) := by decide +kernel
theorem d_K_count_22 : decode b_K_count 22 = .ok (.ireturn, 1) := by decide +kernel
theorem d_K_count_23 : decode b_K_count 23 = .ok (.iload_n 2, 1) := by decide +kernel
theorem d_K_count_24 : decode b_K_count 24 = .ok (.tableswitch 43 0 2 #[28, 33, 38], 28) := by decide +kernel
theorem d_K_count_52 : decode b_K_count 52 = .ok (.aload_n 3, 1) := by decide +kernel
theorem d_K_count_53 : decode b_K_count 53 = .ok (.invokevirtual 94, 3) := by decide +kernel
theorem d_K_count_56 : decode b_K_count 56 = .ok (.ireturn, 1) := by decide +kernel
theorem d_K_count_57 : decode b_K_count 57 = .ok (.aload_n 3, 1) := by decide +kernel
theorem d_K_count_58 : decode b_K_count 58 = .ok (.getfield 74, 3) := by decide +kernel
theorem d_K_count_61 : decode b_K_count 61 = .ok (.ireturn, 1) := by decide +kernel
theorem d_K_count_62 : decode b_K_count 62 = .ok (.aload_n 3, 1) := by decide +kernel
theorem d_K_count_63 : decode b_K_count 63 = .ok (.invokevirtual 179, 3) := by decide +kernel
theorem d_K_count_66 : decode b_K_count 66 = .ok (.ireturn, 1) := by decide +kernel
theorem d_K_count_67 : decode b_K_count 67 = .ok (.aload_n 3, 1) := by decide +kernel
theorem d_K_count_68 : decode b_K_count 68 = .ok (.invokevirtual 182, 3) := by decide +kernel
theorem d_K_count_71 : decode b_K_count 71 = .ok (.ireturn, 1) := by decide +kernel
def fm_K_count (p0 : Int32) (p1 : Int32) (I0 : IS) : Option (Int32) :=
  if p1 < 0 then some (-1 : Int32) else if p1 ≤ (3 : Int32) then ob1 (fm_K_find p0) (fun _ => if p1 = (0 : Int32) then ob1 (fm_H_size I0) (fun x17 => some x17) else if p1 = (1 : Int32) then some (I0 6 0) else if p1 = (2 : Int32) then ob1 (fm_H_verdictsInForce I0) (fun x30 => some x30) else ob1 (fm_H_settledPairs I0) (fun x38 => some x38)) else some (-1 : Int32)
set_option maxHeartbeats 4000000 in
set_option maxRecDepth 100000 in
theorem cm_K_count (l : Launch) (D : va_G) (ca : Nat → ClassId) (ad : Nat → Nat) (hs : Nat → Option Nat) {p0 : Int32} {p1 : Int32} {I0 : IS} {J0 : JS} {r : Int32} (hh : hs p0.toNatClampNeg = some (ad 0)) (hf : fm_K_count p0 p1 I0 = some r) : CtI l y_K_count (Cond.code y_K_count b_K_count 4 (some .int) :: TB) { frames := 3, cells := 0, slots := 0, locals := 64 } [.ref (ad 15), .int p0, .int p1] D cls_all (tysC ca) NN (wC ca ad hs I0 J0) (wC ca ad hs I0 J0) r := by
  refine jd_metI (cc := b_K_count) (by decide) rfl (Nat.le_of_ble_eq_true rfl) (lv := [(0, .ref (ad 15)), (1, .int p0), (2, .int p1)]) rfl ?_
  intro p e R s m args below meth c A Q ls cx hR hK hN hD0 hA hP hS hl hend
  have hx := cx.1
  have hb := cx.2.1
  have hml := cx.2.2.1
  have hown := cx.2.2.2.1
  have hts := cx.2.2.2.2
  have hD : ∀ I J, va_D A (wC ca ad hs I J) := fun I J => jd_Dc hD0 rfl
  unfold fm_K_count at hf
  refine lv_iload_n hx hb d_K_count_0 rfl (lv_at hl 2 rfl) ?_
  refine lv_if_lt (tgt := 9) hx hb d_K_count_1 rfl (fun h1 => ?_) (fun h1 => ?_)
  · have hf2 := ifp hf h1
    refine lv_iconst (v := -1) hx hb d_K_count_9 (by decide) ?_
    cases hf2
    exact hend s.heap [] 10 ls hP hS d_K_count_10
  · have hf3 := ifn hf h1
    refine lv_iload_n hx hb d_K_count_4 rfl (lv_at hl 2 rfl) ?_
    refine lv_iconst (v := 3) hx hb d_K_count_5 (by decide) ?_
    refine lv_icmp_le (tgt := 11) hx hb d_K_count_6 rfl (fun h4 => ?_) (fun h4 => ?_)
    · have hf5 := ifp hf3 h4
      refine lv_aload_n hx hb d_K_count_11 rfl (lv_at hl 0 rfl) ?_
      refine lv_iload_n hx hb d_K_count_12 rfl (lv_at hl 1 rfl) ?_
      obtain ⟨_, hc7, hf8⟩ := ob1_ex hf5
      refine jd_cq (va_runV (As := [.int p0]) (rest := []) cx (cm_K_find l D ca ad hs hh hc7 s.heap.size) (cwV 1 hts (jd_gV tb_124 tb_125 tb_0 tb_43 tb_126) rfl rfl rfl ⟨rfl, by decide, by decide, rfl⟩ (by rw [hR]; decide)) ⟨jd_blind nWc, (va_recv hK hP (ci := 3) (q0 := 15) rfl rfl), (jd_pre (av := [.ref (ad 15), .int p0]) hP hK (hD I0 J0) (fun U h => nWm h hN))⟩ rfl rfl hl.1 rfl (lv_room (Nat.le_of_ble_eq_true rfl)) d_K_count_13 ⟨Nat.zero_le _, Nat.zero_le _⟩) hS (hD I0 J0) hA (fun H9 L10 hP11 hS12 => ?_)
      refine lv_astore_n hx hb d_K_count_16 rfl hl (by decide) (lv' := [(3, .ref (ad 0)), (0, .ref (ad 15)), (1, .int p0), (2, .int p1)]) rfl (fun ls13 hl14 => ?_)
      refine lv_aload_n hx hb d_K_count_17 rfl (lv_at hl14 0 rfl) ?_
      refine lv_ifnonnull (tgt := 23) hx hb d_K_count_18 rfl ?_
      refine lv_iload_n hx hb d_K_count_23 rfl (lv_at hl14 3 rfl) ?_
      by_cases h15 : p1 = (0 : Int32)
      · have hf16 := ifp hf8 h15
        refine lv_tableIn (tgt := 52) hx hb d_K_count_24 (by rw [h15]; decide) (by rw [h15]; decide) (by rw [h15]; rfl) rfl ?_
        refine lv_aload_n hx hb d_K_count_52 rfl (lv_at hl14 0 rfl) ?_
        obtain ⟨x17, hc18, hf19⟩ := ob1_ex hf16
        refine jd_ci (va_runV (As := []) (rest := []) cx (cm_H_size l D ca ad hs hc18 H9.size) (cwV 0 hts (jd_gV tb_196 tb_197 tb_198 tb_52 tb_199) rfl rfl rfl ⟨rfl, by decide, by decide, rfl⟩ (by rw [hR]; decide)) ⟨jd_blind nWc, (va_recv hK hP11 (ci := 0) (q0 := 0) rfl rfl), (jd_pre (av := [.ref (ad 0)]) hP11 hK (hD I0 J0) (fun U h => nWm h hN))⟩ rfl rfl hl14.1 rfl (lv_room (Nat.le_of_ble_eq_true rfl)) d_K_count_53 ⟨Nat.zero_le _, Nat.zero_le _⟩) hS12 (hD I0 J0) hA (fun H20 L21 hP22 hS23 => ?_)
        cases hf19
        exact hend H20 L21 56 ls13 hP22 hS23 d_K_count_56
      have hf24 := ifn hf8 h15
      by_cases h25 : p1 = (1 : Int32)
      · have hf26 := ifp hf24 h25
        refine lv_tableIn (tgt := 57) hx hb d_K_count_24 (by rw [h25]; decide) (by rw [h25]; decide) (by rw [h25]; rfl) rfl ?_
        refine lv_aload_n hx hb d_K_count_57 rfl (lv_at hl14 0 rfl) ?_
        refine va_get (D := D) (ci := 0) (v := .int (I0 6 0)) (C := R_H) (T := F_H) (N := 9) hx hb hts (fun w h => List.mem_cons_of_mem _ (uw_H w h)) hown hK hP11 0 rfl rfl 8 (by decide) (hts _ (List.mem_cons_of_mem _ tb_558)) (fun _ h => h) rfl d_K_count_58 ?_
        cases hf26
        exact hend H9 L10 61 ls13 hP11 hS12 d_K_count_61
      have hf27 := ifn hf24 h25
      by_cases h28 : p1 = (2 : Int32)
      · have hf29 := ifp hf27 h28
        refine lv_tableIn (tgt := 62) hx hb d_K_count_24 (by rw [h28]; decide) (by rw [h28]; decide) (by rw [h28]; rfl) rfl ?_
        refine lv_aload_n hx hb d_K_count_62 rfl (lv_at hl14 0 rfl) ?_
        obtain ⟨x30, hc31, hf32⟩ := ob1_ex hf29
        refine jd_ci (va_runV (As := []) (rest := []) cx (cm_H_verdictsInForce l D ca ad hs hc31 H9.size) (cwV 0 hts (jd_gV tb_412 tb_413 tb_414 tb_52 tb_415) rfl rfl rfl ⟨rfl, by decide, by decide, rfl⟩ (by rw [hR]; decide)) ⟨jd_blind nWc, (va_recv hK hP11 (ci := 0) (q0 := 0) rfl rfl), (jd_pre (av := [.ref (ad 0)]) hP11 hK (hD I0 J0) (fun U h => nWm h hN))⟩ rfl rfl hl14.1 rfl (lv_room (Nat.le_of_ble_eq_true rfl)) d_K_count_63 ⟨Nat.zero_le _, Nat.zero_le _⟩) hS12 (hD I0 J0) hA (fun H33 L34 hP35 hS36 => ?_)
        cases hf32
        exact hend H33 L34 66 ls13 hP35 hS36 d_K_count_66
      have hf37 := ifn hf27 h28
      refine lv_tableOut (tgt := 67) hx hb d_K_count_24 (jd_out3 h15 h25 h28) rfl ?_
      refine lv_aload_n hx hb d_K_count_67 rfl (lv_at hl14 0 rfl) ?_
      obtain ⟨x38, hc39, hf40⟩ := ob1_ex hf37
      refine jd_ci (va_runV (As := []) (rest := []) cx (cm_H_settledPairs l D ca ad hs hc39 H9.size) (cwV 0 hts (jd_gV tb_416 tb_417 tb_418 tb_52 tb_419) rfl rfl rfl ⟨rfl, by decide, by decide, rfl⟩ (by rw [hR]; decide)) ⟨jd_blind nWc, (va_recv hK hP11 (ci := 0) (q0 := 0) rfl rfl), (jd_pre (av := [.ref (ad 0)]) hP11 hK (hD I0 J0) (fun U h => nWm h hN))⟩ rfl rfl hl14.1 rfl (lv_room (Nat.le_of_ble_eq_true rfl)) d_K_count_68 ⟨Nat.zero_le _, Nat.zero_le _⟩) hS12 (hD I0 J0) hA (fun H41 L42 hP43 hS44 => ?_)
      cases hf40
      exact hend H41 L42 71 ls13 hP43 hS44 d_K_count_71
    · have hf6 := ifn hf3 h4
      refine lv_iconst (v := -1) hx hb d_K_count_9 (by decide) ?_
      cases hf6
      exact hend s.heap [] 10 ls hP hS d_K_count_10
