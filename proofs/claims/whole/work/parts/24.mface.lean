theorem d_M_thrown_0 : decode b_M_thrown 0 = .ok (.aload_n 0, 1) := by decide +kernel
theorem d_M_thrown_1 : decode b_M_thrown 1 = .ok (.getfield 7, 3) := by decide +kernel
theorem d_M_thrown_4 : decode b_M_thrown 4 = .ok (.ireturn, 1) := by decide +kernel
def fm_M_thrown (I0 : IS) : Option (Int32) :=
  some (I0 0 0)
set_option maxHeartbeats 4000000 in
set_option maxRecDepth 100000 in
theorem cm_M_thrown (l : Launch) (D : va_G) (ca : Nat → ClassId) (am : Nat → Nat) {I0 : IS} {J0 : JS} {r : Int32} (hf : fm_M_thrown I0 = some r) : CtI l y_M_thrown (Cond.code y_M_thrown b_M_thrown 1 (some .int) :: TB) { frames := 0, cells := 0, slots := 0, locals := 0 } [.ref (am 0)] D cls_all (tysC ca) NN (wM ca am I0 J0) (wM ca am I0 J0) r := by
  refine jd_metI (cc := b_M_thrown) (by decide) rfl (Nat.le_of_ble_eq_true rfl) (lv := [(0, .ref (am 0))]) rfl ?_
  intro p e R s m args below meth c A Q ls cx hR hK hN hD0 hA hP hS hl hend
  have hx := cx.1
  have hb := cx.2.1
  have hml := cx.2.2.1
  have hown := cx.2.2.2.1
  have hts := cx.2.2.2.2
  have hD : ∀ I J, va_D A (wM ca am I J) := fun I J => jd_Dc hD0 rfl
  unfold fm_M_thrown at hf
  refine lv_aload_n hx hb d_M_thrown_0 rfl (lv_at hl 0 rfl) ?_
  refine va_get (D := D) (ci := 6) (v := .int (I0 0 0)) (C := R_M) (T := F_M) (N := 24) hx hb hts (fun w h => List.mem_cons_of_mem _ (uw_M w h)) hown hK hP 0 rfl rfl 0 (by decide) (hts _ (List.mem_cons_of_mem _ tb_600)) (fun _ h => h) rfl d_M_thrown_1 ?_
  cases hf
  exact hend s.heap [] 4 ls hP hS d_M_thrown_4
theorem d_M_heat_0 : decode b_M_heat 0 = .ok (.aload_n 0, 1) := by decide +kernel
theorem d_M_heat_1 : decode b_M_heat 1 = .ok (.iload_n 1, 1) := by decide +kernel
theorem d_M_heat_2 : decode b_M_heat 2 = .ok (.ifCond .lt 20, 3) := by decide +kernel
theorem d_M_heat_5 : decode b_M_heat 5 = .ok (.iload_n 1, 1) := by decide +kernel
theorem d_M_heat_6 : decode b_M_heat 6 = .ok (.bipush 11, 2) := by decide +kernel
theorem d_M_heat_8 : decode b_M_heat 8 = .ok (.if_icmp .gt 14, 3) := by decide +kernel
theorem d_M_heat_11 : decode b_M_heat 11 = .ok (.iload_n 2, 1) := by decide +kernel
theorem d_M_heat_12 : decode b_M_heat 12 = .ok (.iconst 1, 1) := by decide +kernel
theorem d_M_heat_13 : decode b_M_heat 13 = .ok (.if_icmp .lt 9, 3) := by decide +kernel
theorem d_M_heat_16 : decode b_M_heat 16 = .ok (.iload_n 2, 1) := by decide +kernel
theorem d_M_heat_17 : decode b_M_heat 17 = .ok (.bipush 16, 2) := by decide +kernel
theorem d_M_heat_19 : decode b_M_heat 19 = .ok (.if_icmp .le 7, 3) := by decide +kernel
theorem d_M_heat_22 : decode b_M_heat 22 = .ok (.iconst 1, 1) := by decide +kernel
theorem d_M_heat_23 : decode b_M_heat 23 = .ok (.goto 4, 3) := by decide +kernel
theorem d_M_heat_26 : decode b_M_heat 26 = .ok (.iconst 0, 1) := by decide +kernel
theorem d_M_heat_27 : decode b_M_heat 27 = .ok (.putfield 7, 3) := by decide +kernel
theorem d_M_heat_30 : decode b_M_heat 30 = .ok (.aload_n 0, 1) := by decide +kernel
theorem d_M_heat_31 : decode b_M_heat 31 = .ok (.getfield 7, 3) := by decide +kernel
theorem d_M_heat_34 : decode b_M_heat 34 = .ok (.ifCond .eq 4, 3) := by decide +kernel
theorem d_M_heat_37 : decode b_M_heat 37 = .ok (.return_, 1) := by decide +kernel
theorem d_M_heat_38 : decode b_M_heat 38 = .ok (.aload_n 0, 1) := by decide +kernel
theorem d_M_heat_39 : decode b_M_heat 39 = .ok (.getfield 13, 3) := by decide +kernel
theorem d_M_heat_42 : decode b_M_heat 42 = .ok (.iload_n 1, 1) := by decide +kernel
theorem d_M_heat_43 : decode b_M_heat 43 = .ok (.iload_n 2, 1) := by decide +kernel
theorem d_M_heat_44 : decode b_M_heat 44 = .ok (.iastore, 1) := by decide +kernel
theorem d_M_heat_45 : decode b_M_heat 45 = .ok (.aload_n 0, 1) := by decide +kernel
theorem d_M_heat_46 : decode b_M_heat 46 = .ok (.getfield 17, 3) := by decide +kernel
theorem d_M_heat_49 : decode b_M_heat 49 = .ok (.iload_n 1, 1) := by decide +kernel
theorem d_M_heat_50 : decode b_M_heat 50 = .ok (.iconst 0, 1) := by decide +kernel
theorem d_M_heat_51 : decode b_M_heat 51 = .ok (.iastore, 1) := by decide +kernel
theorem d_M_heat_52 : decode b_M_heat 52 = .ok (.aload_n 0, 1) := by decide +kernel
theorem d_M_heat_53 : decode b_M_heat 53 = .ok (.getfield 20, 3) := by decide +kernel
theorem d_M_heat_56 : decode b_M_heat 56 = .ok (.iload_n 1, 1) := by decide +kernel
theorem d_M_heat_57 : decode b_M_heat 57 = .ok (.iconst 0, 1) := by decide +kernel
theorem d_M_heat_58 : decode b_M_heat 58 = .ok (.iastore, 1) := by decide +kernel
theorem d_M_heat_59 : decode b_M_heat 59 = .ok (.aload_n 0, 1) := by decide +kernel
theorem d_M_heat_60 : decode b_M_heat 60 = .ok (.iconst (-1), 1) := by decide +kernel
theorem d_M_heat_61 : decode b_M_heat 61 = .ok (.putfield 33, 3) := by decide +kernel
theorem d_M_heat_64 : decode b_M_heat 64 = .ok (.return_, 1) := by decide +kernel
def fm_M_heat_j27 (p0 : Int32) (p1 : Int32) (x1 : Int32) (I2 : IS) : Option (IS) :=
  bnd (sV I2 0 x1) (fun I10 => if (I10 0 0) = 0 then grd (inB p0 12) (bnd (sI I10 1 p0.toNatClampNeg p1) (fun I23 => grd (inB p0 12) (bnd (sI I23 2 p0.toNatClampNeg (0 : Int32)) (fun I33 => grd (inB p0 12) (bnd (sI I33 3 p0.toNatClampNeg (0 : Int32)) (fun I43 => bnd (sV I43 7 (-1 : Int32)) (fun I51 => some I51))))))) else some I10)
def fm_M_heat_j22 (p0 : Int32) (p1 : Int32) (I59 : IS) : Option (IS) :=
  fm_M_heat_j27 p0 p1 (1 : Int32) I59
def fm_M_heat (p0 : Int32) (p1 : Int32) (I0 : IS) : Option (IS) :=
  if p0 < 0 then fm_M_heat_j22 p0 p1 I0 else if (11 : Int32) < p0 then fm_M_heat_j22 p0 p1 I0 else if p1 < (1 : Int32) then fm_M_heat_j22 p0 p1 I0 else if p1 ≤ (16 : Int32) then fm_M_heat_j27 p0 p1 (0 : Int32) I0 else fm_M_heat_j22 p0 p1 I0
set_option maxHeartbeats 4000000 in
set_option maxRecDepth 100000 in
theorem cm_M_heat (l : Launch) (D : va_G) (ca : Nat → ClassId) (am : Nat → Nat) {p0 : Int32} {p1 : Int32} {I0 : IS} {J0 : JS} {r : IS} (hf : fm_M_heat p0 p1 I0 = some r) : CtV l y_M_heat (Cond.code y_M_heat b_M_heat 3 none :: TB) { frames := 0, cells := 0, slots := 0, locals := 0 } [.ref (am 0), .int p0, .int p1] D cls_all (tysC ca) NN (wM ca am I0 J0) (wM ca am r J0) := by
  refine jd_metV (cc := b_M_heat) (by decide) rfl (Nat.le_of_ble_eq_true rfl) (lv := [(0, .ref (am 0)), (1, .int p0), (2, .int p1)]) rfl ?_
  intro p e R s m args below meth c A Q ls cx hR hK hN hD0 hA hP hS hl hend
  have hx := cx.1
  have hb := cx.2.1
  have hml := cx.2.2.1
  have hown := cx.2.2.2.1
  have hts := cx.2.2.2.2
  have hD : ∀ I J, va_D A (wM ca am I J) := fun I J => jd_Dc hD0 rfl
  unfold fm_M_heat at hf
  have kj27 : ∀ (x1 : Int32) (I2 : IS), fm_M_heat_j27 p0 p1 x1 I2 = some r → ∀ (H3 : Heap) (L4 : List Loc) (ls5 : Array Slot), va_P D cls_all (wM ca am I2 J0) H3 → va_S A s.heap H3 L4 → lv_has ls5 3 [(0, .ref (am 0)), (1, .int p0), (2, .int p1)] → W p l e R s m args below meth c H3 L4 0 0 Q (F0 m 27 ls5 [.int x1, .ref (am 0)]) := by
    intro x1 I2 hf9 H3 L4 ls5 hP6 hS7 hl8
    unfold fm_M_heat_j27 at hf9
    obtain ⟨I10, e11, hf12⟩ := bnd_ex hf9
    refine va_put (D := D) (ci := 6) (v := .int x1) (ty := .int) (C := R_M) (T := F_M) (N := 24) hx hb hts (fun w h => List.mem_cons_of_mem _ (uw_M w h)) ft_M tk_M n_M hown hK hP6 (hD I2 J0) hS7 0 rfl rfl 0 (by decide) (hts _ (List.mem_cons_of_mem _ tb_600)) (fun _ h => h) rfl (by decide +kernel) rfl rfl (Nat.le_of_ble_eq_true rfl) d_M_heat_27 (fun H13 L14 hp17 _ hS16 => ?_)
    have hP15 : va_P D cls_all (wM ca am I10 J0) H13 := by rw [e11]; exact hp17
    refine lv_aload_n hx hb d_M_heat_30 rfl (lv_at hl8 0 rfl) ?_
    refine va_get (D := D) (ci := 6) (v := .int (I10 0 0)) (C := R_M) (T := F_M) (N := 24) hx hb hts (fun w h => List.mem_cons_of_mem _ (uw_M w h)) hown hK hP15 0 rfl rfl 0 (by decide) (hts _ (List.mem_cons_of_mem _ tb_600)) (fun _ h => h) rfl d_M_heat_31 ?_
    refine lv_if_eq (tgt := 38) hx hb d_M_heat_34 rfl (fun h18 => ?_) (fun h18 => ?_)
    · have hf19 := ifp hf12 h18
      refine lv_aload_n hx hb d_M_heat_38 rfl (lv_at hl8 0 rfl) ?_
      refine va_get (D := D) (ci := 6) (v := .ref (am 1)) (C := R_M) (T := F_M) (N := 24) hx hb hts (fun w h => List.mem_cons_of_mem _ (uw_M w h)) hown hK hP15 0 rfl rfl 1 (by decide) (hts _ (List.mem_cons_of_mem _ tb_601)) (fun _ h => h) rfl d_M_heat_39 ?_
      refine lv_iload_n hx hb d_M_heat_42 rfl (lv_at hl8 1 rfl) ?_
      refine lv_iload_n hx hb d_M_heat_43 rfl (lv_at hl8 2 rfl) ?_
      obtain ⟨hg21, hf22⟩ := grd_ex hf19
      obtain ⟨I23, e24, hf25⟩ := bnd_ex hf22
      refine va_iast hx hb hK hP15 (hD I10 J0) hS16 1 2 rfl rfl (inB_in hg21) d_M_heat_44 (fun H26 L27 hp30 _ hS29 => ?_)
      have hP28 : va_P D cls_all (wM ca am I23 J0) H26 := by rw [e24]; exact hp30
      refine lv_aload_n hx hb d_M_heat_45 rfl (lv_at hl8 0 rfl) ?_
      refine va_get (D := D) (ci := 6) (v := .ref (am 2)) (C := R_M) (T := F_M) (N := 24) hx hb hts (fun w h => List.mem_cons_of_mem _ (uw_M w h)) hown hK hP28 0 rfl rfl 2 (by decide) (hts _ (List.mem_cons_of_mem _ tb_602)) (fun _ h => h) rfl d_M_heat_46 ?_
      refine lv_iload_n hx hb d_M_heat_49 rfl (lv_at hl8 1 rfl) ?_
      refine lv_iconst (v := 0) hx hb d_M_heat_50 (by decide) ?_
      obtain ⟨hg31, hf32⟩ := grd_ex hf25
      obtain ⟨I33, e34, hf35⟩ := bnd_ex hf32
      refine va_iast hx hb hK hP28 (hD I23 J0) hS29 2 2 rfl rfl (inB_in hg31) d_M_heat_51 (fun H36 L37 hp40 _ hS39 => ?_)
      have hP38 : va_P D cls_all (wM ca am I33 J0) H36 := by rw [e34]; exact hp40
      refine lv_aload_n hx hb d_M_heat_52 rfl (lv_at hl8 0 rfl) ?_
      refine va_get (D := D) (ci := 6) (v := .ref (am 3)) (C := R_M) (T := F_M) (N := 24) hx hb hts (fun w h => List.mem_cons_of_mem _ (uw_M w h)) hown hK hP38 0 rfl rfl 3 (by decide) (hts _ (List.mem_cons_of_mem _ tb_603)) (fun _ h => h) rfl d_M_heat_53 ?_
      refine lv_iload_n hx hb d_M_heat_56 rfl (lv_at hl8 1 rfl) ?_
      refine lv_iconst (v := 0) hx hb d_M_heat_57 (by decide) ?_
      obtain ⟨hg41, hf42⟩ := grd_ex hf35
      obtain ⟨I43, e44, hf45⟩ := bnd_ex hf42
      refine va_iast hx hb hK hP38 (hD I33 J0) hS39 3 2 rfl rfl (inB_in hg41) d_M_heat_58 (fun H46 L47 hp50 _ hS49 => ?_)
      have hP48 : va_P D cls_all (wM ca am I43 J0) H46 := by rw [e44]; exact hp50
      refine lv_aload_n hx hb d_M_heat_59 rfl (lv_at hl8 0 rfl) ?_
      refine lv_iconst (v := -1) hx hb d_M_heat_60 (by decide) ?_
      obtain ⟨I51, e52, hf53⟩ := bnd_ex hf45
      refine va_put (D := D) (ci := 6) (v := .int (-1 : Int32)) (ty := .int) (C := R_M) (T := F_M) (N := 24) hx hb hts (fun w h => List.mem_cons_of_mem _ (uw_M w h)) ft_M tk_M n_M hown hK hP48 (hD I43 J0) hS49 0 rfl rfl 7 (by decide) (hts _ (List.mem_cons_of_mem _ tb_607)) (fun _ h => h) rfl (by decide +kernel) rfl rfl (Nat.le_of_ble_eq_true rfl) d_M_heat_61 (fun H54 L55 hp58 _ hS57 => ?_)
      have hP56 : va_P D cls_all (wM ca am I51 J0) H54 := by rw [e52]; exact hp58
      cases hf53
      exact hend H54 L55 64 ls5 hP56 hS57 d_M_heat_64
    · have hf20 := ifn hf12 h18
      cases hf20
      exact hend H13 L14 37 ls5 hP15 hS16 d_M_heat_37
  have kj22 : ∀ (I59 : IS), fm_M_heat_j22 p0 p1 I59 = some r → ∀ (H60 : Heap) (L61 : List Loc) (ls62 : Array Slot), va_P D cls_all (wM ca am I59 J0) H60 → va_S A s.heap H60 L61 → lv_has ls62 3 [(0, .ref (am 0)), (1, .int p0), (2, .int p1)] → W p l e R s m args below meth c H60 L61 0 0 Q (F0 m 22 ls62 [.ref (am 0)]) := by
    intro I59 hf66 H60 L61 ls62 hP63 hS64 hl65
    unfold fm_M_heat_j22 at hf66
    refine lv_iconst (v := 1) hx hb d_M_heat_22 (by decide) ?_
    refine lv_goto (tgt := 27) hx hb d_M_heat_23 rfl ?_
    exact kj27 (1 : Int32) I59 hf66 H60 L61 ls62 hP63 hS64 (lv_sub hl65 [0, 1, 2] rfl)
  refine lv_aload_n hx hb d_M_heat_0 rfl (lv_at hl 0 rfl) ?_
  refine lv_iload_n hx hb d_M_heat_1 rfl (lv_at hl 1 rfl) ?_
  refine lv_if_lt (tgt := 22) hx hb d_M_heat_2 rfl (fun h67 => ?_) (fun h67 => ?_)
  · have hf68 := ifp hf h67
    exact kj22 I0 hf68 s.heap [] ls hP hS (lv_sub hl [0, 1, 2] rfl)
  · have hf69 := ifn hf h67
    refine lv_iload_n hx hb d_M_heat_5 rfl (lv_at hl 1 rfl) ?_
    refine lv_bipush (v := 11) hx hb d_M_heat_6 (by decide) ?_
    refine lv_icmp_gt (tgt := 22) hx hb d_M_heat_8 rfl (fun h70 => ?_) (fun h70 => ?_)
    · have hf71 := ifp hf69 h70
      exact kj22 I0 hf71 s.heap [] ls hP hS (lv_sub hl [0, 1, 2] rfl)
    · have hf72 := ifn hf69 h70
      refine lv_iload_n hx hb d_M_heat_11 rfl (lv_at hl 2 rfl) ?_
      refine lv_iconst (v := 1) hx hb d_M_heat_12 (by decide) ?_
      refine lv_icmp_lt (tgt := 22) hx hb d_M_heat_13 rfl (fun h73 => ?_) (fun h73 => ?_)
      · have hf74 := ifp hf72 h73
        exact kj22 I0 hf74 s.heap [] ls hP hS (lv_sub hl [0, 1, 2] rfl)
      · have hf75 := ifn hf72 h73
        refine lv_iload_n hx hb d_M_heat_16 rfl (lv_at hl 2 rfl) ?_
        refine lv_bipush (v := 16) hx hb d_M_heat_17 (by decide) ?_
        refine lv_icmp_le (tgt := 26) hx hb d_M_heat_19 rfl (fun h76 => ?_) (fun h76 => ?_)
        · have hf77 := ifp hf75 h76
          refine lv_iconst (v := 0) hx hb d_M_heat_26 (by decide) ?_
          exact kj27 (0 : Int32) I0 hf77 s.heap [] ls hP hS (lv_sub hl [0, 1, 2] rfl)
        · have hf78 := ifn hf75 h76
          exact kj22 I0 hf78 s.heap [] ls hP hS (lv_sub hl [0, 1, 2] rfl)
theorem d_M_better_0 : decode b_M_better 0 = .ok (.aload_n 0, 1) := by decide +kernel
theorem d_M_better_1 : decode b_M_better 1 = .ok (.iconst 0, 1) := by decide +kernel
theorem d_M_better_2 : decode b_M_better 2 = .ok (.putfield 7, 3) := by decide +kernel
theorem d_M_better_5 : decode b_M_better 5 = .ok (.aload_n 0, 1) := by decide +kernel
theorem d_M_better_6 : decode b_M_better 6 = .ok (.iload_n 1, 1) := by decide +kernel
theorem d_M_better_7 : decode b_M_better 7 = .ok (.iload_n 2, 1) := by decide +kernel
theorem d_M_better_8 : decode b_M_better 8 = .ok (.invokevirtual 87, 3) := by decide +kernel
theorem d_M_better_11 : decode b_M_better 11 = .ok (.ifCond .eq 12, 3) := by decide +kernel
theorem d_M_better_14 : decode b_M_better 14 = .ok (.aload_n 0, 1) := by decide +kernel
theorem d_M_better_15 : decode b_M_better 15 = .ok (.iload_n 1, 1) := by decide +kernel
theorem d_M_better_16 : decode b_M_better 16 = .ok (.iload_n 3, 1) := by decide +kernel
theorem d_M_better_17 : decode b_M_better 17 = .ok (.invokevirtual 87, 3) := by decide +kernel
theorem d_M_better_20 : decode b_M_better 20 = .ok (.ifCond .ne 5, 3) := by decide +kernel
theorem d_M_better_23 : decode b_M_better 23 = .ok (.iconst (-1), 1) := by decide +kernel
theorem d_M_better_24 : decode b_M_better 24 = .ok (.ireturn, 1) := by decide +kernel
theorem d_M_better_25 : decode b_M_better 25 = .ok (.aload_n 0, 1) := by decide +kernel
theorem d_M_better_26 : decode b_M_better 26 = .ok (.iload_n 1, 1) := by decide +kernel
theorem d_M_better_27 : decode b_M_better 27 = .ok (.invokevirtual 94, 3) := by decide +kernel
theorem d_M_better_30 : decode b_M_better 30 = .ok (.iload_n 2, 1) := by decide +kernel
theorem d_M_better_31 : decode b_M_better 31 = .ok (.iload_n 3, 1) := by decide +kernel
theorem d_M_better_32 : decode b_M_better 32 = .ok (.if_icmp .eq 17, 3) := by decide +kernel
theorem d_M_better_35 : decode b_M_better 35 = .ok (.aload_n 0, 1) := by decide +kernel
theorem d_M_better_36 : decode b_M_better 36 = .ok (.getfield 39, 3) := by decide +kernel
theorem d_M_better_39 : decode b_M_better 39 = .ok (.iload_n 3, 1) := by decide +kernel
theorem d_M_better_40 : decode b_M_better 40 = .ok (.iaload, 1) := by decide +kernel
theorem d_M_better_41 : decode b_M_better 41 = .ok (.iload_n 2, 1) := by decide +kernel
theorem d_M_better_42 : decode b_M_better 42 = .ok (.ishr, 1) := by decide +kernel
theorem d_M_better_43 : decode b_M_better 43 = .ok (.iconst 1, 1) := by decide +kernel
theorem d_M_better_44 : decode b_M_better 44 = .ok (.iand, 1) := by decide +kernel
theorem d_M_better_45 : decode b_M_better 45 = .ok (.iconst 1, 1) := by decide +kernel
theorem d_M_better_46 : decode b_M_better 46 = .ok (.if_icmp .ne 12, 3) := by decide +kernel
theorem d_M_better_49 : decode b_M_better 49 = .ok (.aload_n 0, 1) := by decide +kernel
theorem d_M_better_50 : decode b_M_better 50 = .ok (.iload_n 1, 1) := by decide +kernel
theorem d_M_better_51 : decode b_M_better 51 = .ok (.iload_n 3, 1) := by decide +kernel
theorem d_M_better_52 : decode b_M_better 52 = .ok (.iload_n 2, 1) := by decide +kernel
theorem d_M_better_53 : decode b_M_better 53 = .ok (.invokevirtual 127, 3) := by decide +kernel
theorem d_M_better_56 : decode b_M_better 56 = .ok (.iconst 0, 1) := by decide +kernel
theorem d_M_better_57 : decode b_M_better 57 = .ok (.ireturn, 1) := by decide +kernel
theorem d_M_better_58 : decode b_M_better 58 = .ok (.aload_n 0, 1) := by decide +kernel
theorem d_M_better_59 : decode b_M_better 59 = .ok (.getfield 20, 3) := by decide +kernel
theorem d_M_better_62 : decode b_M_better 62 = .ok (.iload_n 1, 1) := by decide +kernel
theorem d_M_better_63 : decode b_M_better 63 = .ok (.iaload, 1) := by decide +kernel
theorem d_M_better_64 : decode b_M_better 64 = .ok (.sipush 400, 3) := by decide +kernel
theorem d_M_better_67 : decode b_M_better 67 = .ok (.if_icmp .ne 6, 3) := by decide +kernel
theorem d_M_better_70 : decode b_M_better 70 = .ok (.bipush (-2), 2) := by decide +kernel
theorem d_M_better_72 : decode b_M_better 72 = .ok (.ireturn, 1) := by decide +kernel
theorem d_M_better_73 : decode b_M_better 73 = .ok (.sipush 400, 3) := by decide +kernel
theorem d_M_better_76 : decode b_M_better 76 = .ok (.iload_n 1, 1) := by decide +kernel
theorem d_M_better_77 : decode b_M_better 77 = .ok (.imul, 1) := by decide +kernel
theorem d_M_better_78 : decode b_M_better 78 = .ok (.aload_n 0, 1) := by decide +kernel
theorem d_M_better_79 : decode b_M_better 79 = .ok (.getfield 20, 3) := by decide +kernel
theorem d_M_better_82 : decode b_M_better 82 = .ok (.iload_n 1, 1) := by decide +kernel
theorem d_M_better_83 : decode b_M_better 83 = .ok (.iaload, 1) := by decide +kernel
theorem d_M_better_84 : decode b_M_better 84 = .ok (.iadd, 1) := by decide +kernel
theorem d_M_better_85 : decode b_M_better 85 = .ok (.istore 4, 2) := by decide +kernel
theorem d_M_better_87 : decode b_M_better 87 = .ok (.aload_n 0, 1) := by decide +kernel
theorem d_M_better_88 : decode b_M_better 88 = .ok (.getfield 23, 3) := by decide +kernel
theorem d_M_better_91 : decode b_M_better 91 = .ok (.iload 4, 2) := by decide +kernel
theorem d_M_better_93 : decode b_M_better 93 = .ok (.iload_n 2, 1) := by decide +kernel
theorem d_M_better_94 : decode b_M_better 94 = .ok (.iastore, 1) := by decide +kernel
theorem d_M_better_95 : decode b_M_better 95 = .ok (.aload_n 0, 1) := by decide +kernel
theorem d_M_better_96 : decode b_M_better 96 = .ok (.getfield 26, 3) := by decide +kernel
theorem d_M_better_99 : decode b_M_better 99 = .ok (.iload 4, 2) := by decide +kernel
theorem d_M_better_101 : decode b_M_better 101 = .ok (.iload_n 3, 1) := by decide +kernel
theorem d_M_better_102 : decode b_M_better 102 = .ok (.iastore, 1) := by decide +kernel
theorem d_M_better_103 : decode b_M_better 103 = .ok (.aload_n 0, 1) := by decide +kernel
theorem d_M_better_104 : decode b_M_better 104 = .ok (.getfield 29, 3) := by decide +kernel
theorem d_M_better_107 : decode b_M_better 107 = .ok (.iload 4, 2) := by decide +kernel
theorem d_M_better_109 : decode b_M_better 109 = .ok (.iconst 0, 1) := by decide +kernel
theorem d_M_better_110 : decode b_M_better 110 = .ok (.bastore, 1) := by decide +kernel
theorem d_M_better_111 : decode b_M_better 111 = .ok (.aload_n 0, 1) := by decide +kernel
theorem d_M_better_112 : decode b_M_better 112 = .ok (.getfield 20, 3) := by decide +kernel
theorem d_M_better_115 : decode b_M_better 115 = .ok (.iload_n 1, 1) := by decide +kernel
theorem d_M_better_116 : decode b_M_better 116 = .ok (.aload_n 0, 1) := by decide +kernel
theorem d_M_better_117 : decode b_M_better 117 = .ok (.getfield 20, 3) := by decide +kernel
theorem d_M_better_120 : decode b_M_better 120 = .ok (.iload_n 1, 1) := by decide +kernel
theorem d_M_better_121 : decode b_M_better 121 = .ok (.iaload, 1) := by decide +kernel
theorem d_M_better_122 : decode b_M_better 122 = .ok (.iconst 1, 1) := by decide +kernel
theorem d_M_better_123 : decode b_M_better 123 = .ok (.iadd, 1) := by decide +kernel
theorem d_M_better_124 : decode b_M_better 124 = .ok (.iastore, 1) := by decide +kernel
theorem d_M_better_125 : decode b_M_better 125 = .ok (.aload_n 0, 1) := by decide +kernel
theorem d_M_better_126 : decode b_M_better 126 = .ok (.iconst (-1), 1) := by decide +kernel
theorem d_M_better_127 : decode b_M_better 127 = .ok (.putfield 33, 3) := by decide +kernel
theorem d_M_better_130 : decode b_M_better 130 = .ok (.aload_n 0, 1) := by decide +kernel
theorem d_M_better_131 : decode b_M_better 131 = .ok (.getfield 20, 3) := by decide +kernel
theorem d_M_better_134 : decode b_M_better 134 = .ok (.iload_n 1, 1) := by decide +kernel
theorem d_M_better_135 : decode b_M_better 135 = .ok (.iaload, 1) := by decide +kernel
theorem d_M_better_136 : decode b_M_better 136 = .ok (.ireturn, 1) := by decide +kernel
def fm_M_better (p0 : Int32) (p1 : Int32) (p2 : Int32) (I0 : IS) : Option (Int32 × IS) :=
  bnd (sV I0 0 (0 : Int32)) (fun I1 => ob1 (fm_M_there p0 p1 I1) (fun x9 => if x9 = 0 then some ((-1 : Int32), I1) else ob1 (fm_M_there p0 p2 I1) (fun x19 => if x19 = 0 then some ((-1 : Int32), I1) else ob1 (fm_M_settle p0 I1) (fun I29 => if p1 = p2 then ob1 (fm_M_findWhy p0 p2 p1 I29) (fun I39 => some ((0 : Int32), I39)) else grd (inB p2 16) (if (((I29 9 p2.toNatClampNeg) >>> (p1 &&& 31)) &&& (1 : Int32)) = (1 : Int32) then ob1 (fm_M_findWhy p0 p2 p1 I29) (fun I115 => some ((0 : Int32), I115)) else grd (inB p0 12) (if (I29 3 p0.toNatClampNeg) = (400 : Int32) then some ((-2 : Int32), I29) else grd (inB p0 12) (bnd (((400 : Int32) * p0) + (I29 3 p0.toNatClampNeg)) (fun x58 => grd (inB x58 4800) (bnd (sI I29 4 x58.toNatClampNeg p1) (fun I65 => grd (inB x58 4800) (bnd (sI I65 5 x58.toNatClampNeg p2) (fun I75 => grd (inB x58 4800) (bnd (sI I75 6 x58.toNatClampNeg (vp_nar .boolean (0 : Int32))) (fun I85 => grd (inB p0 12) (grd (inB p0 12) (bnd (sI I85 3 p0.toNatClampNeg ((I85 3 p0.toNatClampNeg) + (1 : Int32))) (fun I97 => bnd (sV I97 7 (-1 : Int32)) (fun I105 => grd (inB p0 12) (some (I105 3 p0.toNatClampNeg, I105))))))))))))))))))))
set_option maxHeartbeats 4000000 in
set_option maxRecDepth 100000 in
theorem cm_M_better (l : Launch) (D : va_G) (ca : Nat → ClassId) (am : Nat → Nat) {p0 : Int32} {p1 : Int32} {p2 : Int32} {I0 : IS} {J0 : JS} {r : Int32 × IS} (hf : fm_M_better p0 p1 p2 I0 = some r) : CtI l y_M_better (Cond.code y_M_better b_M_better 5 (some .int) :: TB) { frames := 3, cells := 0, slots := 0, locals := 71 } [.ref (am 0), .int p0, .int p1, .int p2] D cls_all (tysC ca) NN (wM ca am I0 J0) (wM ca am r.2 J0) r.1 := by
  refine jd_metI (cc := b_M_better) (by decide) rfl (Nat.le_of_ble_eq_true rfl) (lv := [(0, .ref (am 0)), (1, .int p0), (2, .int p1), (3, .int p2)]) rfl ?_
  intro p e R s m args below meth c A Q ls cx hR hK hN hD0 hA hP hS hl hend
  have hx := cx.1
  have hb := cx.2.1
  have hml := cx.2.2.1
  have hown := cx.2.2.2.1
  have hts := cx.2.2.2.2
  have hD : ∀ I J, va_D A (wM ca am I J) := fun I J => jd_Dc hD0 rfl
  unfold fm_M_better at hf
  refine lv_aload_n hx hb d_M_better_0 rfl (lv_at hl 0 rfl) ?_
  refine lv_iconst (v := 0) hx hb d_M_better_1 (by decide) ?_
  obtain ⟨I1, e2, hf3⟩ := bnd_ex hf
  refine va_put (D := D) (ci := 6) (v := .int (0 : Int32)) (ty := .int) (C := R_M) (T := F_M) (N := 24) hx hb hts (fun w h => List.mem_cons_of_mem _ (uw_M w h)) ft_M tk_M n_M hown hK hP (hD I0 J0) hS 0 rfl rfl 0 (by decide) (hts _ (List.mem_cons_of_mem _ tb_600)) (fun _ h => h) rfl (by decide +kernel) rfl rfl (Nat.le_of_ble_eq_true rfl) d_M_better_2 (fun H4 L5 hp8 _ hS7 => ?_)
  have hP6 : va_P D cls_all (wM ca am I1 J0) H4 := by rw [e2]; exact hp8
  refine lv_aload_n hx hb d_M_better_5 rfl (lv_at hl 0 rfl) ?_
  refine lv_iload_n hx hb d_M_better_6 rfl (lv_at hl 1 rfl) ?_
  refine lv_iload_n hx hb d_M_better_7 rfl (lv_at hl 2 rfl) ?_
  obtain ⟨x9, hc10, hf11⟩ := ob1_ex hf3
  refine jd_ci (va_runV (As := [.int p0, .int p1]) (rest := []) cx (cm_M_there l D ca am hc10 H4.size) (cwV 2 hts (jd_gV tb_684 tb_685 tb_26 tb_47 tb_686) rfl rfl rfl ⟨rfl, by decide, by decide, rfl⟩ (by rw [hR]; decide)) ⟨jd_blind nWc, (va_recv hK hP6 (ci := 6) (q0 := 0) rfl rfl), (jd_pre (av := [.ref (am 0), .int p0, .int p1]) hP6 hK (hD I1 J0) (fun U h => nWm h hN))⟩ rfl rfl hl.1 rfl (lv_room (Nat.le_of_ble_eq_true rfl)) d_M_better_8 ⟨Nat.zero_le _, Nat.zero_le _⟩) hS7 (hD I1 J0) hA (fun H12 L13 hP14 hS15 => ?_)
  refine lv_if_eq (tgt := 23) hx hb d_M_better_11 rfl (fun h16 => ?_) (fun h16 => ?_)
  · have hf17 := ifp hf11 h16
    refine lv_iconst (v := -1) hx hb d_M_better_23 (by decide) ?_
    cases hf17
    exact hend H12 L13 24 ls hP14 hS15 d_M_better_24
  · have hf18 := ifn hf11 h16
    refine lv_aload_n hx hb d_M_better_14 rfl (lv_at hl 0 rfl) ?_
    refine lv_iload_n hx hb d_M_better_15 rfl (lv_at hl 1 rfl) ?_
    refine lv_iload_n hx hb d_M_better_16 rfl (lv_at hl 3 rfl) ?_
    obtain ⟨x19, hc20, hf21⟩ := ob1_ex hf18
    refine jd_ci (va_runV (As := [.int p0, .int p2]) (rest := []) cx (cm_M_there l D ca am hc20 H12.size) (cwV 2 hts (jd_gV tb_684 tb_685 tb_26 tb_47 tb_686) rfl rfl rfl ⟨rfl, by decide, by decide, rfl⟩ (by rw [hR]; decide)) ⟨jd_blind nWc, (va_recv hK hP14 (ci := 6) (q0 := 0) rfl rfl), (jd_pre (av := [.ref (am 0), .int p0, .int p2]) hP14 hK (hD I1 J0) (fun U h => nWm h hN))⟩ rfl rfl hl.1 rfl (lv_room (Nat.le_of_ble_eq_true rfl)) d_M_better_17 ⟨Nat.zero_le _, Nat.zero_le _⟩) hS15 (hD I1 J0) hA (fun H22 L23 hP24 hS25 => ?_)
    refine lv_if_ne (tgt := 25) hx hb d_M_better_20 rfl (fun h26 => ?_) (fun h26 => ?_)
    · have hf27 := ifn hf21 h26
      refine lv_aload_n hx hb d_M_better_25 rfl (lv_at hl 0 rfl) ?_
      refine lv_iload_n hx hb d_M_better_26 rfl (lv_at hl 1 rfl) ?_
      obtain ⟨I29, hc30, hf31⟩ := ob1_ex hf27
      refine jd_cv (va_runV (As := [.int p0]) (rest := []) cx (cm_M_settle l D ca am hc30 H22.size) (cwV 1 hts (jd_gV tb_687 tb_688 tb_27 tb_47 tb_689) rfl rfl rfl ⟨rfl, by decide, by decide, rfl⟩ (by rw [hR]; decide)) ⟨jd_blind nWc, (va_recv hK hP24 (ci := 6) (q0 := 0) rfl rfl), (jd_pre (av := [.ref (am 0), .int p0]) hP24 hK (hD I1 J0) (fun U h => nWm h hN))⟩ rfl rfl hl.1 rfl (lv_room (Nat.le_of_ble_eq_true rfl)) d_M_better_27 ⟨Nat.zero_le _, Nat.zero_le _⟩) hS25 (hD I1 J0) hA (fun H32 L33 hP34 hS35 => ?_)
      refine lv_iload_n hx hb d_M_better_30 rfl (lv_at hl 2 rfl) ?_
      refine lv_iload_n hx hb d_M_better_31 rfl (lv_at hl 3 rfl) ?_
      refine lv_icmp_eq (tgt := 49) hx hb d_M_better_32 rfl (fun h36 => ?_) (fun h36 => ?_)
      · have hf37 := ifp hf31 h36
        refine lv_aload_n hx hb d_M_better_49 rfl (lv_at hl 0 rfl) ?_
        refine lv_iload_n hx hb d_M_better_50 rfl (lv_at hl 1 rfl) ?_
        refine lv_iload_n hx hb d_M_better_51 rfl (lv_at hl 3 rfl) ?_
        refine lv_iload_n hx hb d_M_better_52 rfl (lv_at hl 2 rfl) ?_
        obtain ⟨I39, hc40, hf41⟩ := ob1_ex hf37
        refine jd_cv (va_runV (As := [.int p0, .int p2, .int p1]) (rest := []) cx (cm_M_findWhy l D ca am hc40 H32.size) (cwV 3 hts (jd_gV tb_693 tb_694 tb_29 tb_47 tb_695) rfl rfl rfl ⟨rfl, by decide, by decide, rfl⟩ (by rw [hR]; decide)) ⟨jd_blind nWc, (va_recv hK hP34 (ci := 6) (q0 := 0) rfl rfl), (jd_pre (av := [.ref (am 0), .int p0, .int p2, .int p1]) hP34 hK (hD I29 J0) (fun U h => nWm h hN))⟩ rfl rfl hl.1 rfl (lv_room (Nat.le_of_ble_eq_true rfl)) d_M_better_53 ⟨Nat.zero_le _, Nat.zero_le _⟩) hS35 (hD I29 J0) hA (fun H42 L43 hP44 hS45 => ?_)
        refine lv_iconst (v := 0) hx hb d_M_better_56 (by decide) ?_
        cases hf41
        exact hend H42 L43 57 ls hP44 hS45 d_M_better_57
      · have hf38 := ifn hf31 h36
        refine lv_aload_n hx hb d_M_better_35 rfl (lv_at hl 0 rfl) ?_
        refine va_get (D := D) (ci := 6) (v := .ref (am 7)) (C := R_M) (T := F_M) (N := 24) hx hb hts (fun w h => List.mem_cons_of_mem _ (uw_M w h)) hown hK hP34 0 rfl rfl 9 (by decide) (hts _ (List.mem_cons_of_mem _ tb_609)) (fun _ h => h) rfl d_M_better_36 ?_
        refine lv_iload_n hx hb d_M_better_39 rfl (lv_at hl 3 rfl) ?_
        obtain ⟨hg46, hf47⟩ := grd_ex hf38
        refine va_iald hx hb hK hP34 7 2 rfl rfl (inB_in hg46) d_M_better_40 ?_
        refine lv_iload_n hx hb d_M_better_41 rfl (lv_at hl 2 rfl) ?_
        refine lv_ishr hx hb d_M_better_42 ?_
        refine lv_iconst (v := 1) hx hb d_M_better_43 (by decide) ?_
        refine lv_iand hx hb d_M_better_44 ?_
        refine lv_iconst (v := 1) hx hb d_M_better_45 (by decide) ?_
        refine lv_icmp_ne (tgt := 58) hx hb d_M_better_46 rfl (fun h48 => ?_) (fun h48 => ?_)
        · have hf49 := ifn hf47 h48
          refine lv_aload_n hx hb d_M_better_58 rfl (lv_at hl 0 rfl) ?_
          refine va_get (D := D) (ci := 6) (v := .ref (am 3)) (C := R_M) (T := F_M) (N := 24) hx hb hts (fun w h => List.mem_cons_of_mem _ (uw_M w h)) hown hK hP34 0 rfl rfl 3 (by decide) (hts _ (List.mem_cons_of_mem _ tb_603)) (fun _ h => h) rfl d_M_better_59 ?_
          refine lv_iload_n hx hb d_M_better_62 rfl (lv_at hl 1 rfl) ?_
          obtain ⟨hg51, hf52⟩ := grd_ex hf49
          refine va_iald hx hb hK hP34 3 2 rfl rfl (inB_in hg51) d_M_better_63 ?_
          refine lv_sipush (v := 400) hx hb d_M_better_64 (by decide) ?_
          refine lv_icmp_ne (tgt := 73) hx hb d_M_better_67 rfl (fun h53 => ?_) (fun h53 => ?_)
          · have hf54 := ifn hf52 h53
            refine lv_sipush (v := 400) hx hb d_M_better_73 (by decide) ?_
            refine lv_iload_n hx hb d_M_better_76 rfl (lv_at hl 1 rfl) ?_
            refine lv_imul hx hb d_M_better_77 ?_
            refine lv_aload_n hx hb d_M_better_78 rfl (lv_at hl 0 rfl) ?_
            refine va_get (D := D) (ci := 6) (v := .ref (am 3)) (C := R_M) (T := F_M) (N := 24) hx hb hts (fun w h => List.mem_cons_of_mem _ (uw_M w h)) hown hK hP34 0 rfl rfl 3 (by decide) (hts _ (List.mem_cons_of_mem _ tb_603)) (fun _ h => h) rfl d_M_better_79 ?_
            refine lv_iload_n hx hb d_M_better_82 rfl (lv_at hl 1 rfl) ?_
            obtain ⟨hg56, hf57⟩ := grd_ex hf54
            refine va_iald hx hb hK hP34 3 2 rfl rfl (inB_in hg56) d_M_better_83 ?_
            refine lv_iadd hx hb d_M_better_84 ?_
            obtain ⟨x58, e59, hf60⟩ := bnd_ex hf57
            refine jd_tni e59 ?_
            refine lv_istore hx hb d_M_better_85 hl (by decide) (lv' := [(4, .int x58), (0, .ref (am 0)), (1, .int p0), (2, .int p1), (3, .int p2)]) rfl (fun ls61 hl62 => ?_)
            refine lv_aload_n hx hb d_M_better_87 rfl (lv_at hl62 1 rfl) ?_
            refine va_get (D := D) (ci := 6) (v := .ref (am 4)) (C := R_M) (T := F_M) (N := 24) hx hb hts (fun w h => List.mem_cons_of_mem _ (uw_M w h)) hown hK hP34 0 rfl rfl 4 (by decide) (hts _ (List.mem_cons_of_mem _ tb_604)) (fun _ h => h) rfl d_M_better_88 ?_
            refine lv_iload hx hb d_M_better_91 (lv_at hl62 0 rfl) ?_
            refine lv_iload_n hx hb d_M_better_93 rfl (lv_at hl62 3 rfl) ?_
            obtain ⟨hg63, hf64⟩ := grd_ex hf60
            obtain ⟨I65, e66, hf67⟩ := bnd_ex hf64
            refine va_iast hx hb hK hP34 (hD I29 J0) hS35 4 2 rfl rfl (inB_in hg63) d_M_better_94 (fun H68 L69 hp72 _ hS71 => ?_)
            have hP70 : va_P D cls_all (wM ca am I65 J0) H68 := by rw [e66]; exact hp72
            refine lv_aload_n hx hb d_M_better_95 rfl (lv_at hl62 1 rfl) ?_
            refine va_get (D := D) (ci := 6) (v := .ref (am 5)) (C := R_M) (T := F_M) (N := 24) hx hb hts (fun w h => List.mem_cons_of_mem _ (uw_M w h)) hown hK hP70 0 rfl rfl 5 (by decide) (hts _ (List.mem_cons_of_mem _ tb_605)) (fun _ h => h) rfl d_M_better_96 ?_
            refine lv_iload hx hb d_M_better_99 (lv_at hl62 0 rfl) ?_
            refine lv_iload_n hx hb d_M_better_101 rfl (lv_at hl62 4 rfl) ?_
            obtain ⟨hg73, hf74⟩ := grd_ex hf67
            obtain ⟨I75, e76, hf77⟩ := bnd_ex hf74
            refine va_iast hx hb hK hP70 (hD I65 J0) hS71 5 2 rfl rfl (inB_in hg73) d_M_better_102 (fun H78 L79 hp82 _ hS81 => ?_)
            have hP80 : va_P D cls_all (wM ca am I75 J0) H78 := by rw [e76]; exact hp82
            refine lv_aload_n hx hb d_M_better_103 rfl (lv_at hl62 1 rfl) ?_
            refine va_get (D := D) (ci := 6) (v := .ref (am 6)) (C := R_M) (T := F_M) (N := 24) hx hb hts (fun w h => List.mem_cons_of_mem _ (uw_M w h)) hown hK hP80 0 rfl rfl 6 (by decide) (hts _ (List.mem_cons_of_mem _ tb_606)) (fun _ h => h) rfl d_M_better_104 ?_
            refine lv_iload hx hb d_M_better_107 (lv_at hl62 0 rfl) ?_
            refine lv_iconst (v := 0) hx hb d_M_better_109 (by decide) ?_
            obtain ⟨hg83, hf84⟩ := grd_ex hf77
            obtain ⟨I85, e86, hf87⟩ := bnd_ex hf84
            refine va_zast hx hb hK hP80 (hD I75 J0) hS81 6 1 rfl rfl (inB_in hg83) d_M_better_110 (fun H88 L89 hp92 _ hS91 => ?_)
            have hP90 : va_P D cls_all (wM ca am I85 J0) H88 := by rw [e86]; exact hp92
            refine lv_aload_n hx hb d_M_better_111 rfl (lv_at hl62 1 rfl) ?_
            refine va_get (D := D) (ci := 6) (v := .ref (am 3)) (C := R_M) (T := F_M) (N := 24) hx hb hts (fun w h => List.mem_cons_of_mem _ (uw_M w h)) hown hK hP90 0 rfl rfl 3 (by decide) (hts _ (List.mem_cons_of_mem _ tb_603)) (fun _ h => h) rfl d_M_better_112 ?_
            refine lv_iload_n hx hb d_M_better_115 rfl (lv_at hl62 2 rfl) ?_
            refine lv_aload_n hx hb d_M_better_116 rfl (lv_at hl62 1 rfl) ?_
            refine va_get (D := D) (ci := 6) (v := .ref (am 3)) (C := R_M) (T := F_M) (N := 24) hx hb hts (fun w h => List.mem_cons_of_mem _ (uw_M w h)) hown hK hP90 0 rfl rfl 3 (by decide) (hts _ (List.mem_cons_of_mem _ tb_603)) (fun _ h => h) rfl d_M_better_117 ?_
            refine lv_iload_n hx hb d_M_better_120 rfl (lv_at hl62 2 rfl) ?_
            obtain ⟨hg93, hf94⟩ := grd_ex hf87
            refine va_iald hx hb hK hP90 3 2 rfl rfl (inB_in hg93) d_M_better_121 ?_
            refine lv_iconst (v := 1) hx hb d_M_better_122 (by decide) ?_
            refine lv_iadd hx hb d_M_better_123 ?_
            obtain ⟨hg95, hf96⟩ := grd_ex hf94
            obtain ⟨I97, e98, hf99⟩ := bnd_ex hf96
            refine va_iast hx hb hK hP90 (hD I85 J0) hS91 3 2 rfl rfl (inB_in hg95) d_M_better_124 (fun H100 L101 hp104 _ hS103 => ?_)
            have hP102 : va_P D cls_all (wM ca am I97 J0) H100 := by rw [e98]; exact hp104
            refine lv_aload_n hx hb d_M_better_125 rfl (lv_at hl62 1 rfl) ?_
            refine lv_iconst (v := -1) hx hb d_M_better_126 (by decide) ?_
            obtain ⟨I105, e106, hf107⟩ := bnd_ex hf99
            refine va_put (D := D) (ci := 6) (v := .int (-1 : Int32)) (ty := .int) (C := R_M) (T := F_M) (N := 24) hx hb hts (fun w h => List.mem_cons_of_mem _ (uw_M w h)) ft_M tk_M n_M hown hK hP102 (hD I97 J0) hS103 0 rfl rfl 7 (by decide) (hts _ (List.mem_cons_of_mem _ tb_607)) (fun _ h => h) rfl (by decide +kernel) rfl rfl (Nat.le_of_ble_eq_true rfl) d_M_better_127 (fun H108 L109 hp112 _ hS111 => ?_)
            have hP110 : va_P D cls_all (wM ca am I105 J0) H108 := by rw [e106]; exact hp112
            refine lv_aload_n hx hb d_M_better_130 rfl (lv_at hl62 1 rfl) ?_
            refine va_get (D := D) (ci := 6) (v := .ref (am 3)) (C := R_M) (T := F_M) (N := 24) hx hb hts (fun w h => List.mem_cons_of_mem _ (uw_M w h)) hown hK hP110 0 rfl rfl 3 (by decide) (hts _ (List.mem_cons_of_mem _ tb_603)) (fun _ h => h) rfl d_M_better_131 ?_
            refine lv_iload_n hx hb d_M_better_134 rfl (lv_at hl62 2 rfl) ?_
            obtain ⟨hg113, hf114⟩ := grd_ex hf107
            refine va_iald hx hb hK hP110 3 2 rfl rfl (inB_in hg113) d_M_better_135 ?_
            cases hf114
            exact hend H108 L109 136 ls61 hP110 hS111 d_M_better_136
          · have hf55 := ifp hf52 h53
            refine lv_bipush (v := -2) hx hb d_M_better_70 (by decide) ?_
            cases hf55
            exact hend H32 L33 72 ls hP34 hS35 d_M_better_72
        · have hf50 := ifp hf47 h48
          refine lv_aload_n hx hb d_M_better_49 rfl (lv_at hl 0 rfl) ?_
          refine lv_iload_n hx hb d_M_better_50 rfl (lv_at hl 1 rfl) ?_
          refine lv_iload_n hx hb d_M_better_51 rfl (lv_at hl 3 rfl) ?_
          refine lv_iload_n hx hb d_M_better_52 rfl (lv_at hl 2 rfl) ?_
          obtain ⟨I115, hc116, hf117⟩ := ob1_ex hf50
          refine jd_cv (va_runV (As := [.int p0, .int p2, .int p1]) (rest := []) cx (cm_M_findWhy l D ca am hc116 H32.size) (cwV 3 hts (jd_gV tb_693 tb_694 tb_29 tb_47 tb_695) rfl rfl rfl ⟨rfl, by decide, by decide, rfl⟩ (by rw [hR]; decide)) ⟨jd_blind nWc, (va_recv hK hP34 (ci := 6) (q0 := 0) rfl rfl), (jd_pre (av := [.ref (am 0), .int p0, .int p2, .int p1]) hP34 hK (hD I29 J0) (fun U h => nWm h hN))⟩ rfl rfl hl.1 rfl (lv_room (Nat.le_of_ble_eq_true rfl)) d_M_better_53 ⟨Nat.zero_le _, Nat.zero_le _⟩) hS35 (hD I29 J0) hA (fun H118 L119 hP120 hS121 => ?_)
          refine lv_iconst (v := 0) hx hb d_M_better_56 (by decide) ?_
          cases hf117
          exact hend H118 L119 57 ls hP120 hS121 d_M_better_57
    · have hf28 := ifp hf21 h26
      refine lv_iconst (v := -1) hx hb d_M_better_23 (by decide) ?_
      cases hf28
      exact hend H22 L23 24 ls hP24 hS25 d_M_better_24
theorem d_M_whyLast_0 : decode b_M_whyLast 0 = .ok (.aload_n 0, 1) := by decide +kernel
theorem d_M_whyLast_1 : decode b_M_whyLast 1 = .ok (.iconst 0, 1) := by decide +kernel
theorem d_M_whyLast_2 : decode b_M_whyLast 2 = .ok (.putfield 7, 3) := by decide +kernel
theorem d_M_whyLast_5 : decode b_M_whyLast 5 = .ok (.aload_n 0, 1) := by decide +kernel
theorem d_M_whyLast_6 : decode b_M_whyLast 6 = .ok (.getfield 57, 3) := by decide +kernel
theorem d_M_whyLast_9 : decode b_M_whyLast 9 = .ok (.ireturn, 1) := by decide +kernel
def fm_M_whyLast (I0 : IS) : Option (Int32 × IS) :=
  bnd (sV I0 0 (0 : Int32)) (fun I1 => some (I1 12 0, I1))
set_option maxHeartbeats 4000000 in
set_option maxRecDepth 100000 in
theorem cm_M_whyLast (l : Launch) (D : va_G) (ca : Nat → ClassId) (am : Nat → Nat) {I0 : IS} {J0 : JS} {r : Int32 × IS} (hf : fm_M_whyLast I0 = some r) : CtI l y_M_whyLast (Cond.code y_M_whyLast b_M_whyLast 1 (some .int) :: TB) { frames := 0, cells := 0, slots := 0, locals := 0 } [.ref (am 0)] D cls_all (tysC ca) NN (wM ca am I0 J0) (wM ca am r.2 J0) r.1 := by
  refine jd_metI (cc := b_M_whyLast) (by decide) rfl (Nat.le_of_ble_eq_true rfl) (lv := [(0, .ref (am 0))]) rfl ?_
  intro p e R s m args below meth c A Q ls cx hR hK hN hD0 hA hP hS hl hend
  have hx := cx.1
  have hb := cx.2.1
  have hml := cx.2.2.1
  have hown := cx.2.2.2.1
  have hts := cx.2.2.2.2
  have hD : ∀ I J, va_D A (wM ca am I J) := fun I J => jd_Dc hD0 rfl
  unfold fm_M_whyLast at hf
  refine lv_aload_n hx hb d_M_whyLast_0 rfl (lv_at hl 0 rfl) ?_
  refine lv_iconst (v := 0) hx hb d_M_whyLast_1 (by decide) ?_
  obtain ⟨I1, e2, hf3⟩ := bnd_ex hf
  refine va_put (D := D) (ci := 6) (v := .int (0 : Int32)) (ty := .int) (C := R_M) (T := F_M) (N := 24) hx hb hts (fun w h => List.mem_cons_of_mem _ (uw_M w h)) ft_M tk_M n_M hown hK hP (hD I0 J0) hS 0 rfl rfl 0 (by decide) (hts _ (List.mem_cons_of_mem _ tb_600)) (fun _ h => h) rfl (by decide +kernel) rfl rfl (Nat.le_of_ble_eq_true rfl) d_M_whyLast_2 (fun H4 L5 hp8 _ hS7 => ?_)
  have hP6 : va_P D cls_all (wM ca am I1 J0) H4 := by rw [e2]; exact hp8
  refine lv_aload_n hx hb d_M_whyLast_5 rfl (lv_at hl 0 rfl) ?_
  refine va_get (D := D) (ci := 6) (v := .int (I1 12 0)) (C := R_M) (T := F_M) (N := 24) hx hb hts (fun w h => List.mem_cons_of_mem _ (uw_M w h)) hown hK hP6 0 rfl rfl 14 (by decide) (hts _ (List.mem_cons_of_mem _ tb_614)) (fun _ h => h) rfl d_M_whyLast_6 ?_
  cases hf3
  exact hend H4 L5 9 ls hP6 hS7 d_M_whyLast_9
theorem d_M_why_0 : decode b_M_why 0 = .ok (.aload_n 0, 1) := by decide +kernel
theorem d_M_why_1 : decode b_M_why 1 = .ok (.iconst 0, 1) := by decide +kernel
theorem d_M_why_2 : decode b_M_why 2 = .ok (.putfield 7, 3) := by decide +kernel
theorem d_M_why_5 : decode b_M_why 5 = .ok (.iload_n 1, 1) := by decide +kernel
theorem d_M_why_6 : decode b_M_why 6 = .ok (.ifCond .lt 11, 3) := by decide +kernel
theorem d_M_why_9 : decode b_M_why 9 = .ok (.iload_n 1, 1) := by decide +kernel
theorem d_M_why_10 : decode b_M_why 10 = .ok (.aload_n 0, 1) := by decide +kernel
theorem d_M_why_11 : decode b_M_why 11 = .ok (.getfield 57, 3) := by decide +kernel
theorem d_M_why_14 : decode b_M_why 14 = .ok (.if_icmp .lt 7, 3) := by decide +kernel
theorem d_M_why_17 : decode b_M_why 17 = .ok (.iconst (-1), 1) := by decide +kernel
theorem d_M_why_18 : decode b_M_why 18 = .ok (.goto 9, 3) := by decide +kernel
theorem d_M_why_21 : decode b_M_why 21 = .ok (.aload_n 0, 1) := by decide +kernel
theorem d_M_why_22 : decode b_M_why 22 = .ok (.getfield 60, 3) := by decide +kernel
theorem d_M_why_25 : decode b_M_why 25 = .ok (.iload_n 1, 1) := by decide +kernel
theorem d_M_why_26 : decode b_M_why 26 = .ok (.iaload, 1) := by decide +kernel
theorem d_M_why_27 : decode b_M_why 27 = .ok (.ireturn, 1) := by decide +kernel
def fm_M_why (p0 : Int32) (I0 : IS) : Option (Int32 × IS) :=
  bnd (sV I0 0 (0 : Int32)) (fun I1 => if p0 < 0 then some ((-1 : Int32), I1) else if p0 < (I1 12 0) then grd (inB p0 16) (some (I1 13 p0.toNatClampNeg, I1)) else some ((-1 : Int32), I1))
set_option maxHeartbeats 4000000 in
set_option maxRecDepth 100000 in
theorem cm_M_why (l : Launch) (D : va_G) (ca : Nat → ClassId) (am : Nat → Nat) {p0 : Int32} {I0 : IS} {J0 : JS} {r : Int32 × IS} (hf : fm_M_why p0 I0 = some r) : CtI l y_M_why (Cond.code y_M_why b_M_why 2 (some .int) :: TB) { frames := 0, cells := 0, slots := 0, locals := 0 } [.ref (am 0), .int p0] D cls_all (tysC ca) NN (wM ca am I0 J0) (wM ca am r.2 J0) r.1 := by
  refine jd_metI (cc := b_M_why) (by decide) rfl (Nat.le_of_ble_eq_true rfl) (lv := [(0, .ref (am 0)), (1, .int p0)]) rfl ?_
  intro p e R s m args below meth c A Q ls cx hR hK hN hD0 hA hP hS hl hend
  have hx := cx.1
  have hb := cx.2.1
  have hml := cx.2.2.1
  have hown := cx.2.2.2.1
  have hts := cx.2.2.2.2
  have hD : ∀ I J, va_D A (wM ca am I J) := fun I J => jd_Dc hD0 rfl
  unfold fm_M_why at hf
  refine lv_aload_n hx hb d_M_why_0 rfl (lv_at hl 0 rfl) ?_
  refine lv_iconst (v := 0) hx hb d_M_why_1 (by decide) ?_
  obtain ⟨I1, e2, hf3⟩ := bnd_ex hf
  refine va_put (D := D) (ci := 6) (v := .int (0 : Int32)) (ty := .int) (C := R_M) (T := F_M) (N := 24) hx hb hts (fun w h => List.mem_cons_of_mem _ (uw_M w h)) ft_M tk_M n_M hown hK hP (hD I0 J0) hS 0 rfl rfl 0 (by decide) (hts _ (List.mem_cons_of_mem _ tb_600)) (fun _ h => h) rfl (by decide +kernel) rfl rfl (Nat.le_of_ble_eq_true rfl) d_M_why_2 (fun H4 L5 hp8 _ hS7 => ?_)
  have hP6 : va_P D cls_all (wM ca am I1 J0) H4 := by rw [e2]; exact hp8
  refine lv_iload_n hx hb d_M_why_5 rfl (lv_at hl 1 rfl) ?_
  refine lv_if_lt (tgt := 17) hx hb d_M_why_6 rfl (fun h9 => ?_) (fun h9 => ?_)
  · have hf10 := ifp hf3 h9
    refine lv_iconst (v := -1) hx hb d_M_why_17 (by decide) ?_
    refine lv_goto (tgt := 27) hx hb d_M_why_18 rfl ?_
    cases hf10
    exact hend H4 L5 27 ls hP6 hS7 d_M_why_27
  · have hf11 := ifn hf3 h9
    refine lv_iload_n hx hb d_M_why_9 rfl (lv_at hl 1 rfl) ?_
    refine lv_aload_n hx hb d_M_why_10 rfl (lv_at hl 0 rfl) ?_
    refine va_get (D := D) (ci := 6) (v := .int (I1 12 0)) (C := R_M) (T := F_M) (N := 24) hx hb hts (fun w h => List.mem_cons_of_mem _ (uw_M w h)) hown hK hP6 0 rfl rfl 14 (by decide) (hts _ (List.mem_cons_of_mem _ tb_614)) (fun _ h => h) rfl d_M_why_11 ?_
    refine lv_icmp_lt (tgt := 21) hx hb d_M_why_14 rfl (fun h12 => ?_) (fun h12 => ?_)
    · have hf13 := ifp hf11 h12
      refine lv_aload_n hx hb d_M_why_21 rfl (lv_at hl 0 rfl) ?_
      refine va_get (D := D) (ci := 6) (v := .ref (am 11)) (C := R_M) (T := F_M) (N := 24) hx hb hts (fun w h => List.mem_cons_of_mem _ (uw_M w h)) hown hK hP6 0 rfl rfl 15 (by decide) (hts _ (List.mem_cons_of_mem _ tb_615)) (fun _ h => h) rfl d_M_why_22 ?_
      refine lv_iload_n hx hb d_M_why_25 rfl (lv_at hl 1 rfl) ?_
      obtain ⟨hg15, hf16⟩ := grd_ex hf13
      refine va_iald hx hb hK hP6 11 2 rfl rfl (inB_in hg15) d_M_why_26 ?_
      cases hf16
      exact hend H4 L5 27 ls hP6 hS7 d_M_why_27
    · have hf14 := ifn hf11 h12
      refine lv_iconst (v := -1) hx hb d_M_why_17 (by decide) ?_
      refine lv_goto (tgt := 27) hx hb d_M_why_18 rfl ?_
      cases hf14
      exact hend H4 L5 27 ls hP6 hS7 d_M_why_27
theorem d_M_withdraw_0 : decode b_M_withdraw 0 = .ok (.aload_n 0, 1) := by decide +kernel
theorem d_M_withdraw_1 : decode b_M_withdraw 1 = .ok (.iconst 0, 1) := by decide +kernel
theorem d_M_withdraw_2 : decode b_M_withdraw 2 = .ok (.putfield 7, 3) := by decide +kernel
theorem d_M_withdraw_5 : decode b_M_withdraw 5 = .ok (.aload_n 0, 1) := by decide +kernel
theorem d_M_withdraw_6 : decode b_M_withdraw 6 = .ok (.iload_n 1, 1) := by decide +kernel
theorem d_M_withdraw_7 : decode b_M_withdraw 7 = .ok (.invokevirtual 131, 3) := by decide +kernel
theorem d_M_withdraw_10 : decode b_M_withdraw 10 = .ok (.ifCond .eq 35, 3) := by decide +kernel
theorem d_M_withdraw_13 : decode b_M_withdraw 13 = .ok (.iload_n 2, 1) := by decide +kernel
theorem d_M_withdraw_14 : decode b_M_withdraw 14 = .ok (.iconst 1, 1) := by decide +kernel
theorem d_M_withdraw_15 : decode b_M_withdraw 15 = .ok (.if_icmp .lt 30, 3) := by decide +kernel
theorem d_M_withdraw_18 : decode b_M_withdraw 18 = .ok (.iload_n 2, 1) := by decide +kernel
theorem d_M_withdraw_19 : decode b_M_withdraw 19 = .ok (.aload_n 0, 1) := by decide +kernel
theorem d_M_withdraw_20 : decode b_M_withdraw 20 = .ok (.getfield 20, 3) := by decide +kernel
theorem d_M_withdraw_23 : decode b_M_withdraw 23 = .ok (.iload_n 1, 1) := by decide +kernel
theorem d_M_withdraw_24 : decode b_M_withdraw 24 = .ok (.iaload, 1) := by decide +kernel
theorem d_M_withdraw_25 : decode b_M_withdraw 25 = .ok (.if_icmp .gt 20, 3) := by decide +kernel
theorem d_M_withdraw_28 : decode b_M_withdraw 28 = .ok (.aload_n 0, 1) := by decide +kernel
theorem d_M_withdraw_29 : decode b_M_withdraw 29 = .ok (.getfield 29, 3) := by decide +kernel
theorem d_M_withdraw_32 : decode b_M_withdraw 32 = .ok (.sipush 400, 3) := by decide +kernel
theorem d_M_withdraw_35 : decode b_M_withdraw 35 = .ok (.iload_n 1, 1) := by decide +kernel
theorem d_M_withdraw_36 : decode b_M_withdraw 36 = .ok (.imul, 1) := by decide +kernel
theorem d_M_withdraw_37 : decode b_M_withdraw 37 = .ok (.iload_n 2, 1) := by decide +kernel
theorem d_M_withdraw_38 : decode b_M_withdraw 38 = .ok (.iadd, 1) := by decide +kernel
theorem d_M_withdraw_39 : decode b_M_withdraw 39 = .ok (.iconst 1, 1) := by decide +kernel
theorem d_M_withdraw_40 : decode b_M_withdraw 40 = .ok (.isub, 1) := by decide +kernel
theorem d_M_withdraw_41 : decode b_M_withdraw 41 = .ok (.baload, 1) := by decide +kernel
theorem d_M_withdraw_42 : decode b_M_withdraw 42 = .ok (.ifCond .eq 5, 3) := by decide +kernel
theorem d_M_withdraw_45 : decode b_M_withdraw 45 = .ok (.iconst 0, 1) := by decide +kernel
theorem d_M_withdraw_46 : decode b_M_withdraw 46 = .ok (.ireturn, 1) := by decide +kernel
theorem d_M_withdraw_47 : decode b_M_withdraw 47 = .ok (.aload_n 0, 1) := by decide +kernel
theorem d_M_withdraw_48 : decode b_M_withdraw 48 = .ok (.getfield 29, 3) := by decide +kernel
theorem d_M_withdraw_51 : decode b_M_withdraw 51 = .ok (.sipush 400, 3) := by decide +kernel
theorem d_M_withdraw_54 : decode b_M_withdraw 54 = .ok (.iload_n 1, 1) := by decide +kernel
theorem d_M_withdraw_55 : decode b_M_withdraw 55 = .ok (.imul, 1) := by decide +kernel
theorem d_M_withdraw_56 : decode b_M_withdraw 56 = .ok (.iload_n 2, 1) := by decide +kernel
theorem d_M_withdraw_57 : decode b_M_withdraw 57 = .ok (.iadd, 1) := by decide +kernel
theorem d_M_withdraw_58 : decode b_M_withdraw 58 = .ok (.iconst 1, 1) := by decide +kernel
theorem d_M_withdraw_59 : decode b_M_withdraw 59 = .ok (.isub, 1) := by decide +kernel
theorem d_M_withdraw_60 : decode b_M_withdraw 60 = .ok (.iconst 1, 1) := by decide +kernel
theorem d_M_withdraw_61 : decode b_M_withdraw 61 = .ok (.bastore, 1) := by decide +kernel
theorem d_M_withdraw_62 : decode b_M_withdraw 62 = .ok (.aload_n 0, 1) := by decide +kernel
theorem d_M_withdraw_63 : decode b_M_withdraw 63 = .ok (.iconst (-1), 1) := by decide +kernel
theorem d_M_withdraw_64 : decode b_M_withdraw 64 = .ok (.putfield 33, 3) := by decide +kernel
theorem d_M_withdraw_67 : decode b_M_withdraw 67 = .ok (.iconst 1, 1) := by decide +kernel
theorem d_M_withdraw_68 : decode b_M_withdraw 68 = .ok (.ireturn, 1) := by decide +kernel
def fm_M_withdraw (p0 : Int32) (p1 : Int32) (I0 : IS) : Option (Int32 × IS) :=
  bnd (sV I0 0 (0 : Int32)) (fun I1 => ob1 (fm_M_isHeat p0 I1) (fun x9 => if x9 = 0 then some ((0 : Int32), I1) else if p1 < (1 : Int32) then some ((0 : Int32), I1) else grd (inB p0 12) (if (I1 3 p0.toNatClampNeg) < p1 then some ((0 : Int32), I1) else grd (inB ((((400 : Int32) * p0) + p1) - (1 : Int32)) 4800) (if (I1 6 ((((400 : Int32) * p0) + p1) - (1 : Int32)).toNatClampNeg) = 0 then grd (inB ((((400 : Int32) * p0) + p1) - (1 : Int32)) 4800) (bnd (sI I1 6 ((((400 : Int32) * p0) + p1) - (1 : Int32)).toNatClampNeg (vp_nar .boolean (1 : Int32))) (fun I34 => bnd (sV I34 7 (-1 : Int32)) (fun I42 => some ((1 : Int32), I42)))) else some ((0 : Int32), I1)))))
set_option maxHeartbeats 4000000 in
set_option maxRecDepth 100000 in
theorem cm_M_withdraw (l : Launch) (D : va_G) (ca : Nat → ClassId) (am : Nat → Nat) {p0 : Int32} {p1 : Int32} {I0 : IS} {J0 : JS} {r : Int32 × IS} (hf : fm_M_withdraw p0 p1 I0 = some r) : CtI l y_M_withdraw (Cond.code y_M_withdraw b_M_withdraw 3 (some .boolean) :: TB) { frames := 1, cells := 0, slots := 0, locals := 21 } [.ref (am 0), .int p0, .int p1] D cls_all (tysC ca) NN (wM ca am I0 J0) (wM ca am r.2 J0) r.1 := by
  refine jd_metZ (cc := b_M_withdraw) (by decide) rfl (Nat.le_of_ble_eq_true rfl) (lv := [(0, .ref (am 0)), (1, .int p0), (2, .int p1)]) rfl ?_
  intro p e R s m args below meth c A Q ls cx hR hK hN hD0 hA hP hS hl hend
  have hx := cx.1
  have hb := cx.2.1
  have hml := cx.2.2.1
  have hown := cx.2.2.2.1
  have hts := cx.2.2.2.2
  have hD : ∀ I J, va_D A (wM ca am I J) := fun I J => jd_Dc hD0 rfl
  unfold fm_M_withdraw at hf
  refine lv_aload_n hx hb d_M_withdraw_0 rfl (lv_at hl 0 rfl) ?_
  refine lv_iconst (v := 0) hx hb d_M_withdraw_1 (by decide) ?_
  obtain ⟨I1, e2, hf3⟩ := bnd_ex hf
  refine va_put (D := D) (ci := 6) (v := .int (0 : Int32)) (ty := .int) (C := R_M) (T := F_M) (N := 24) hx hb hts (fun w h => List.mem_cons_of_mem _ (uw_M w h)) ft_M tk_M n_M hown hK hP (hD I0 J0) hS 0 rfl rfl 0 (by decide) (hts _ (List.mem_cons_of_mem _ tb_600)) (fun _ h => h) rfl (by decide +kernel) rfl rfl (Nat.le_of_ble_eq_true rfl) d_M_withdraw_2 (fun H4 L5 hp8 _ hS7 => ?_)
  have hP6 : va_P D cls_all (wM ca am I1 J0) H4 := by rw [e2]; exact hp8
  refine lv_aload_n hx hb d_M_withdraw_5 rfl (lv_at hl 0 rfl) ?_
  refine lv_iload_n hx hb d_M_withdraw_6 rfl (lv_at hl 1 rfl) ?_
  obtain ⟨x9, hc10, hf11⟩ := ob1_ex hf3
  refine jd_ci (va_runV (As := [.int p0]) (rest := []) cx (cm_M_isHeat l D ca am hc10 H4.size) (cwV 1 hts (jd_gV tb_708 tb_709 tb_30 tb_47 tb_710) rfl rfl rfl ⟨rfl, by decide, by decide, rfl⟩ (by rw [hR]; decide)) ⟨jd_blind nWc, (va_recv hK hP6 (ci := 6) (q0 := 0) rfl rfl), (jd_pre (av := [.ref (am 0), .int p0]) hP6 hK (hD I1 J0) (fun U h => nWm h hN))⟩ rfl rfl hl.1 rfl (lv_room (Nat.le_of_ble_eq_true rfl)) d_M_withdraw_7 ⟨Nat.zero_le _, Nat.zero_le _⟩) hS7 (hD I1 J0) hA (fun H12 L13 hP14 hS15 => ?_)
  refine lv_if_eq (tgt := 45) hx hb d_M_withdraw_10 rfl (fun h16 => ?_) (fun h16 => ?_)
  · have hf17 := ifp hf11 h16
    refine lv_iconst (v := 0) hx hb d_M_withdraw_45 (by decide) ?_
    cases hf17
    exact hend H12 L13 46 ls (show narrow .boolean (.int (0 : Int32)) = .int (0 : Int32) from rfl) hP14 hS15 d_M_withdraw_46
  · have hf18 := ifn hf11 h16
    refine lv_iload_n hx hb d_M_withdraw_13 rfl (lv_at hl 2 rfl) ?_
    refine lv_iconst (v := 1) hx hb d_M_withdraw_14 (by decide) ?_
    refine lv_icmp_lt (tgt := 45) hx hb d_M_withdraw_15 rfl (fun h19 => ?_) (fun h19 => ?_)
    · have hf20 := ifp hf18 h19
      refine lv_iconst (v := 0) hx hb d_M_withdraw_45 (by decide) ?_
      cases hf20
      exact hend H12 L13 46 ls (show narrow .boolean (.int (0 : Int32)) = .int (0 : Int32) from rfl) hP14 hS15 d_M_withdraw_46
    · have hf21 := ifn hf18 h19
      refine lv_iload_n hx hb d_M_withdraw_18 rfl (lv_at hl 2 rfl) ?_
      refine lv_aload_n hx hb d_M_withdraw_19 rfl (lv_at hl 0 rfl) ?_
      refine va_get (D := D) (ci := 6) (v := .ref (am 3)) (C := R_M) (T := F_M) (N := 24) hx hb hts (fun w h => List.mem_cons_of_mem _ (uw_M w h)) hown hK hP14 0 rfl rfl 3 (by decide) (hts _ (List.mem_cons_of_mem _ tb_603)) (fun _ h => h) rfl d_M_withdraw_20 ?_
      refine lv_iload_n hx hb d_M_withdraw_23 rfl (lv_at hl 1 rfl) ?_
      obtain ⟨hg22, hf23⟩ := grd_ex hf21
      refine va_iald hx hb hK hP14 3 2 rfl rfl (inB_in hg22) d_M_withdraw_24 ?_
      refine lv_icmp_gt (tgt := 45) hx hb d_M_withdraw_25 rfl (fun h24 => ?_) (fun h24 => ?_)
      · have hf25 := ifp hf23 h24
        refine lv_iconst (v := 0) hx hb d_M_withdraw_45 (by decide) ?_
        cases hf25
        exact hend H12 L13 46 ls (show narrow .boolean (.int (0 : Int32)) = .int (0 : Int32) from rfl) hP14 hS15 d_M_withdraw_46
      · have hf26 := ifn hf23 h24
        refine lv_aload_n hx hb d_M_withdraw_28 rfl (lv_at hl 0 rfl) ?_
        refine va_get (D := D) (ci := 6) (v := .ref (am 6)) (C := R_M) (T := F_M) (N := 24) hx hb hts (fun w h => List.mem_cons_of_mem _ (uw_M w h)) hown hK hP14 0 rfl rfl 6 (by decide) (hts _ (List.mem_cons_of_mem _ tb_606)) (fun _ h => h) rfl d_M_withdraw_29 ?_
        refine lv_sipush (v := 400) hx hb d_M_withdraw_32 (by decide) ?_
        refine lv_iload_n hx hb d_M_withdraw_35 rfl (lv_at hl 1 rfl) ?_
        refine lv_imul hx hb d_M_withdraw_36 ?_
        refine lv_iload_n hx hb d_M_withdraw_37 rfl (lv_at hl 2 rfl) ?_
        refine lv_iadd hx hb d_M_withdraw_38 ?_
        refine lv_iconst (v := 1) hx hb d_M_withdraw_39 (by decide) ?_
        refine lv_isub hx hb d_M_withdraw_40 ?_
        obtain ⟨hg27, hf28⟩ := grd_ex hf26
        refine va_zald hx hb hK hP14 6 1 rfl rfl (inB_in hg27) d_M_withdraw_41 ?_
        refine lv_if_eq (tgt := 47) hx hb d_M_withdraw_42 rfl (fun h29 => ?_) (fun h29 => ?_)
        · have hf30 := ifp hf28 h29
          refine lv_aload_n hx hb d_M_withdraw_47 rfl (lv_at hl 0 rfl) ?_
          refine va_get (D := D) (ci := 6) (v := .ref (am 6)) (C := R_M) (T := F_M) (N := 24) hx hb hts (fun w h => List.mem_cons_of_mem _ (uw_M w h)) hown hK hP14 0 rfl rfl 6 (by decide) (hts _ (List.mem_cons_of_mem _ tb_606)) (fun _ h => h) rfl d_M_withdraw_48 ?_
          refine lv_sipush (v := 400) hx hb d_M_withdraw_51 (by decide) ?_
          refine lv_iload_n hx hb d_M_withdraw_54 rfl (lv_at hl 1 rfl) ?_
          refine lv_imul hx hb d_M_withdraw_55 ?_
          refine lv_iload_n hx hb d_M_withdraw_56 rfl (lv_at hl 2 rfl) ?_
          refine lv_iadd hx hb d_M_withdraw_57 ?_
          refine lv_iconst (v := 1) hx hb d_M_withdraw_58 (by decide) ?_
          refine lv_isub hx hb d_M_withdraw_59 ?_
          refine lv_iconst (v := 1) hx hb d_M_withdraw_60 (by decide) ?_
          obtain ⟨hg32, hf33⟩ := grd_ex hf30
          obtain ⟨I34, e35, hf36⟩ := bnd_ex hf33
          refine va_zast hx hb hK hP14 (hD I1 J0) hS15 6 1 rfl rfl (inB_in hg32) d_M_withdraw_61 (fun H37 L38 hp41 _ hS40 => ?_)
          have hP39 : va_P D cls_all (wM ca am I34 J0) H37 := by rw [e35]; exact hp41
          refine lv_aload_n hx hb d_M_withdraw_62 rfl (lv_at hl 0 rfl) ?_
          refine lv_iconst (v := -1) hx hb d_M_withdraw_63 (by decide) ?_
          obtain ⟨I42, e43, hf44⟩ := bnd_ex hf36
          refine va_put (D := D) (ci := 6) (v := .int (-1 : Int32)) (ty := .int) (C := R_M) (T := F_M) (N := 24) hx hb hts (fun w h => List.mem_cons_of_mem _ (uw_M w h)) ft_M tk_M n_M hown hK hP39 (hD I34 J0) hS40 0 rfl rfl 7 (by decide) (hts _ (List.mem_cons_of_mem _ tb_607)) (fun _ h => h) rfl (by decide +kernel) rfl rfl (Nat.le_of_ble_eq_true rfl) d_M_withdraw_64 (fun H45 L46 hp49 _ hS48 => ?_)
          have hP47 : va_P D cls_all (wM ca am I42 J0) H45 := by rw [e43]; exact hp49
          refine lv_iconst (v := 1) hx hb d_M_withdraw_67 (by decide) ?_
          cases hf44
          exact hend H45 L46 68 ls (show narrow .boolean (.int (1 : Int32)) = .int (1 : Int32) from rfl) hP47 hS48 d_M_withdraw_68
        · have hf31 := ifn hf28 h29
          refine lv_iconst (v := 0) hx hb d_M_withdraw_45 (by decide) ?_
          cases hf31
          exact hend H12 L13 46 ls (show narrow .boolean (.int (0 : Int32)) = .int (0 : Int32) from rfl) hP14 hS15 d_M_withdraw_46
theorem d_M_scratch_0 : decode b_M_scratch 0 = .ok (.aload_n 0, 1) := by decide +kernel
theorem d_M_scratch_1 : decode b_M_scratch 1 = .ok (.iconst 0, 1) := by decide +kernel
theorem d_M_scratch_2 : decode b_M_scratch 2 = .ok (.putfield 7, 3) := by decide +kernel
theorem d_M_scratch_5 : decode b_M_scratch 5 = .ok (.aload_n 0, 1) := by decide +kernel
theorem d_M_scratch_6 : decode b_M_scratch 6 = .ok (.iload_n 1, 1) := by decide +kernel
theorem d_M_scratch_7 : decode b_M_scratch 7 = .ok (.iload_n 2, 1) := by decide +kernel
theorem d_M_scratch_8 : decode b_M_scratch 8 = .ok (.invokevirtual 87, 3) := by decide +kernel
theorem d_M_scratch_11 : decode b_M_scratch 11 = .ok (.ifCond .ne 5, 3) := by decide +kernel
theorem d_M_scratch_14 : decode b_M_scratch 14 = .ok (.iconst 0, 1) := by decide +kernel
theorem d_M_scratch_15 : decode b_M_scratch 15 = .ok (.ireturn, 1) := by decide +kernel
theorem d_M_scratch_16 : decode b_M_scratch 16 = .ok (.aload_n 0, 1) := by decide +kernel
theorem d_M_scratch_17 : decode b_M_scratch 17 = .ok (.iload_n 1, 1) := by decide +kernel
theorem d_M_scratch_18 : decode b_M_scratch 18 = .ok (.invokevirtual 94, 3) := by decide +kernel
theorem d_M_scratch_21 : decode b_M_scratch 21 = .ok (.aload_n 0, 1) := by decide +kernel
theorem d_M_scratch_22 : decode b_M_scratch 22 = .ok (.getfield 36, 3) := by decide +kernel
theorem d_M_scratch_25 : decode b_M_scratch 25 = .ok (.invokestatic 112, 3) := by decide +kernel
theorem d_M_scratch_28 : decode b_M_scratch 28 = .ok (.iconst 1, 1) := by decide +kernel
theorem d_M_scratch_29 : decode b_M_scratch 29 = .ok (.if_icmp .ne 5, 3) := by decide +kernel
theorem d_M_scratch_32 : decode b_M_scratch 32 = .ok (.iconst 0, 1) := by decide +kernel
theorem d_M_scratch_33 : decode b_M_scratch 33 = .ok (.ireturn, 1) := by decide +kernel
theorem d_M_scratch_34 : decode b_M_scratch 34 = .ok (.aload_n 0, 1) := by decide +kernel
theorem d_M_scratch_35 : decode b_M_scratch 35 = .ok (.getfield 17, 3) := by decide +kernel
theorem d_M_scratch_38 : decode b_M_scratch 38 = .ok (.iload_n 1, 1) := by decide +kernel
theorem d_M_scratch_39 : decode b_M_scratch 39 = .ok (.aload_n 0, 1) := by decide +kernel
theorem d_M_scratch_40 : decode b_M_scratch 40 = .ok (.getfield 17, 3) := by decide +kernel
theorem d_M_scratch_43 : decode b_M_scratch 43 = .ok (.iload_n 1, 1) := by decide +kernel
theorem d_M_scratch_44 : decode b_M_scratch 44 = .ok (.iaload, 1) := by decide +kernel
theorem d_M_scratch_45 : decode b_M_scratch 45 = .ok (.iconst 1, 1) := by decide +kernel
theorem d_M_scratch_46 : decode b_M_scratch 46 = .ok (.iload_n 2, 1) := by decide +kernel
theorem d_M_scratch_47 : decode b_M_scratch 47 = .ok (.ishl, 1) := by decide +kernel
theorem d_M_scratch_48 : decode b_M_scratch 48 = .ok (.ior, 1) := by decide +kernel
theorem d_M_scratch_49 : decode b_M_scratch 49 = .ok (.iastore, 1) := by decide +kernel
theorem d_M_scratch_50 : decode b_M_scratch 50 = .ok (.aload_n 0, 1) := by decide +kernel
theorem d_M_scratch_51 : decode b_M_scratch 51 = .ok (.iconst (-1), 1) := by decide +kernel
theorem d_M_scratch_52 : decode b_M_scratch 52 = .ok (.putfield 33, 3) := by decide +kernel
theorem d_M_scratch_55 : decode b_M_scratch 55 = .ok (.iconst 1, 1) := by decide +kernel
theorem d_M_scratch_56 : decode b_M_scratch 56 = .ok (.ireturn, 1) := by decide +kernel
def fm_M_scratch (p0 : Int32) (p1 : Int32) (I0 : IS) : Option (Int32 × IS) :=
  bnd (sV I0 0 (0 : Int32)) (fun I1 => ob1 (fm_M_there p0 p1 I1) (fun x9 => if x9 = 0 then some ((0 : Int32), I1) else ob1 (fm_M_settle p0 I1) (fun I19 => ob1 (fm_M_bits (I19 8 0)) (fun x26 => if x26 = (1 : Int32) then some ((0 : Int32), I19) else grd (inB p0 12) (grd (inB p0 12) (bnd (sI I19 2 p0.toNatClampNeg ((I19 2 p0.toNatClampNeg) ||| ((1 : Int32) <<< (p1 &&& 31)))) (fun I40 => bnd (sV I40 7 (-1 : Int32)) (fun I48 => some ((1 : Int32), I48)))))))))
set_option maxHeartbeats 4000000 in
set_option maxRecDepth 100000 in
theorem cm_M_scratch (l : Launch) (D : va_G) (ca : Nat → ClassId) (am : Nat → Nat) {p0 : Int32} {p1 : Int32} {I0 : IS} {J0 : JS} {r : Int32 × IS} (hf : fm_M_scratch p0 p1 I0 = some r) : CtI l y_M_scratch (Cond.code y_M_scratch b_M_scratch 3 (some .boolean) :: TB) { frames := 3, cells := 0, slots := 0, locals := 68 } [.ref (am 0), .int p0, .int p1] D cls_all (tysC ca) NN (wM ca am I0 J0) (wM ca am r.2 J0) r.1 := by
  refine jd_metZ (cc := b_M_scratch) (by decide) rfl (Nat.le_of_ble_eq_true rfl) (lv := [(0, .ref (am 0)), (1, .int p0), (2, .int p1)]) rfl ?_
  intro p e R s m args below meth c A Q ls cx hR hK hN hD0 hA hP hS hl hend
  have hx := cx.1
  have hb := cx.2.1
  have hml := cx.2.2.1
  have hown := cx.2.2.2.1
  have hts := cx.2.2.2.2
  have hD : ∀ I J, va_D A (wM ca am I J) := fun I J => jd_Dc hD0 rfl
  unfold fm_M_scratch at hf
  refine lv_aload_n hx hb d_M_scratch_0 rfl (lv_at hl 0 rfl) ?_
  refine lv_iconst (v := 0) hx hb d_M_scratch_1 (by decide) ?_
  obtain ⟨I1, e2, hf3⟩ := bnd_ex hf
  refine va_put (D := D) (ci := 6) (v := .int (0 : Int32)) (ty := .int) (C := R_M) (T := F_M) (N := 24) hx hb hts (fun w h => List.mem_cons_of_mem _ (uw_M w h)) ft_M tk_M n_M hown hK hP (hD I0 J0) hS 0 rfl rfl 0 (by decide) (hts _ (List.mem_cons_of_mem _ tb_600)) (fun _ h => h) rfl (by decide +kernel) rfl rfl (Nat.le_of_ble_eq_true rfl) d_M_scratch_2 (fun H4 L5 hp8 _ hS7 => ?_)
  have hP6 : va_P D cls_all (wM ca am I1 J0) H4 := by rw [e2]; exact hp8
  refine lv_aload_n hx hb d_M_scratch_5 rfl (lv_at hl 0 rfl) ?_
  refine lv_iload_n hx hb d_M_scratch_6 rfl (lv_at hl 1 rfl) ?_
  refine lv_iload_n hx hb d_M_scratch_7 rfl (lv_at hl 2 rfl) ?_
  obtain ⟨x9, hc10, hf11⟩ := ob1_ex hf3
  refine jd_ci (va_runV (As := [.int p0, .int p1]) (rest := []) cx (cm_M_there l D ca am hc10 H4.size) (cwV 2 hts (jd_gV tb_684 tb_685 tb_26 tb_47 tb_686) rfl rfl rfl ⟨rfl, by decide, by decide, rfl⟩ (by rw [hR]; decide)) ⟨jd_blind nWc, (va_recv hK hP6 (ci := 6) (q0 := 0) rfl rfl), (jd_pre (av := [.ref (am 0), .int p0, .int p1]) hP6 hK (hD I1 J0) (fun U h => nWm h hN))⟩ rfl rfl hl.1 rfl (lv_room (Nat.le_of_ble_eq_true rfl)) d_M_scratch_8 ⟨Nat.zero_le _, Nat.zero_le _⟩) hS7 (hD I1 J0) hA (fun H12 L13 hP14 hS15 => ?_)
  refine lv_if_ne (tgt := 16) hx hb d_M_scratch_11 rfl (fun h16 => ?_) (fun h16 => ?_)
  · have hf17 := ifn hf11 h16
    refine lv_aload_n hx hb d_M_scratch_16 rfl (lv_at hl 0 rfl) ?_
    refine lv_iload_n hx hb d_M_scratch_17 rfl (lv_at hl 1 rfl) ?_
    obtain ⟨I19, hc20, hf21⟩ := ob1_ex hf17
    refine jd_cv (va_runV (As := [.int p0]) (rest := []) cx (cm_M_settle l D ca am hc20 H12.size) (cwV 1 hts (jd_gV tb_687 tb_688 tb_27 tb_47 tb_689) rfl rfl rfl ⟨rfl, by decide, by decide, rfl⟩ (by rw [hR]; decide)) ⟨jd_blind nWc, (va_recv hK hP14 (ci := 6) (q0 := 0) rfl rfl), (jd_pre (av := [.ref (am 0), .int p0]) hP14 hK (hD I1 J0) (fun U h => nWm h hN))⟩ rfl rfl hl.1 rfl (lv_room (Nat.le_of_ble_eq_true rfl)) d_M_scratch_18 ⟨Nat.zero_le _, Nat.zero_le _⟩) hS15 (hD I1 J0) hA (fun H22 L23 hP24 hS25 => ?_)
    refine lv_aload_n hx hb d_M_scratch_21 rfl (lv_at hl 0 rfl) ?_
    refine va_get (D := D) (ci := 6) (v := .int (I19 8 0)) (C := R_M) (T := F_M) (N := 24) hx hb hts (fun w h => List.mem_cons_of_mem _ (uw_M w h)) hown hK hP24 0 rfl rfl 8 (by decide) (hts _ (List.mem_cons_of_mem _ tb_608)) (fun _ h => h) rfl d_M_scratch_22 ?_
    obtain ⟨x26, hc27, hf28⟩ := ob1_ex hf21
    refine jd_ci (va_runS (As := [.int (I19 8 0)]) (rest := []) cx (cm_M_bits l D ca (wM ca am I19 J0) (I0 := I19) (J0 := J0) hc27 H22.size) (va_cwS 1 hts (jd_gS2 tb_715 tb_716 tb_47 tb_717) rfl rfl rfl ⟨by decide, by decide, rfl⟩ (by rw [hR]; decide)) ⟨jd_blind nWc, (jd_pre (av := [.int (I19 8 0)]) hP24 hK (hD I19 J0) (fun U h => nWm h hN))⟩ rfl rfl hl.1 rfl (lv_room (Nat.le_of_ble_eq_true rfl)) d_M_scratch_25 ⟨Nat.zero_le _, Nat.zero_le _⟩) hS25 (hD I19 J0) hA (fun H29 L30 hP31 hS32 => ?_)
    refine lv_iconst (v := 1) hx hb d_M_scratch_28 (by decide) ?_
    refine lv_icmp_ne (tgt := 34) hx hb d_M_scratch_29 rfl (fun h33 => ?_) (fun h33 => ?_)
    · have hf34 := ifn hf28 h33
      refine lv_aload_n hx hb d_M_scratch_34 rfl (lv_at hl 0 rfl) ?_
      refine va_get (D := D) (ci := 6) (v := .ref (am 2)) (C := R_M) (T := F_M) (N := 24) hx hb hts (fun w h => List.mem_cons_of_mem _ (uw_M w h)) hown hK hP31 0 rfl rfl 2 (by decide) (hts _ (List.mem_cons_of_mem _ tb_602)) (fun _ h => h) rfl d_M_scratch_35 ?_
      refine lv_iload_n hx hb d_M_scratch_38 rfl (lv_at hl 1 rfl) ?_
      refine lv_aload_n hx hb d_M_scratch_39 rfl (lv_at hl 0 rfl) ?_
      refine va_get (D := D) (ci := 6) (v := .ref (am 2)) (C := R_M) (T := F_M) (N := 24) hx hb hts (fun w h => List.mem_cons_of_mem _ (uw_M w h)) hown hK hP31 0 rfl rfl 2 (by decide) (hts _ (List.mem_cons_of_mem _ tb_602)) (fun _ h => h) rfl d_M_scratch_40 ?_
      refine lv_iload_n hx hb d_M_scratch_43 rfl (lv_at hl 1 rfl) ?_
      obtain ⟨hg36, hf37⟩ := grd_ex hf34
      refine va_iald hx hb hK hP31 2 2 rfl rfl (inB_in hg36) d_M_scratch_44 ?_
      refine lv_iconst (v := 1) hx hb d_M_scratch_45 (by decide) ?_
      refine lv_iload_n hx hb d_M_scratch_46 rfl (lv_at hl 2 rfl) ?_
      refine lv_ishl hx hb d_M_scratch_47 ?_
      refine lv_ior hx hb d_M_scratch_48 ?_
      obtain ⟨hg38, hf39⟩ := grd_ex hf37
      obtain ⟨I40, e41, hf42⟩ := bnd_ex hf39
      refine va_iast hx hb hK hP31 (hD I19 J0) hS32 2 2 rfl rfl (inB_in hg38) d_M_scratch_49 (fun H43 L44 hp47 _ hS46 => ?_)
      have hP45 : va_P D cls_all (wM ca am I40 J0) H43 := by rw [e41]; exact hp47
      refine lv_aload_n hx hb d_M_scratch_50 rfl (lv_at hl 0 rfl) ?_
      refine lv_iconst (v := -1) hx hb d_M_scratch_51 (by decide) ?_
      obtain ⟨I48, e49, hf50⟩ := bnd_ex hf42
      refine va_put (D := D) (ci := 6) (v := .int (-1 : Int32)) (ty := .int) (C := R_M) (T := F_M) (N := 24) hx hb hts (fun w h => List.mem_cons_of_mem _ (uw_M w h)) ft_M tk_M n_M hown hK hP45 (hD I40 J0) hS46 0 rfl rfl 7 (by decide) (hts _ (List.mem_cons_of_mem _ tb_607)) (fun _ h => h) rfl (by decide +kernel) rfl rfl (Nat.le_of_ble_eq_true rfl) d_M_scratch_52 (fun H51 L52 hp55 _ hS54 => ?_)
      have hP53 : va_P D cls_all (wM ca am I48 J0) H51 := by rw [e49]; exact hp55
      refine lv_iconst (v := 1) hx hb d_M_scratch_55 (by decide) ?_
      cases hf50
      exact hend H51 L52 56 ls (show narrow .boolean (.int (1 : Int32)) = .int (1 : Int32) from rfl) hP53 hS54 d_M_scratch_56
    · have hf35 := ifp hf28 h33
      refine lv_iconst (v := 0) hx hb d_M_scratch_32 (by decide) ?_
      cases hf35
      exact hend H29 L30 33 ls (show narrow .boolean (.int (0 : Int32)) = .int (0 : Int32) from rfl) hP31 hS32 d_M_scratch_33
  · have hf18 := ifp hf11 h16
    refine lv_iconst (v := 0) hx hb d_M_scratch_14 (by decide) ?_
    cases hf18
    exact hend H12 L13 15 ls (show narrow .boolean (.int (0 : Int32)) = .int (0 : Int32) from rfl) hP14 hS15 d_M_scratch_15
theorem d_M_settled_0 : decode b_M_settled 0 = .ok (.aload_n 0, 1) := by decide +kernel
theorem d_M_settled_1 : decode b_M_settled 1 = .ok (.iconst 0, 1) := by decide +kernel
theorem d_M_settled_2 : decode b_M_settled 2 = .ok (.putfield 7, 3) := by decide +kernel
theorem d_M_settled_5 : decode b_M_settled 5 = .ok (.aload_n 0, 1) := by decide +kernel
theorem d_M_settled_6 : decode b_M_settled 6 = .ok (.iload_n 1, 1) := by decide +kernel
theorem d_M_settled_7 : decode b_M_settled 7 = .ok (.iload_n 2, 1) := by decide +kernel
theorem d_M_settled_8 : decode b_M_settled 8 = .ok (.invokevirtual 87, 3) := by decide +kernel
theorem d_M_settled_11 : decode b_M_settled 11 = .ok (.ifCond .eq 12, 3) := by decide +kernel
theorem d_M_settled_14 : decode b_M_settled 14 = .ok (.aload_n 0, 1) := by decide +kernel
theorem d_M_settled_15 : decode b_M_settled 15 = .ok (.iload_n 1, 1) := by decide +kernel
theorem d_M_settled_16 : decode b_M_settled 16 = .ok (.iload_n 3, 1) := by decide +kernel
theorem d_M_settled_17 : decode b_M_settled 17 = .ok (.invokevirtual 87, 3) := by decide +kernel
theorem d_M_settled_20 : decode b_M_settled 20 = .ok (.ifCond .ne 5, 3) := by decide +kernel
theorem d_M_settled_23 : decode b_M_settled 23 = .ok (.iconst 0, 1) := by decide +kernel
theorem d_M_settled_24 : decode b_M_settled 24 = .ok (.ireturn, 1) := by decide +kernel
theorem d_M_settled_25 : decode b_M_settled 25 = .ok (.aload_n 0, 1) := by decide +kernel
theorem d_M_settled_26 : decode b_M_settled 26 = .ok (.iload_n 1, 1) := by decide +kernel
theorem d_M_settled_27 : decode b_M_settled 27 = .ok (.invokevirtual 94, 3) := by decide +kernel
theorem d_M_settled_30 : decode b_M_settled 30 = .ok (.aload_n 0, 1) := by decide +kernel
theorem d_M_settled_31 : decode b_M_settled 31 = .ok (.getfield 39, 3) := by decide +kernel
theorem d_M_settled_34 : decode b_M_settled 34 = .ok (.iload_n 2, 1) := by decide +kernel
theorem d_M_settled_35 : decode b_M_settled 35 = .ok (.iaload, 1) := by decide +kernel
theorem d_M_settled_36 : decode b_M_settled 36 = .ok (.iload_n 3, 1) := by decide +kernel
theorem d_M_settled_37 : decode b_M_settled 37 = .ok (.ishr, 1) := by decide +kernel
theorem d_M_settled_38 : decode b_M_settled 38 = .ok (.iconst 1, 1) := by decide +kernel
theorem d_M_settled_39 : decode b_M_settled 39 = .ok (.iand, 1) := by decide +kernel
theorem d_M_settled_40 : decode b_M_settled 40 = .ok (.iconst 1, 1) := by decide +kernel
theorem d_M_settled_41 : decode b_M_settled 41 = .ok (.if_icmp .ne 7, 3) := by decide +kernel
theorem d_M_settled_44 : decode b_M_settled 44 = .ok (.iconst 1, 1) := by decide +kernel
theorem d_M_settled_45 : decode b_M_settled 45 = .ok (.goto 4, 3) := by decide +kernel
theorem d_M_settled_48 : decode b_M_settled 48 = .ok (.iconst 0, 1) := by decide +kernel
theorem d_M_settled_49 : decode b_M_settled 49 = .ok (.ireturn, 1) := by decide +kernel
def fm_M_settled (p0 : Int32) (p1 : Int32) (p2 : Int32) (I0 : IS) : Option (Int32 × IS) :=
  bnd (sV I0 0 (0 : Int32)) (fun I1 => ob1 (fm_M_there p0 p1 I1) (fun x9 => if x9 = 0 then some ((0 : Int32), I1) else ob1 (fm_M_there p0 p2 I1) (fun x19 => if x19 = 0 then some ((0 : Int32), I1) else ob1 (fm_M_settle p0 I1) (fun I29 => grd (inB p1 16) (if (((I29 9 p1.toNatClampNeg) >>> (p2 &&& 31)) &&& (1 : Int32)) = (1 : Int32) then some ((1 : Int32), I29) else some ((0 : Int32), I29))))))
set_option maxHeartbeats 4000000 in
set_option maxRecDepth 100000 in
theorem cm_M_settled (l : Launch) (D : va_G) (ca : Nat → ClassId) (am : Nat → Nat) {p0 : Int32} {p1 : Int32} {p2 : Int32} {I0 : IS} {J0 : JS} {r : Int32 × IS} (hf : fm_M_settled p0 p1 p2 I0 = some r) : CtI l y_M_settled (Cond.code y_M_settled b_M_settled 4 (some .boolean) :: TB) { frames := 3, cells := 0, slots := 0, locals := 68 } [.ref (am 0), .int p0, .int p1, .int p2] D cls_all (tysC ca) NN (wM ca am I0 J0) (wM ca am r.2 J0) r.1 := by
  refine jd_metZ (cc := b_M_settled) (by decide) rfl (Nat.le_of_ble_eq_true rfl) (lv := [(0, .ref (am 0)), (1, .int p0), (2, .int p1), (3, .int p2)]) rfl ?_
  intro p e R s m args below meth c A Q ls cx hR hK hN hD0 hA hP hS hl hend
  have hx := cx.1
  have hb := cx.2.1
  have hml := cx.2.2.1
  have hown := cx.2.2.2.1
  have hts := cx.2.2.2.2
  have hD : ∀ I J, va_D A (wM ca am I J) := fun I J => jd_Dc hD0 rfl
  unfold fm_M_settled at hf
  refine lv_aload_n hx hb d_M_settled_0 rfl (lv_at hl 0 rfl) ?_
  refine lv_iconst (v := 0) hx hb d_M_settled_1 (by decide) ?_
  obtain ⟨I1, e2, hf3⟩ := bnd_ex hf
  refine va_put (D := D) (ci := 6) (v := .int (0 : Int32)) (ty := .int) (C := R_M) (T := F_M) (N := 24) hx hb hts (fun w h => List.mem_cons_of_mem _ (uw_M w h)) ft_M tk_M n_M hown hK hP (hD I0 J0) hS 0 rfl rfl 0 (by decide) (hts _ (List.mem_cons_of_mem _ tb_600)) (fun _ h => h) rfl (by decide +kernel) rfl rfl (Nat.le_of_ble_eq_true rfl) d_M_settled_2 (fun H4 L5 hp8 _ hS7 => ?_)
  have hP6 : va_P D cls_all (wM ca am I1 J0) H4 := by rw [e2]; exact hp8
  refine lv_aload_n hx hb d_M_settled_5 rfl (lv_at hl 0 rfl) ?_
  refine lv_iload_n hx hb d_M_settled_6 rfl (lv_at hl 1 rfl) ?_
  refine lv_iload_n hx hb d_M_settled_7 rfl (lv_at hl 2 rfl) ?_
  obtain ⟨x9, hc10, hf11⟩ := ob1_ex hf3
  refine jd_ci (va_runV (As := [.int p0, .int p1]) (rest := []) cx (cm_M_there l D ca am hc10 H4.size) (cwV 2 hts (jd_gV tb_684 tb_685 tb_26 tb_47 tb_686) rfl rfl rfl ⟨rfl, by decide, by decide, rfl⟩ (by rw [hR]; decide)) ⟨jd_blind nWc, (va_recv hK hP6 (ci := 6) (q0 := 0) rfl rfl), (jd_pre (av := [.ref (am 0), .int p0, .int p1]) hP6 hK (hD I1 J0) (fun U h => nWm h hN))⟩ rfl rfl hl.1 rfl (lv_room (Nat.le_of_ble_eq_true rfl)) d_M_settled_8 ⟨Nat.zero_le _, Nat.zero_le _⟩) hS7 (hD I1 J0) hA (fun H12 L13 hP14 hS15 => ?_)
  refine lv_if_eq (tgt := 23) hx hb d_M_settled_11 rfl (fun h16 => ?_) (fun h16 => ?_)
  · have hf17 := ifp hf11 h16
    refine lv_iconst (v := 0) hx hb d_M_settled_23 (by decide) ?_
    cases hf17
    exact hend H12 L13 24 ls (show narrow .boolean (.int (0 : Int32)) = .int (0 : Int32) from rfl) hP14 hS15 d_M_settled_24
  · have hf18 := ifn hf11 h16
    refine lv_aload_n hx hb d_M_settled_14 rfl (lv_at hl 0 rfl) ?_
    refine lv_iload_n hx hb d_M_settled_15 rfl (lv_at hl 1 rfl) ?_
    refine lv_iload_n hx hb d_M_settled_16 rfl (lv_at hl 3 rfl) ?_
    obtain ⟨x19, hc20, hf21⟩ := ob1_ex hf18
    refine jd_ci (va_runV (As := [.int p0, .int p2]) (rest := []) cx (cm_M_there l D ca am hc20 H12.size) (cwV 2 hts (jd_gV tb_684 tb_685 tb_26 tb_47 tb_686) rfl rfl rfl ⟨rfl, by decide, by decide, rfl⟩ (by rw [hR]; decide)) ⟨jd_blind nWc, (va_recv hK hP14 (ci := 6) (q0 := 0) rfl rfl), (jd_pre (av := [.ref (am 0), .int p0, .int p2]) hP14 hK (hD I1 J0) (fun U h => nWm h hN))⟩ rfl rfl hl.1 rfl (lv_room (Nat.le_of_ble_eq_true rfl)) d_M_settled_17 ⟨Nat.zero_le _, Nat.zero_le _⟩) hS15 (hD I1 J0) hA (fun H22 L23 hP24 hS25 => ?_)
    refine lv_if_ne (tgt := 25) hx hb d_M_settled_20 rfl (fun h26 => ?_) (fun h26 => ?_)
    · have hf27 := ifn hf21 h26
      refine lv_aload_n hx hb d_M_settled_25 rfl (lv_at hl 0 rfl) ?_
      refine lv_iload_n hx hb d_M_settled_26 rfl (lv_at hl 1 rfl) ?_
      obtain ⟨I29, hc30, hf31⟩ := ob1_ex hf27
      refine jd_cv (va_runV (As := [.int p0]) (rest := []) cx (cm_M_settle l D ca am hc30 H22.size) (cwV 1 hts (jd_gV tb_687 tb_688 tb_27 tb_47 tb_689) rfl rfl rfl ⟨rfl, by decide, by decide, rfl⟩ (by rw [hR]; decide)) ⟨jd_blind nWc, (va_recv hK hP24 (ci := 6) (q0 := 0) rfl rfl), (jd_pre (av := [.ref (am 0), .int p0]) hP24 hK (hD I1 J0) (fun U h => nWm h hN))⟩ rfl rfl hl.1 rfl (lv_room (Nat.le_of_ble_eq_true rfl)) d_M_settled_27 ⟨Nat.zero_le _, Nat.zero_le _⟩) hS25 (hD I1 J0) hA (fun H32 L33 hP34 hS35 => ?_)
      refine lv_aload_n hx hb d_M_settled_30 rfl (lv_at hl 0 rfl) ?_
      refine va_get (D := D) (ci := 6) (v := .ref (am 7)) (C := R_M) (T := F_M) (N := 24) hx hb hts (fun w h => List.mem_cons_of_mem _ (uw_M w h)) hown hK hP34 0 rfl rfl 9 (by decide) (hts _ (List.mem_cons_of_mem _ tb_609)) (fun _ h => h) rfl d_M_settled_31 ?_
      refine lv_iload_n hx hb d_M_settled_34 rfl (lv_at hl 2 rfl) ?_
      obtain ⟨hg36, hf37⟩ := grd_ex hf31
      refine va_iald hx hb hK hP34 7 2 rfl rfl (inB_in hg36) d_M_settled_35 ?_
      refine lv_iload_n hx hb d_M_settled_36 rfl (lv_at hl 3 rfl) ?_
      refine lv_ishr hx hb d_M_settled_37 ?_
      refine lv_iconst (v := 1) hx hb d_M_settled_38 (by decide) ?_
      refine lv_iand hx hb d_M_settled_39 ?_
      refine lv_iconst (v := 1) hx hb d_M_settled_40 (by decide) ?_
      refine lv_icmp_ne (tgt := 48) hx hb d_M_settled_41 rfl (fun h38 => ?_) (fun h38 => ?_)
      · have hf39 := ifn hf37 h38
        refine lv_iconst (v := 0) hx hb d_M_settled_48 (by decide) ?_
        cases hf39
        exact hend H32 L33 49 ls (show narrow .boolean (.int (0 : Int32)) = .int (0 : Int32) from rfl) hP34 hS35 d_M_settled_49
      · have hf40 := ifp hf37 h38
        refine lv_iconst (v := 1) hx hb d_M_settled_44 (by decide) ?_
        refine lv_goto (tgt := 49) hx hb d_M_settled_45 rfl ?_
        cases hf40
        exact hend H32 L33 49 ls (show narrow .boolean (.int (1 : Int32)) = .int (1 : Int32) from rfl) hP34 hS35 d_M_settled_49
    · have hf28 := ifp hf21 h26
      refine lv_iconst (v := 0) hx hb d_M_settled_23 (by decide) ?_
      cases hf28
      exact hend H22 L23 24 ls (show narrow .boolean (.int (0 : Int32)) = .int (0 : Int32) from rfl) hP24 hS25 d_M_settled_24
theorem d_M_direct_0 : decode b_M_direct 0 = .ok (.aload_n 0, 1) := by decide +kernel
theorem d_M_direct_1 : decode b_M_direct 1 = .ok (.iload_n 1, 1) := by decide +kernel
theorem d_M_direct_2 : decode b_M_direct 2 = .ok (.iload_n 2, 1) := by decide +kernel
theorem d_M_direct_3 : decode b_M_direct 3 = .ok (.iload_n 3, 1) := by decide +kernel
theorem d_M_direct_4 : decode b_M_direct 4 = .ok (.invokevirtual 134, 3) := by decide +kernel
theorem d_M_direct_7 : decode b_M_direct 7 = .ok (.ifCond .eq 23, 3) := by decide +kernel
theorem d_M_direct_10 : decode b_M_direct 10 = .ok (.aload_n 0, 1) := by decide +kernel
theorem d_M_direct_11 : decode b_M_direct 11 = .ok (.getfield 39, 3) := by decide +kernel
theorem d_M_direct_14 : decode b_M_direct 14 = .ok (.iload_n 2, 1) := by decide +kernel
theorem d_M_direct_15 : decode b_M_direct 15 = .ok (.iaload, 1) := by decide +kernel
theorem d_M_direct_16 : decode b_M_direct 16 = .ok (.aload_n 0, 1) := by decide +kernel
theorem d_M_direct_17 : decode b_M_direct 17 = .ok (.getfield 42, 3) := by decide +kernel
theorem d_M_direct_20 : decode b_M_direct 20 = .ok (.iload_n 3, 1) := by decide +kernel
theorem d_M_direct_21 : decode b_M_direct 21 = .ok (.iaload, 1) := by decide +kernel
theorem d_M_direct_22 : decode b_M_direct 22 = .ok (.iand, 1) := by decide +kernel
theorem d_M_direct_23 : decode b_M_direct 23 = .ok (.ifCond .ne 7, 3) := by decide +kernel
theorem d_M_direct_26 : decode b_M_direct 26 = .ok (.iconst 1, 1) := by decide +kernel
theorem d_M_direct_27 : decode b_M_direct 27 = .ok (.goto 4, 3) := by decide +kernel
theorem d_M_direct_30 : decode b_M_direct 30 = .ok (.iconst 0, 1) := by decide +kernel
theorem d_M_direct_31 : decode b_M_direct 31 = .ok (.ireturn, 1) := by decide +kernel
def fm_M_direct (p0 : Int32) (p1 : Int32) (p2 : Int32) (I0 : IS) : Option (Int32 × IS) :=
  ob2 (fm_M_settled p0 p1 p2 I0) (fun x1 I2 => if x1 = 0 then some ((0 : Int32), I2) else grd (inB p1 16) (grd (inB p2 16) (if ((I2 9 p1.toNatClampNeg) &&& (I2 10 p2.toNatClampNeg)) = 0 then some ((1 : Int32), I2) else some ((0 : Int32), I2))))
set_option maxHeartbeats 4000000 in
set_option maxRecDepth 100000 in
theorem cm_M_direct (l : Launch) (D : va_G) (ca : Nat → ClassId) (am : Nat → Nat) {p0 : Int32} {p1 : Int32} {p2 : Int32} {I0 : IS} {J0 : JS} {r : Int32 × IS} (hf : fm_M_direct p0 p1 p2 I0 = some r) : CtI l y_M_direct (Cond.code y_M_direct b_M_direct 4 (some .boolean) :: TB) { frames := 4, cells := 0, slots := 0, locals := 91 } [.ref (am 0), .int p0, .int p1, .int p2] D cls_all (tysC ca) NN (wM ca am I0 J0) (wM ca am r.2 J0) r.1 := by
  refine jd_metZ (cc := b_M_direct) (by decide) rfl (Nat.le_of_ble_eq_true rfl) (lv := [(0, .ref (am 0)), (1, .int p0), (2, .int p1), (3, .int p2)]) rfl ?_
  intro p e R s m args below meth c A Q ls cx hR hK hN hD0 hA hP hS hl hend
  have hx := cx.1
  have hb := cx.2.1
  have hml := cx.2.2.1
  have hown := cx.2.2.2.1
  have hts := cx.2.2.2.2
  have hD : ∀ I J, va_D A (wM ca am I J) := fun I J => jd_Dc hD0 rfl
  unfold fm_M_direct at hf
  refine lv_aload_n hx hb d_M_direct_0 rfl (lv_at hl 0 rfl) ?_
  refine lv_iload_n hx hb d_M_direct_1 rfl (lv_at hl 1 rfl) ?_
  refine lv_iload_n hx hb d_M_direct_2 rfl (lv_at hl 2 rfl) ?_
  refine lv_iload_n hx hb d_M_direct_3 rfl (lv_at hl 3 rfl) ?_
  obtain ⟨x1, I2, hc3, hf4⟩ := ob2_ex hf
  refine jd_ci (va_runV (As := [.int p0, .int p1, .int p2]) (rest := []) cx (cm_M_settled l D ca am hc3 s.heap.size) (cwV 3 hts (jd_gV tb_726 tb_719 tb_720 tb_47 tb_721) rfl rfl rfl ⟨rfl, by decide, by decide, rfl⟩ (by rw [hR]; decide)) ⟨jd_blind nWc, (va_recv hK hP (ci := 6) (q0 := 0) rfl rfl), (jd_pre (av := [.ref (am 0), .int p0, .int p1, .int p2]) hP hK (hD I0 J0) (fun U h => nWm h hN))⟩ rfl rfl hl.1 rfl (lv_room (Nat.le_of_ble_eq_true rfl)) d_M_direct_4 ⟨Nat.zero_le _, Nat.zero_le _⟩) hS (hD I0 J0) hA (fun H5 L6 hP7 hS8 => ?_)
  refine lv_if_eq (tgt := 30) hx hb d_M_direct_7 rfl (fun h9 => ?_) (fun h9 => ?_)
  · have hf10 := ifp hf4 h9
    refine lv_iconst (v := 0) hx hb d_M_direct_30 (by decide) ?_
    cases hf10
    exact hend H5 L6 31 ls (show narrow .boolean (.int (0 : Int32)) = .int (0 : Int32) from rfl) hP7 hS8 d_M_direct_31
  · have hf11 := ifn hf4 h9
    refine lv_aload_n hx hb d_M_direct_10 rfl (lv_at hl 0 rfl) ?_
    refine va_get (D := D) (ci := 6) (v := .ref (am 7)) (C := R_M) (T := F_M) (N := 24) hx hb hts (fun w h => List.mem_cons_of_mem _ (uw_M w h)) hown hK hP7 0 rfl rfl 9 (by decide) (hts _ (List.mem_cons_of_mem _ tb_609)) (fun _ h => h) rfl d_M_direct_11 ?_
    refine lv_iload_n hx hb d_M_direct_14 rfl (lv_at hl 2 rfl) ?_
    obtain ⟨hg12, hf13⟩ := grd_ex hf11
    refine va_iald hx hb hK hP7 7 2 rfl rfl (inB_in hg12) d_M_direct_15 ?_
    refine lv_aload_n hx hb d_M_direct_16 rfl (lv_at hl 0 rfl) ?_
    refine va_get (D := D) (ci := 6) (v := .ref (am 8)) (C := R_M) (T := F_M) (N := 24) hx hb hts (fun w h => List.mem_cons_of_mem _ (uw_M w h)) hown hK hP7 0 rfl rfl 10 (by decide) (hts _ (List.mem_cons_of_mem _ tb_610)) (fun _ h => h) rfl d_M_direct_17 ?_
    refine lv_iload_n hx hb d_M_direct_20 rfl (lv_at hl 3 rfl) ?_
    obtain ⟨hg14, hf15⟩ := grd_ex hf13
    refine va_iald hx hb hK hP7 8 2 rfl rfl (inB_in hg14) d_M_direct_21 ?_
    refine lv_iand hx hb d_M_direct_22 ?_
    refine lv_if_ne (tgt := 30) hx hb d_M_direct_23 rfl (fun h16 => ?_) (fun h16 => ?_)
    · have hf17 := ifn hf15 h16
      refine lv_iconst (v := 0) hx hb d_M_direct_30 (by decide) ?_
      cases hf17
      exact hend H5 L6 31 ls (show narrow .boolean (.int (0 : Int32)) = .int (0 : Int32) from rfl) hP7 hS8 d_M_direct_31
    · have hf18 := ifp hf15 h16
      refine lv_iconst (v := 1) hx hb d_M_direct_26 (by decide) ?_
      refine lv_goto (tgt := 31) hx hb d_M_direct_27 rfl ?_
      cases hf18
      exact hend H5 L6 31 ls (show narrow .boolean (.int (1 : Int32)) = .int (1 : Int32) from rfl) hP7 hS8 d_M_direct_31
theorem d_M_orders_0 : decode b_M_orders 0 = .ok (.aload_n 0, 1) := by decide +kernel
theorem d_M_orders_1 : decode b_M_orders 1 = .ok (.iconst 0, 1) := by decide +kernel
theorem d_M_orders_2 : decode b_M_orders 2 = .ok (.putfield 7, 3) := by decide +kernel
theorem d_M_orders_5 : decode b_M_orders 5 = .ok (.aload_n 0, 1) := by decide +kernel
theorem d_M_orders_6 : decode b_M_orders 6 = .ok (.iload_n 1, 1) := by decide +kernel
theorem d_M_orders_7 : decode b_M_orders 7 = .ok (.invokevirtual 131, 3) := by decide +kernel
theorem d_M_orders_10 : decode b_M_orders 10 = .ok (.ifCond .ne 5, 3) := by decide +kernel
theorem d_M_orders_13 : decode b_M_orders 13 = .ok (.lconst 0, 1) := by decide +kernel
theorem d_M_orders_14 : decode b_M_orders 14 = .ok (.lreturn, 1) := by decide +kernel
theorem d_M_orders_15 : decode b_M_orders 15 = .ok (.aload_n 0, 1) := by decide +kernel
theorem d_M_orders_16 : decode b_M_orders 16 = .ok (.iload_n 1, 1) := by decide +kernel
theorem d_M_orders_17 : decode b_M_orders 17 = .ok (.invokevirtual 124, 3) := by decide +kernel
theorem d_M_orders_20 : decode b_M_orders 20 = .ok (.aload_n 0, 1) := by decide +kernel
theorem d_M_orders_21 : decode b_M_orders 21 = .ok (.getfield 54, 3) := by decide +kernel
theorem d_M_orders_24 : decode b_M_orders 24 = .ok (.iconst 0, 1) := by decide +kernel
theorem d_M_orders_25 : decode b_M_orders 25 = .ok (.laload, 1) := by decide +kernel
theorem d_M_orders_26 : decode b_M_orders 26 = .ok (.lreturn, 1) := by decide +kernel
def fm_M_orders (p0 : Int32) (I0 : IS) (J0 : JS) : Option (Int64 × IS × JS) :=
  bnd (sV I0 0 (0 : Int32)) (fun I1 => ob1 (fm_M_isHeat p0 I1) (fun x9 => if x9 = 0 then some ((0 : Int64), I1, J0) else ob2 (fm_M_countAll p0 I1 J0) (fun I19 J20 => grd (inB (0 : Int32) 65536) (some (J20 1 (0 : Int32).toNatClampNeg, I19, J20)))))
set_option maxHeartbeats 4000000 in
set_option maxRecDepth 100000 in
theorem cm_M_orders (l : Launch) (D : va_G) (ca : Nat → ClassId) (am : Nat → Nat) {p0 : Int32} {I0 : IS} {J0 : JS} {r : Int64 × IS × JS} (hf : fm_M_orders p0 I0 J0 = some r) : CtL l y_M_orders (Cond.code y_M_orders b_M_orders 2 (some .long) :: TB) { frames := 4, cells := 0, slots := 0, locals := 91 } [.ref (am 0), .int p0] D cls_all (tysC ca) NN (wM ca am I0 J0) (wM ca am r.2.1 r.2.2) r.1 := by
  refine jd_metL (cc := b_M_orders) (by decide) rfl (Nat.le_of_ble_eq_true rfl) (lv := [(0, .ref (am 0)), (1, .int p0)]) rfl ?_
  intro p e R s m args below meth c A Q ls cx hR hK hN hD0 hA hP hS hl hend
  have hx := cx.1
  have hb := cx.2.1
  have hml := cx.2.2.1
  have hown := cx.2.2.2.1
  have hts := cx.2.2.2.2
  have hD : ∀ I J, va_D A (wM ca am I J) := fun I J => jd_Dc hD0 rfl
  unfold fm_M_orders at hf
  refine lv_aload_n hx hb d_M_orders_0 rfl (lv_at hl 0 rfl) ?_
  refine lv_iconst (v := 0) hx hb d_M_orders_1 (by decide) ?_
  obtain ⟨I1, e2, hf3⟩ := bnd_ex hf
  refine va_put (D := D) (ci := 6) (v := .int (0 : Int32)) (ty := .int) (C := R_M) (T := F_M) (N := 24) hx hb hts (fun w h => List.mem_cons_of_mem _ (uw_M w h)) ft_M tk_M n_M hown hK hP (hD I0 J0) hS 0 rfl rfl 0 (by decide) (hts _ (List.mem_cons_of_mem _ tb_600)) (fun _ h => h) rfl (by decide +kernel) rfl rfl (Nat.le_of_ble_eq_true rfl) d_M_orders_2 (fun H4 L5 hp8 _ hS7 => ?_)
  have hP6 : va_P D cls_all (wM ca am I1 J0) H4 := by rw [e2]; exact hp8
  refine lv_aload_n hx hb d_M_orders_5 rfl (lv_at hl 0 rfl) ?_
  refine lv_iload_n hx hb d_M_orders_6 rfl (lv_at hl 1 rfl) ?_
  obtain ⟨x9, hc10, hf11⟩ := ob1_ex hf3
  refine jd_ci (va_runV (As := [.int p0]) (rest := []) cx (cm_M_isHeat l D ca am hc10 H4.size) (cwV 1 hts (jd_gV tb_708 tb_709 tb_30 tb_47 tb_710) rfl rfl rfl ⟨rfl, by decide, by decide, rfl⟩ (by rw [hR]; decide)) ⟨jd_blind nWc, (va_recv hK hP6 (ci := 6) (q0 := 0) rfl rfl), (jd_pre (av := [.ref (am 0), .int p0]) hP6 hK (hD I1 J0) (fun U h => nWm h hN))⟩ rfl rfl hl.1 rfl (lv_room (Nat.le_of_ble_eq_true rfl)) d_M_orders_7 ⟨Nat.zero_le _, Nat.zero_le _⟩) hS7 (hD I1 J0) hA (fun H12 L13 hP14 hS15 => ?_)
  refine lv_if_ne (tgt := 15) hx hb d_M_orders_10 rfl (fun h16 => ?_) (fun h16 => ?_)
  · have hf17 := ifn hf11 h16
    refine lv_aload_n hx hb d_M_orders_15 rfl (lv_at hl 0 rfl) ?_
    refine lv_iload_n hx hb d_M_orders_16 rfl (lv_at hl 1 rfl) ?_
    obtain ⟨I19, J20, hc21, hf22⟩ := ob2_ex hf17
    refine jd_cv (va_runV (As := [.int p0]) (rest := []) cx (cm_M_countAll l D ca am hc21 H12.size) (cwV 1 hts (jd_gV tb_731 tb_732 tb_31 tb_47 tb_733) rfl rfl rfl ⟨rfl, by decide, by decide, rfl⟩ (by rw [hR]; decide)) ⟨jd_blind nWc, (va_recv hK hP14 (ci := 6) (q0 := 0) rfl rfl), (jd_pre (av := [.ref (am 0), .int p0]) hP14 hK (hD I1 J0) (fun U h => nWm h hN))⟩ rfl rfl hl.1 rfl (lv_room (Nat.le_of_ble_eq_true rfl)) d_M_orders_17 ⟨Nat.zero_le _, Nat.zero_le _⟩) hS15 (hD I1 J0) hA (fun H23 L24 hP25 hS26 => ?_)
    refine lv_aload_n hx hb d_M_orders_20 rfl (lv_at hl 0 rfl) ?_
    refine va_get (D := D) (ci := 6) (v := .ref (am 10)) (C := R_M) (T := F_M) (N := 24) hx hb hts (fun w h => List.mem_cons_of_mem _ (uw_M w h)) hown hK hP25 0 rfl rfl 13 (by decide) (hts _ (List.mem_cons_of_mem _ tb_613)) (fun _ h => h) rfl d_M_orders_21 ?_
    refine lv_iconst (v := 0) hx hb d_M_orders_24 (by decide) ?_
    obtain ⟨hg27, hf28⟩ := grd_ex hf22
    refine va_lald hx hb hK hP25 10 3 rfl rfl (inB_in hg27) d_M_orders_25 ?_
    cases hf28
    exact hend H23 L24 26 ls hP25 hS26 d_M_orders_26
  · have hf18 := ifp hf11 h16
    refine lv_lconst (v := 0) hx hb d_M_orders_13 (by decide) ?_
    cases hf18
    exact hend H12 L13 14 ls hP14 hS15 d_M_orders_14
theorem d_M_atRank_0 : decode b_M_atRank 0 = .ok (.aload_n 0, 1) := by decide +kernel
theorem d_M_atRank_1 : decode b_M_atRank 1 = .ok (.iconst 0, 1) := by decide +kernel
theorem d_M_atRank_2 : decode b_M_atRank 2 = .ok (.putfield 7, 3) := by decide +kernel
theorem d_M_atRank_5 : decode b_M_atRank 5 = .ok (.aload_n 0, 1) := by decide +kernel
theorem d_M_atRank_6 : decode b_M_atRank 6 = .ok (.iload_n 1, 1) := by decide +kernel
theorem d_M_atRank_7 : decode b_M_atRank 7 = .ok (.iload_n 2, 1) := by decide +kernel
theorem d_M_atRank_8 : decode b_M_atRank 8 = .ok (.invokevirtual 87, 3) := by decide +kernel
theorem d_M_atRank_11 : decode b_M_atRank 11 = .ok (.ifCond .eq 23, 3) := by decide +kernel
theorem d_M_atRank_14 : decode b_M_atRank 14 = .ok (.iload_n 3, 1) := by decide +kernel
theorem d_M_atRank_15 : decode b_M_atRank 15 = .ok (.ifCond .le 19, 3) := by decide +kernel
theorem d_M_atRank_18 : decode b_M_atRank 18 = .ok (.iload_n 3, 1) := by decide +kernel
theorem d_M_atRank_19 : decode b_M_atRank 19 = .ok (.bipush 17, 2) := by decide +kernel
theorem d_M_atRank_21 : decode b_M_atRank 21 = .ok (.if_icmp .ge 13, 3) := by decide +kernel
theorem d_M_atRank_24 : decode b_M_atRank 24 = .ok (.aload_n 0, 1) := by decide +kernel
theorem d_M_atRank_25 : decode b_M_atRank 25 = .ok (.iload_n 1, 1) := by decide +kernel
theorem d_M_atRank_26 : decode b_M_atRank 26 = .ok (.iload_n 2, 1) := by decide +kernel
theorem d_M_atRank_27 : decode b_M_atRank 27 = .ok (.iload_n 3, 1) := by decide +kernel
theorem d_M_atRank_28 : decode b_M_atRank 28 = .ok (.invokevirtual 138, 3) := by decide +kernel
theorem d_M_atRank_31 : decode b_M_atRank 31 = .ok (.goto 4, 3) := by decide +kernel
theorem d_M_atRank_34 : decode b_M_atRank 34 = .ok (.lconst 0, 1) := by decide +kernel
theorem d_M_atRank_35 : decode b_M_atRank 35 = .ok (.lreturn, 1) := by decide +kernel
def fm_M_atRank (p0 : Int32) (p1 : Int32) (p2 : Int32) (I0 : IS) (J0 : JS) : Option (Int64 × IS × JS) :=
  bnd (sV I0 0 (0 : Int32)) (fun I1 => ob1 (fm_M_there p0 p1 I1) (fun x9 => if x9 = 0 then some ((0 : Int64), I1, J0) else if p2 ≤ 0 then some ((0 : Int64), I1, J0) else if (17 : Int32) ≤ p2 then some ((0 : Int64), I1, J0) else ob3 (fm_M_rank p0 p1 p2 I1 J0) (fun y25 I26 J27 => some (y25, I26, J27))))
set_option maxHeartbeats 4000000 in
set_option maxRecDepth 100000 in
theorem cm_M_atRank (l : Launch) (D : va_G) (ca : Nat → ClassId) (am : Nat → Nat) {p0 : Int32} {p1 : Int32} {p2 : Int32} {I0 : IS} {J0 : JS} {r : Int64 × IS × JS} (hf : fm_M_atRank p0 p1 p2 I0 J0 = some r) : CtL l y_M_atRank (Cond.code y_M_atRank b_M_atRank 4 (some .long) :: TB) { frames := 5, cells := 0, slots := 0, locals := 117 } [.ref (am 0), .int p0, .int p1, .int p2] D cls_all (tysC ca) NN (wM ca am I0 J0) (wM ca am r.2.1 r.2.2) r.1 := by
  refine jd_metL (cc := b_M_atRank) (by decide) rfl (Nat.le_of_ble_eq_true rfl) (lv := [(0, .ref (am 0)), (1, .int p0), (2, .int p1), (3, .int p2)]) rfl ?_
  intro p e R s m args below meth c A Q ls cx hR hK hN hD0 hA hP hS hl hend
  have hx := cx.1
  have hb := cx.2.1
  have hml := cx.2.2.1
  have hown := cx.2.2.2.1
  have hts := cx.2.2.2.2
  have hD : ∀ I J, va_D A (wM ca am I J) := fun I J => jd_Dc hD0 rfl
  unfold fm_M_atRank at hf
  refine lv_aload_n hx hb d_M_atRank_0 rfl (lv_at hl 0 rfl) ?_
  refine lv_iconst (v := 0) hx hb d_M_atRank_1 (by decide) ?_
  obtain ⟨I1, e2, hf3⟩ := bnd_ex hf
  refine va_put (D := D) (ci := 6) (v := .int (0 : Int32)) (ty := .int) (C := R_M) (T := F_M) (N := 24) hx hb hts (fun w h => List.mem_cons_of_mem _ (uw_M w h)) ft_M tk_M n_M hown hK hP (hD I0 J0) hS 0 rfl rfl 0 (by decide) (hts _ (List.mem_cons_of_mem _ tb_600)) (fun _ h => h) rfl (by decide +kernel) rfl rfl (Nat.le_of_ble_eq_true rfl) d_M_atRank_2 (fun H4 L5 hp8 _ hS7 => ?_)
  have hP6 : va_P D cls_all (wM ca am I1 J0) H4 := by rw [e2]; exact hp8
  refine lv_aload_n hx hb d_M_atRank_5 rfl (lv_at hl 0 rfl) ?_
  refine lv_iload_n hx hb d_M_atRank_6 rfl (lv_at hl 1 rfl) ?_
  refine lv_iload_n hx hb d_M_atRank_7 rfl (lv_at hl 2 rfl) ?_
  obtain ⟨x9, hc10, hf11⟩ := ob1_ex hf3
  refine jd_ci (va_runV (As := [.int p0, .int p1]) (rest := []) cx (cm_M_there l D ca am hc10 H4.size) (cwV 2 hts (jd_gV tb_684 tb_685 tb_26 tb_47 tb_686) rfl rfl rfl ⟨rfl, by decide, by decide, rfl⟩ (by rw [hR]; decide)) ⟨jd_blind nWc, (va_recv hK hP6 (ci := 6) (q0 := 0) rfl rfl), (jd_pre (av := [.ref (am 0), .int p0, .int p1]) hP6 hK (hD I1 J0) (fun U h => nWm h hN))⟩ rfl rfl hl.1 rfl (lv_room (Nat.le_of_ble_eq_true rfl)) d_M_atRank_8 ⟨Nat.zero_le _, Nat.zero_le _⟩) hS7 (hD I1 J0) hA (fun H12 L13 hP14 hS15 => ?_)
  refine lv_if_eq (tgt := 34) hx hb d_M_atRank_11 rfl (fun h16 => ?_) (fun h16 => ?_)
  · have hf17 := ifp hf11 h16
    refine lv_lconst (v := 0) hx hb d_M_atRank_34 (by decide) ?_
    cases hf17
    exact hend H12 L13 35 ls hP14 hS15 d_M_atRank_35
  · have hf18 := ifn hf11 h16
    refine lv_iload_n hx hb d_M_atRank_14 rfl (lv_at hl 3 rfl) ?_
    refine lv_if_le (tgt := 34) hx hb d_M_atRank_15 rfl (fun h19 => ?_) (fun h19 => ?_)
    · have hf20 := ifp hf18 h19
      refine lv_lconst (v := 0) hx hb d_M_atRank_34 (by decide) ?_
      cases hf20
      exact hend H12 L13 35 ls hP14 hS15 d_M_atRank_35
    · have hf21 := ifn hf18 h19
      refine lv_iload_n hx hb d_M_atRank_18 rfl (lv_at hl 3 rfl) ?_
      refine lv_bipush (v := 17) hx hb d_M_atRank_19 (by decide) ?_
      refine lv_icmp_ge (tgt := 34) hx hb d_M_atRank_21 rfl (fun h22 => ?_) (fun h22 => ?_)
      · have hf23 := ifp hf21 h22
        refine lv_lconst (v := 0) hx hb d_M_atRank_34 (by decide) ?_
        cases hf23
        exact hend H12 L13 35 ls hP14 hS15 d_M_atRank_35
      · have hf24 := ifn hf21 h22
        refine lv_aload_n hx hb d_M_atRank_24 rfl (lv_at hl 0 rfl) ?_
        refine lv_iload_n hx hb d_M_atRank_25 rfl (lv_at hl 1 rfl) ?_
        refine lv_iload_n hx hb d_M_atRank_26 rfl (lv_at hl 2 rfl) ?_
        refine lv_iload_n hx hb d_M_atRank_27 rfl (lv_at hl 3 rfl) ?_
        obtain ⟨y25, I26, J27, hc28, hf29⟩ := ob3_ex hf24
        refine jd_cl (va_runV (As := [.int p0, .int p1, .int p2]) (rest := []) cx (cm_M_rank l D ca am hc28 H12.size) (cwV 3 hts (jd_gV tb_741 tb_742 tb_33 tb_47 tb_743) rfl rfl rfl ⟨rfl, by decide, by decide, rfl⟩ (by rw [hR]; decide)) ⟨jd_blind nWc, (va_recv hK hP14 (ci := 6) (q0 := 0) rfl rfl), (jd_pre (av := [.ref (am 0), .int p0, .int p1, .int p2]) hP14 hK (hD I1 J0) (fun U h => nWm h hN))⟩ rfl rfl hl.1 rfl (lv_room (Nat.le_of_ble_eq_true rfl)) d_M_atRank_28 ⟨Nat.zero_le _, Nat.zero_le _⟩) hS15 (hD I1 J0) hA (fun H30 L31 hP32 hS33 => ?_)
        refine lv_goto (tgt := 35) hx hb d_M_atRank_31 rfl ?_
        cases hf29
        exact hend H30 L31 35 ls hP32 hS33 d_M_atRank_35
theorem d_M_before_0 : decode b_M_before 0 = .ok (.aload_n 0, 1) := by decide +kernel
theorem d_M_before_1 : decode b_M_before 1 = .ok (.iconst 0, 1) := by decide +kernel
theorem d_M_before_2 : decode b_M_before 2 = .ok (.putfield 7, 3) := by decide +kernel
theorem d_M_before_5 : decode b_M_before 5 = .ok (.aload_n 0, 1) := by decide +kernel
theorem d_M_before_6 : decode b_M_before 6 = .ok (.iload_n 1, 1) := by decide +kernel
theorem d_M_before_7 : decode b_M_before 7 = .ok (.iload_n 2, 1) := by decide +kernel
theorem d_M_before_8 : decode b_M_before 8 = .ok (.invokevirtual 87, 3) := by decide +kernel
theorem d_M_before_11 : decode b_M_before 11 = .ok (.ifCond .eq 17, 3) := by decide +kernel
theorem d_M_before_14 : decode b_M_before 14 = .ok (.aload_n 0, 1) := by decide +kernel
theorem d_M_before_15 : decode b_M_before 15 = .ok (.iload_n 1, 1) := by decide +kernel
theorem d_M_before_16 : decode b_M_before 16 = .ok (.iload_n 3, 1) := by decide +kernel
theorem d_M_before_17 : decode b_M_before 17 = .ok (.invokevirtual 87, 3) := by decide +kernel
theorem d_M_before_20 : decode b_M_before 20 = .ok (.ifCond .eq 8, 3) := by decide +kernel
theorem d_M_before_23 : decode b_M_before 23 = .ok (.iload_n 2, 1) := by decide +kernel
theorem d_M_before_24 : decode b_M_before 24 = .ok (.iload_n 3, 1) := by decide +kernel
theorem d_M_before_25 : decode b_M_before 25 = .ok (.if_icmp .ne 5, 3) := by decide +kernel
theorem d_M_before_28 : decode b_M_before 28 = .ok (.lconst 0, 1) := by decide +kernel
theorem d_M_before_29 : decode b_M_before 29 = .ok (.lreturn, 1) := by decide +kernel
theorem d_M_before_30 : decode b_M_before 30 = .ok (.aload_n 0, 1) := by decide +kernel
theorem d_M_before_31 : decode b_M_before 31 = .ok (.iload_n 1, 1) := by decide +kernel
theorem d_M_before_32 : decode b_M_before 32 = .ok (.invokevirtual 124, 3) := by decide +kernel
theorem d_M_before_35 : decode b_M_before 35 = .ok (.lconst 0, 1) := by decide +kernel
theorem d_M_before_36 : decode b_M_before 36 = .ok (.lstore 4, 2) := by decide +kernel
theorem d_M_before_38 : decode b_M_before 38 = .ok (.iconst 0, 1) := by decide +kernel
theorem d_M_before_39 : decode b_M_before 39 = .ok (.istore 6, 2) := by decide +kernel
theorem d_M_before_41 : decode b_M_before 41 = .ok (.iload 6, 2) := by decide +kernel
theorem d_M_before_43 : decode b_M_before 43 = .ok (.aload_n 0, 1) := by decide +kernel
theorem d_M_before_44 : decode b_M_before 44 = .ok (.getfield 36, 3) := by decide +kernel
theorem d_M_before_47 : decode b_M_before 47 = .ok (.if_icmp .gt 64, 3) := by decide +kernel
theorem d_M_before_50 : decode b_M_before 50 = .ok (.aload_n 0, 1) := by decide +kernel
theorem d_M_before_51 : decode b_M_before 51 = .ok (.getfield 50, 3) := by decide +kernel
theorem d_M_before_54 : decode b_M_before 54 = .ok (.iload 6, 2) := by decide +kernel
theorem d_M_before_56 : decode b_M_before 56 = .ok (.laload, 1) := by decide +kernel
theorem d_M_before_57 : decode b_M_before 57 = .ok (.lconst 0, 1) := by decide +kernel
theorem d_M_before_58 : decode b_M_before 58 = .ok (.lcmp, 1) := by decide +kernel
theorem d_M_before_59 : decode b_M_before 59 = .ok (.ifCond .le 46, 3) := by decide +kernel
theorem d_M_before_62 : decode b_M_before 62 = .ok (.iload 6, 2) := by decide +kernel
theorem d_M_before_64 : decode b_M_before 64 = .ok (.iload_n 3, 1) := by decide +kernel
theorem d_M_before_65 : decode b_M_before 65 = .ok (.ishr, 1) := by decide +kernel
theorem d_M_before_66 : decode b_M_before 66 = .ok (.iconst 1, 1) := by decide +kernel
theorem d_M_before_67 : decode b_M_before 67 = .ok (.iand, 1) := by decide +kernel
theorem d_M_before_68 : decode b_M_before 68 = .ok (.ifCond .ne 37, 3) := by decide +kernel
theorem d_M_before_71 : decode b_M_before 71 = .ok (.aload_n 0, 1) := by decide +kernel
theorem d_M_before_72 : decode b_M_before 72 = .ok (.iload 6, 2) := by decide +kernel
theorem d_M_before_74 : decode b_M_before 74 = .ok (.iload_n 2, 1) := by decide +kernel
theorem d_M_before_75 : decode b_M_before 75 = .ok (.invokevirtual 98, 3) := by decide +kernel
theorem d_M_before_78 : decode b_M_before 78 = .ok (.ifCond .eq 27, 3) := by decide +kernel
theorem d_M_before_81 : decode b_M_before 81 = .ok (.lload 4, 2) := by decide +kernel
theorem d_M_before_83 : decode b_M_before 83 = .ok (.aload_n 0, 1) := by decide +kernel
theorem d_M_before_84 : decode b_M_before 84 = .ok (.getfield 50, 3) := by decide +kernel
theorem d_M_before_87 : decode b_M_before 87 = .ok (.iload 6, 2) := by decide +kernel
theorem d_M_before_89 : decode b_M_before 89 = .ok (.laload, 1) := by decide +kernel
theorem d_M_before_90 : decode b_M_before 90 = .ok (.aload_n 0, 1) := by decide +kernel
theorem d_M_before_91 : decode b_M_before 91 = .ok (.getfield 54, 3) := by decide +kernel
theorem d_M_before_94 : decode b_M_before 94 = .ok (.iload 6, 2) := by decide +kernel
theorem d_M_before_96 : decode b_M_before 96 = .ok (.iconst 1, 1) := by decide +kernel
theorem d_M_before_97 : decode b_M_before 97 = .ok (.iload_n 2, 1) := by decide +kernel
theorem d_M_before_98 : decode b_M_before 98 = .ok (.ishl, 1) := by decide +kernel
theorem d_M_before_99 : decode b_M_before 99 = .ok (.ior, 1) := by decide +kernel
theorem d_M_before_100 : decode b_M_before 100 = .ok (.laload, 1) := by decide +kernel
theorem d_M_before_101 : decode b_M_before 101 = .ok (.lmul, 1) := by decide +kernel
theorem d_M_before_102 : decode b_M_before 102 = .ok (.ladd, 1) := by decide +kernel
theorem d_M_before_103 : decode b_M_before 103 = .ok (.lstore 4, 2) := by decide +kernel
theorem d_M_before_105 : decode b_M_before 105 = .ok (.iinc 6 1, 3) := by decide +kernel
theorem d_M_before_108 : decode b_M_before 108 = .ok (.goto (-67), 3) := by decide +kernel
theorem d_M_before_111 : decode b_M_before 111 = .ok (.lload 4, 2) := by decide +kernel
theorem d_M_before_113 : decode b_M_before 113 = .ok (.lreturn, 1) := by decide +kernel
def fm_M_before_B41 (p1 : Int32) (p2 : Int32) (I32 : IS) (J33 : JS) (y48 : Int64) (x49 : Int32) : Option (Nat × Int64 × Int32) :=
  if (I32 8 0) < x49 then some (1, y48, x49) else grd (inB x49 65536) (if (lg_cmp (J33 0 x49.toNatClampNeg) (0 : Int64)) ≤ 0 then bnd (x49 + (1 : Int32)) (fun x67 => some (0, y48, x67)) else if ((x49 >>> (p2 &&& 31)) &&& (1 : Int32)) = 0 then ob1 (fm_M_mayCome x49 p1 I32) (fun x80 => if x80 = 0 then bnd (x49 + (1 : Int32)) (fun x90 => some (0, y48, x90)) else grd (inB x49 65536) (grd (inB (x49 ||| ((1 : Int32) <<< (p1 &&& 31))) 65536) (bnd (y48 + ((J33 0 x49.toNatClampNeg) * (J33 1 (x49 ||| ((1 : Int32) <<< (p1 &&& 31))).toNatClampNeg))) (fun y99 => bnd (x49 + (1 : Int32)) (fun x104 => some (0, y99, x104)))))) else bnd (x49 + (1 : Int32)) (fun x75 => some (0, y48, x75)))
def fm_M_before (p0 : Int32) (p1 : Int32) (p2 : Int32) (I0 : IS) (J0 : JS) : Option (Int64 × IS × JS) :=
  bnd (sV I0 0 (0 : Int32)) (fun I1 => ob1 (fm_M_there p0 p1 I1) (fun x9 => if x9 = 0 then some ((0 : Int64), I1, J0) else ob1 (fm_M_there p0 p2 I1) (fun x19 => if x19 = 0 then some ((0 : Int64), I1, J0) else if p1 = p2 then some ((0 : Int64), I1, J0) else ob2 (fm_M_countAll p0 I1 J0) (fun I32 J33 => ob3 (iter (fun z : Int64 × Int32 => fm_M_before_B41 p1 p2 I32 J33 z.1 z.2) FU ((0 : Int64), (0 : Int32))) (fun _ y110 x111 => some (y110, I32, J33))))))
set_option maxHeartbeats 4000000 in
set_option maxRecDepth 100000 in
theorem cm_M_before (l : Launch) (D : va_G) (ca : Nat → ClassId) (am : Nat → Nat) {p0 : Int32} {p1 : Int32} {p2 : Int32} {I0 : IS} {J0 : JS} {r : Int64 × IS × JS} (hf : fm_M_before p0 p1 p2 I0 J0 = some r) : CtL l y_M_before (Cond.code y_M_before b_M_before 7 (some .long) :: TB) { frames := 4, cells := 0, slots := 0, locals := 91 } [.ref (am 0), .int p0, .int p1, .int p2] D cls_all (tysC ca) NN (wM ca am I0 J0) (wM ca am r.2.1 r.2.2) r.1 := by
  refine jd_metL (cc := b_M_before) (by decide) rfl (Nat.le_of_ble_eq_true rfl) (lv := [(0, .ref (am 0)), (1, .int p0), (2, .int p1), (3, .int p2)]) rfl ?_
  intro p e R s m args below meth c A Q ls cx hR hK hN hD0 hA hP hS hl hend
  have hx := cx.1
  have hb := cx.2.1
  have hml := cx.2.2.1
  have hown := cx.2.2.2.1
  have hts := cx.2.2.2.2
  have hD : ∀ I J, va_D A (wM ca am I J) := fun I J => jd_Dc hD0 rfl
  unfold fm_M_before at hf
  refine lv_aload_n hx hb d_M_before_0 rfl (lv_at hl 0 rfl) ?_
  refine lv_iconst (v := 0) hx hb d_M_before_1 (by decide) ?_
  obtain ⟨I1, e2, hf3⟩ := bnd_ex hf
  refine va_put (D := D) (ci := 6) (v := .int (0 : Int32)) (ty := .int) (C := R_M) (T := F_M) (N := 24) hx hb hts (fun w h => List.mem_cons_of_mem _ (uw_M w h)) ft_M tk_M n_M hown hK hP (hD I0 J0) hS 0 rfl rfl 0 (by decide) (hts _ (List.mem_cons_of_mem _ tb_600)) (fun _ h => h) rfl (by decide +kernel) rfl rfl (Nat.le_of_ble_eq_true rfl) d_M_before_2 (fun H4 L5 hp8 _ hS7 => ?_)
  have hP6 : va_P D cls_all (wM ca am I1 J0) H4 := by rw [e2]; exact hp8
  refine lv_aload_n hx hb d_M_before_5 rfl (lv_at hl 0 rfl) ?_
  refine lv_iload_n hx hb d_M_before_6 rfl (lv_at hl 1 rfl) ?_
  refine lv_iload_n hx hb d_M_before_7 rfl (lv_at hl 2 rfl) ?_
  obtain ⟨x9, hc10, hf11⟩ := ob1_ex hf3
  refine jd_ci (va_runV (As := [.int p0, .int p1]) (rest := []) cx (cm_M_there l D ca am hc10 H4.size) (cwV 2 hts (jd_gV tb_684 tb_685 tb_26 tb_47 tb_686) rfl rfl rfl ⟨rfl, by decide, by decide, rfl⟩ (by rw [hR]; decide)) ⟨jd_blind nWc, (va_recv hK hP6 (ci := 6) (q0 := 0) rfl rfl), (jd_pre (av := [.ref (am 0), .int p0, .int p1]) hP6 hK (hD I1 J0) (fun U h => nWm h hN))⟩ rfl rfl hl.1 rfl (lv_room (Nat.le_of_ble_eq_true rfl)) d_M_before_8 ⟨Nat.zero_le _, Nat.zero_le _⟩) hS7 (hD I1 J0) hA (fun H12 L13 hP14 hS15 => ?_)
  refine lv_if_eq (tgt := 28) hx hb d_M_before_11 rfl (fun h16 => ?_) (fun h16 => ?_)
  · have hf17 := ifp hf11 h16
    refine lv_lconst (v := 0) hx hb d_M_before_28 (by decide) ?_
    cases hf17
    exact hend H12 L13 29 ls hP14 hS15 d_M_before_29
  · have hf18 := ifn hf11 h16
    refine lv_aload_n hx hb d_M_before_14 rfl (lv_at hl 0 rfl) ?_
    refine lv_iload_n hx hb d_M_before_15 rfl (lv_at hl 1 rfl) ?_
    refine lv_iload_n hx hb d_M_before_16 rfl (lv_at hl 3 rfl) ?_
    obtain ⟨x19, hc20, hf21⟩ := ob1_ex hf18
    refine jd_ci (va_runV (As := [.int p0, .int p2]) (rest := []) cx (cm_M_there l D ca am hc20 H12.size) (cwV 2 hts (jd_gV tb_684 tb_685 tb_26 tb_47 tb_686) rfl rfl rfl ⟨rfl, by decide, by decide, rfl⟩ (by rw [hR]; decide)) ⟨jd_blind nWc, (va_recv hK hP14 (ci := 6) (q0 := 0) rfl rfl), (jd_pre (av := [.ref (am 0), .int p0, .int p2]) hP14 hK (hD I1 J0) (fun U h => nWm h hN))⟩ rfl rfl hl.1 rfl (lv_room (Nat.le_of_ble_eq_true rfl)) d_M_before_17 ⟨Nat.zero_le _, Nat.zero_le _⟩) hS15 (hD I1 J0) hA (fun H22 L23 hP24 hS25 => ?_)
    refine lv_if_eq (tgt := 28) hx hb d_M_before_20 rfl (fun h26 => ?_) (fun h26 => ?_)
    · have hf27 := ifp hf21 h26
      refine lv_lconst (v := 0) hx hb d_M_before_28 (by decide) ?_
      cases hf27
      exact hend H22 L23 29 ls hP24 hS25 d_M_before_29
    · have hf28 := ifn hf21 h26
      refine lv_iload_n hx hb d_M_before_23 rfl (lv_at hl 2 rfl) ?_
      refine lv_iload_n hx hb d_M_before_24 rfl (lv_at hl 3 rfl) ?_
      refine lv_icmp_ne (tgt := 30) hx hb d_M_before_25 rfl (fun h29 => ?_) (fun h29 => ?_)
      · have hf30 := ifn hf28 h29
        refine lv_aload_n hx hb d_M_before_30 rfl (lv_at hl 0 rfl) ?_
        refine lv_iload_n hx hb d_M_before_31 rfl (lv_at hl 1 rfl) ?_
        obtain ⟨I32, J33, hc34, hf35⟩ := ob2_ex hf30
        refine jd_cv (va_runV (As := [.int p0]) (rest := []) cx (cm_M_countAll l D ca am hc34 H22.size) (cwV 1 hts (jd_gV tb_731 tb_732 tb_31 tb_47 tb_733) rfl rfl rfl ⟨rfl, by decide, by decide, rfl⟩ (by rw [hR]; decide)) ⟨jd_blind nWc, (va_recv hK hP24 (ci := 6) (q0 := 0) rfl rfl), (jd_pre (av := [.ref (am 0), .int p0]) hP24 hK (hD I1 J0) (fun U h => nWm h hN))⟩ rfl rfl hl.1 rfl (lv_room (Nat.le_of_ble_eq_true rfl)) d_M_before_32 ⟨Nat.zero_le _, Nat.zero_le _⟩) hS25 (hD I1 J0) hA (fun H36 L37 hP38 hS39 => ?_)
        refine lv_lconst (v := 0) hx hb d_M_before_35 (by decide) ?_
        refine lv_lstore hx hb d_M_before_36 hl (by decide) (lv' := [(4, .long (0 : Int64)), (0, .ref (am 0)), (1, .int p0), (2, .int p1), (3, .int p2)]) rfl (fun ls40 hl41 => ?_)
        refine lv_iconst (v := 0) hx hb d_M_before_38 (by decide) ?_
        refine lv_istore hx hb d_M_before_39 hl41 (by decide) (lv' := [(6, .int (0 : Int32)), (4, .long (0 : Int64)), (0, .ref (am 0)), (1, .int p0), (2, .int p1), (3, .int p2)]) rfl (fun ls42 hl43 => ?_)
        obtain ⟨tg109, y110, x111, ho112, hf113⟩ := ob3_ex hf35
        have kx41_1 : ∀ (H114 : Heap) (L115 : List Loc) (ls116 : Array Slot), va_P D cls_all (wM ca am I32 J33) H114 → va_S A s.heap H114 L115 → lv_has ls116 7 [(4, .long y110)] → W p l e R s m args below meth c H114 L115 0 0 Q (F0 m 111 ls116 []) := by
          intro H114 L115 ls116 hP117 hS118 hl119
          refine lv_lload hx hb d_M_before_111 (lv_at hl119 0 rfl) ?_
          cases hf113
          exact hend H114 L115 113 ls116 hP117 hS118 d_M_before_113
        refine iter_ind (C := fun z : Int64 × Int32 => ∀ (H50 : Heap) (L51 : List Loc) (ls52 : Array Slot), va_P D cls_all (wM ca am I32 J33) H50 → va_S A s.heap H50 L51 → lv_has ls52 7 [(0, .ref (am 0)), (2, .int p1), (3, .int p2), (4, .long z.1), (6, .int z.2)] → W p l e R s m args below meth c H50 L51 0 0 Q (F0 m 41 ls52 [])) (fun z47 o46 hz57 hc44 he45 => ?_) _ _ ho112 H36 L37 ls42 hP38 hS39 (lv_sub hl43 [2, 4, 5, 1, 0] rfl)
        obtain ⟨y48, x49⟩ := z47
        intro H50 L51 ls52 hP53 hS54 hl55
        have hf56 : fm_M_before_B41 p1 p2 I32 J33 y48 x49 = some o46 := hz57
        unfold fm_M_before_B41 at hf56
        refine lv_iload hx hb d_M_before_41 (lv_at hl55 4 rfl) ?_
        refine lv_aload_n hx hb d_M_before_43 rfl (lv_at hl55 0 rfl) ?_
        refine va_get (D := D) (ci := 6) (v := .int (I32 8 0)) (C := R_M) (T := F_M) (N := 24) hx hb hts (fun w h => List.mem_cons_of_mem _ (uw_M w h)) hown hK hP53 0 rfl rfl 8 (by decide) (hts _ (List.mem_cons_of_mem _ tb_608)) (fun _ h => h) rfl d_M_before_44 ?_
        refine lv_icmp_gt (tgt := 111) hx hb d_M_before_47 rfl (fun h58 => ?_) (fun h58 => ?_)
        · have hf59 := ifp hf56 h58
          cases hf59
          have e61 := he45 (by show (1 : Nat) ≠ 0; decide)
          cases e61
          exact kx41_1 H50 L51 ls52 hP53 hS54 (lv_sub hl55 [3] rfl)
        · have hf60 := ifn hf56 h58
          refine lv_aload_n hx hb d_M_before_50 rfl (lv_at hl55 0 rfl) ?_
          refine va_get (D := D) (ci := 6) (v := .ref (am 9)) (C := R_M) (T := F_M) (N := 24) hx hb hts (fun w h => List.mem_cons_of_mem _ (uw_M w h)) hown hK hP53 0 rfl rfl 12 (by decide) (hts _ (List.mem_cons_of_mem _ tb_612)) (fun _ h => h) rfl d_M_before_51 ?_
          refine lv_iload hx hb d_M_before_54 (lv_at hl55 4 rfl) ?_
          obtain ⟨hg62, hf63⟩ := grd_ex hf60
          refine va_lald hx hb hK hP53 9 3 rfl rfl (inB_in hg62) d_M_before_56 ?_
          refine lv_lconst (v := 0) hx hb d_M_before_57 (by decide) ?_
          refine W.lcmp hx hb d_M_before_58 ?_
          refine lv_if_le (tgt := 105) hx hb d_M_before_59 rfl (fun h64 => ?_) (fun h64 => ?_)
          · have hf65 := ifp hf63 h64
            obtain ⟨x67, e68, hf69⟩ := bnd_ex hf65
            refine lv_iinc hx hb d_M_before_105 hl55 (k := 4) rfl (v := x67) (by rw [e68]; rfl) (by decide) (lv' := [(6, .int x67), (0, .ref (am 0)), (2, .int p1), (3, .int p2), (4, .long y48)]) rfl (fun ls70 hl71 => ?_)
            refine lv_goto (tgt := 41) hx hb d_M_before_108 rfl ?_
            cases hf69
            exact hc44 rfl H50 L51 ls70 hP53 hS54 (lv_sub hl71 [1, 2, 3, 4, 0] rfl)
          · have hf66 := ifn hf63 h64
            refine lv_iload hx hb d_M_before_62 (lv_at hl55 4 rfl) ?_
            refine lv_iload_n hx hb d_M_before_64 rfl (lv_at hl55 2 rfl) ?_
            refine lv_ishr hx hb d_M_before_65 ?_
            refine lv_iconst (v := 1) hx hb d_M_before_66 (by decide) ?_
            refine lv_iand hx hb d_M_before_67 ?_
            refine lv_if_ne (tgt := 105) hx hb d_M_before_68 rfl (fun h72 => ?_) (fun h72 => ?_)
            · have hf73 := ifn hf66 h72
              obtain ⟨x75, e76, hf77⟩ := bnd_ex hf73
              refine lv_iinc hx hb d_M_before_105 hl55 (k := 4) rfl (v := x75) (by rw [e76]; rfl) (by decide) (lv' := [(6, .int x75), (0, .ref (am 0)), (2, .int p1), (3, .int p2), (4, .long y48)]) rfl (fun ls78 hl79 => ?_)
              refine lv_goto (tgt := 41) hx hb d_M_before_108 rfl ?_
              cases hf77
              exact hc44 rfl H50 L51 ls78 hP53 hS54 (lv_sub hl79 [1, 2, 3, 4, 0] rfl)
            · have hf74 := ifp hf66 h72
              refine lv_aload_n hx hb d_M_before_71 rfl (lv_at hl55 0 rfl) ?_
              refine lv_iload hx hb d_M_before_72 (lv_at hl55 4 rfl) ?_
              refine lv_iload_n hx hb d_M_before_74 rfl (lv_at hl55 1 rfl) ?_
              obtain ⟨x80, hc81, hf82⟩ := ob1_ex hf74
              refine jd_ci (va_runV (As := [.int x49, .int p1]) (rest := []) cx (cm_M_mayCome l D ca am hc81 H50.size) (cwV 2 hts (jd_gV tb_734 tb_735 tb_32 tb_47 tb_736) rfl rfl rfl ⟨rfl, by decide, by decide, rfl⟩ (by rw [hR]; decide)) ⟨jd_blind nWc, (va_recv hK hP53 (ci := 6) (q0 := 0) rfl rfl), (jd_pre (av := [.ref (am 0), .int x49, .int p1]) hP53 hK (hD I32 J33) (fun U h => nWm h hN))⟩ rfl rfl hl55.1 rfl (lv_room (Nat.le_of_ble_eq_true rfl)) d_M_before_75 ⟨Nat.zero_le _, Nat.zero_le _⟩) hS54 (hD I32 J33) hA (fun H83 L84 hP85 hS86 => ?_)
              refine lv_if_eq (tgt := 105) hx hb d_M_before_78 rfl (fun h87 => ?_) (fun h87 => ?_)
              · have hf88 := ifp hf82 h87
                obtain ⟨x90, e91, hf92⟩ := bnd_ex hf88
                refine lv_iinc hx hb d_M_before_105 hl55 (k := 4) rfl (v := x90) (by rw [e91]; rfl) (by decide) (lv' := [(6, .int x90), (0, .ref (am 0)), (2, .int p1), (3, .int p2), (4, .long y48)]) rfl (fun ls93 hl94 => ?_)
                refine lv_goto (tgt := 41) hx hb d_M_before_108 rfl ?_
                cases hf92
                exact hc44 rfl H83 L84 ls93 hP85 hS86 (lv_sub hl94 [1, 2, 3, 4, 0] rfl)
              · have hf89 := ifn hf82 h87
                refine lv_lload hx hb d_M_before_81 (lv_at hl55 3 rfl) ?_
                refine lv_aload_n hx hb d_M_before_83 rfl (lv_at hl55 0 rfl) ?_
                refine va_get (D := D) (ci := 6) (v := .ref (am 9)) (C := R_M) (T := F_M) (N := 24) hx hb hts (fun w h => List.mem_cons_of_mem _ (uw_M w h)) hown hK hP85 0 rfl rfl 12 (by decide) (hts _ (List.mem_cons_of_mem _ tb_612)) (fun _ h => h) rfl d_M_before_84 ?_
                refine lv_iload hx hb d_M_before_87 (lv_at hl55 4 rfl) ?_
                obtain ⟨hg95, hf96⟩ := grd_ex hf89
                refine va_lald hx hb hK hP85 9 3 rfl rfl (inB_in hg95) d_M_before_89 ?_
                refine lv_aload_n hx hb d_M_before_90 rfl (lv_at hl55 0 rfl) ?_
                refine va_get (D := D) (ci := 6) (v := .ref (am 10)) (C := R_M) (T := F_M) (N := 24) hx hb hts (fun w h => List.mem_cons_of_mem _ (uw_M w h)) hown hK hP85 0 rfl rfl 13 (by decide) (hts _ (List.mem_cons_of_mem _ tb_613)) (fun _ h => h) rfl d_M_before_91 ?_
                refine lv_iload hx hb d_M_before_94 (lv_at hl55 4 rfl) ?_
                refine lv_iconst (v := 1) hx hb d_M_before_96 (by decide) ?_
                refine lv_iload_n hx hb d_M_before_97 rfl (lv_at hl55 1 rfl) ?_
                refine lv_ishl hx hb d_M_before_98 ?_
                refine lv_ior hx hb d_M_before_99 ?_
                obtain ⟨hg97, hf98⟩ := grd_ex hf96
                refine va_lald hx hb hK hP85 10 3 rfl rfl (inB_in hg97) d_M_before_100 ?_
                refine lv_lmul hx hb d_M_before_101 ?_
                refine lv_ladd hx hb d_M_before_102 ?_
                obtain ⟨y99, e100, hf101⟩ := bnd_ex hf98
                refine jd_tnl e100 ?_
                refine lv_lstore hx hb d_M_before_103 hl55 (by decide) (lv' := [(4, .long y99), (0, .ref (am 0)), (2, .int p1), (3, .int p2), (6, .int x49)]) rfl (fun ls102 hl103 => ?_)
                obtain ⟨x104, e105, hf106⟩ := bnd_ex hf101
                refine lv_iinc hx hb d_M_before_105 hl103 (k := 4) rfl (v := x104) (by rw [e105]; rfl) (by decide) (lv' := [(6, .int x104), (4, .long y99), (0, .ref (am 0)), (2, .int p1), (3, .int p2)]) rfl (fun ls107 hl108 => ?_)
                refine lv_goto (tgt := 41) hx hb d_M_before_108 rfl ?_
                cases hf106
                exact hc44 rfl H83 L84 ls107 hP85 hS86 (lv_sub hl108 [2, 3, 4, 1, 0] rfl)
      · have hf31 := ifp hf28 h29
        refine lv_lconst (v := 0) hx hb d_M_before_28 (by decide) ?_
        cases hf31
        exact hend H22 L23 29 ls hP24 hS25 d_M_before_29
