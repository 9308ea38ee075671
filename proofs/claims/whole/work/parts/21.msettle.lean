theorem d_M_there_0 : decode b_M_there 0 = .ok (.iload_n 1, 1) := by decide +kernel
theorem d_M_there_1 : decode b_M_there 1 = .ok (.ifCond .lt 40, 3) := by decide +kernel
theorem d_M_there_4 : decode b_M_there 4 = .ok (.iload_n 1, 1) := by decide +kernel
theorem d_M_there_5 : decode b_M_there 5 = .ok (.bipush 12, 2) := by decide +kernel
theorem d_M_there_7 : decode b_M_there 7 = .ok (.if_icmp .ge 34, 3) := by decide +kernel
theorem d_M_there_10 : decode b_M_there 10 = .ok (.iload_n 2, 1) := by decide +kernel
theorem d_M_there_11 : decode b_M_there 11 = .ok (.ifCond .lt 30, 3) := by decide +kernel
theorem d_M_there_14 : decode b_M_there 14 = .ok (.iload_n 2, 1) := by decide +kernel
theorem d_M_there_15 : decode b_M_there 15 = .ok (.aload_n 0, 1) := by decide +kernel
theorem d_M_there_16 : decode b_M_there 16 = .ok (.getfield 13, 3) := by decide +kernel
theorem d_M_there_19 : decode b_M_there 19 = .ok (.iload_n 1, 1) := by decide +kernel
theorem d_M_there_20 : decode b_M_there 20 = .ok (.iaload, 1) := by decide +kernel
theorem d_M_there_21 : decode b_M_there 21 = .ok (.if_icmp .ge 20, 3) := by decide +kernel
theorem d_M_there_24 : decode b_M_there 24 = .ok (.aload_n 0, 1) := by decide +kernel
theorem d_M_there_25 : decode b_M_there 25 = .ok (.getfield 17, 3) := by decide +kernel
theorem d_M_there_28 : decode b_M_there 28 = .ok (.iload_n 1, 1) := by decide +kernel
theorem d_M_there_29 : decode b_M_there 29 = .ok (.iaload, 1) := by decide +kernel
theorem d_M_there_30 : decode b_M_there 30 = .ok (.iload_n 2, 1) := by decide +kernel
theorem d_M_there_31 : decode b_M_there 31 = .ok (.ishr, 1) := by decide +kernel
theorem d_M_there_32 : decode b_M_there 32 = .ok (.iconst 1, 1) := by decide +kernel
theorem d_M_there_33 : decode b_M_there 33 = .ok (.iand, 1) := by decide +kernel
theorem d_M_there_34 : decode b_M_there 34 = .ok (.ifCond .ne 7, 3) := by decide +kernel
theorem d_M_there_37 : decode b_M_there 37 = .ok (.iconst 1, 1) := by decide +kernel
theorem d_M_there_38 : decode b_M_there 38 = .ok (.goto 4, 3) := by decide +kernel
theorem d_M_there_41 : decode b_M_there 41 = .ok (.iconst 0, 1) := by decide +kernel
theorem d_M_there_42 : decode b_M_there 42 = .ok (.ireturn, 1) := by decide +kernel
def fm_M_there (p0 : Int32) (p1 : Int32) (I0 : IS) : Option (Int32) :=
  if p0 < 0 then some (0 : Int32) else if (12 : Int32) ≤ p0 then some (0 : Int32) else if p1 < 0 then some (0 : Int32) else grd (inB p0 12) (if (I0 1 p0.toNatClampNeg) ≤ p1 then some (0 : Int32) else grd (inB p0 12) (if (((I0 2 p0.toNatClampNeg) >>> (p1 &&& 31)) &&& (1 : Int32)) = 0 then some (1 : Int32) else some (0 : Int32)))
set_option maxHeartbeats 4000000 in
set_option maxRecDepth 100000 in
theorem cm_M_there (l : Launch) (D : va_G) (ca : Nat → ClassId) (am : Nat → Nat) {p0 : Int32} {p1 : Int32} {I0 : IS} {J0 : JS} {r : Int32} (hf : fm_M_there p0 p1 I0 = some r) : CtI l y_M_there (Cond.code y_M_there b_M_there 3 (some .boolean) :: TB) { frames := 0, cells := 0, slots := 0, locals := 0 } [.ref (am 0), .int p0, .int p1] D cls_all (tysC ca) NN (wM ca am I0 J0) (wM ca am I0 J0) r := by
  refine jd_metZ (cc := b_M_there) (by decide) rfl (Nat.le_of_ble_eq_true rfl) (lv := [(0, .ref (am 0)), (1, .int p0), (2, .int p1)]) rfl ?_
  intro p e R s m args below meth c A Q ls cx hR hK hN hD0 hA hP hS hl hend
  have hx := cx.1
  have hb := cx.2.1
  have hml := cx.2.2.1
  have hown := cx.2.2.2.1
  have hts := cx.2.2.2.2
  have hD : ∀ I J, va_D A (wM ca am I J) := fun I J => jd_Dc hD0 rfl
  unfold fm_M_there at hf
  refine lv_iload_n hx hb d_M_there_0 rfl (lv_at hl 1 rfl) ?_
  refine lv_if_lt (tgt := 41) hx hb d_M_there_1 rfl (fun h1 => ?_) (fun h1 => ?_)
  · have hf2 := ifp hf h1
    refine lv_iconst (v := 0) hx hb d_M_there_41 (by decide) ?_
    cases hf2
    exact hend s.heap [] 42 ls (show narrow .boolean (.int (0 : Int32)) = .int (0 : Int32) from rfl) hP hS d_M_there_42
  · have hf3 := ifn hf h1
    refine lv_iload_n hx hb d_M_there_4 rfl (lv_at hl 1 rfl) ?_
    refine lv_bipush (v := 12) hx hb d_M_there_5 (by decide) ?_
    refine lv_icmp_ge (tgt := 41) hx hb d_M_there_7 rfl (fun h4 => ?_) (fun h4 => ?_)
    · have hf5 := ifp hf3 h4
      refine lv_iconst (v := 0) hx hb d_M_there_41 (by decide) ?_
      cases hf5
      exact hend s.heap [] 42 ls (show narrow .boolean (.int (0 : Int32)) = .int (0 : Int32) from rfl) hP hS d_M_there_42
    · have hf6 := ifn hf3 h4
      refine lv_iload_n hx hb d_M_there_10 rfl (lv_at hl 2 rfl) ?_
      refine lv_if_lt (tgt := 41) hx hb d_M_there_11 rfl (fun h7 => ?_) (fun h7 => ?_)
      · have hf8 := ifp hf6 h7
        refine lv_iconst (v := 0) hx hb d_M_there_41 (by decide) ?_
        cases hf8
        exact hend s.heap [] 42 ls (show narrow .boolean (.int (0 : Int32)) = .int (0 : Int32) from rfl) hP hS d_M_there_42
      · have hf9 := ifn hf6 h7
        refine lv_iload_n hx hb d_M_there_14 rfl (lv_at hl 2 rfl) ?_
        refine lv_aload_n hx hb d_M_there_15 rfl (lv_at hl 0 rfl) ?_
        refine va_get (D := D) (ci := 6) (v := .ref (am 1)) (C := R_M) (T := F_M) (N := 24) hx hb hts (fun w h => List.mem_cons_of_mem _ (uw_M w h)) hown hK hP 0 rfl rfl 1 (by decide) (hts _ (List.mem_cons_of_mem _ tb_601)) (fun _ h => h) rfl d_M_there_16 ?_
        refine lv_iload_n hx hb d_M_there_19 rfl (lv_at hl 1 rfl) ?_
        obtain ⟨hg10, hf11⟩ := grd_ex hf9
        refine va_iald hx hb hK hP 1 2 rfl rfl (inB_in hg10) d_M_there_20 ?_
        refine lv_icmp_ge (tgt := 41) hx hb d_M_there_21 rfl (fun h12 => ?_) (fun h12 => ?_)
        · have hf13 := ifp hf11 h12
          refine lv_iconst (v := 0) hx hb d_M_there_41 (by decide) ?_
          cases hf13
          exact hend s.heap [] 42 ls (show narrow .boolean (.int (0 : Int32)) = .int (0 : Int32) from rfl) hP hS d_M_there_42
        · have hf14 := ifn hf11 h12
          refine lv_aload_n hx hb d_M_there_24 rfl (lv_at hl 0 rfl) ?_
          refine va_get (D := D) (ci := 6) (v := .ref (am 2)) (C := R_M) (T := F_M) (N := 24) hx hb hts (fun w h => List.mem_cons_of_mem _ (uw_M w h)) hown hK hP 0 rfl rfl 2 (by decide) (hts _ (List.mem_cons_of_mem _ tb_602)) (fun _ h => h) rfl d_M_there_25 ?_
          refine lv_iload_n hx hb d_M_there_28 rfl (lv_at hl 1 rfl) ?_
          obtain ⟨hg15, hf16⟩ := grd_ex hf14
          refine va_iald hx hb hK hP 2 2 rfl rfl (inB_in hg15) d_M_there_29 ?_
          refine lv_iload_n hx hb d_M_there_30 rfl (lv_at hl 2 rfl) ?_
          refine lv_ishr hx hb d_M_there_31 ?_
          refine lv_iconst (v := 1) hx hb d_M_there_32 (by decide) ?_
          refine lv_iand hx hb d_M_there_33 ?_
          refine lv_if_ne (tgt := 41) hx hb d_M_there_34 rfl (fun h17 => ?_) (fun h17 => ?_)
          · have hf18 := ifn hf16 h17
            refine lv_iconst (v := 0) hx hb d_M_there_41 (by decide) ?_
            cases hf18
            exact hend s.heap [] 42 ls (show narrow .boolean (.int (0 : Int32)) = .int (0 : Int32) from rfl) hP hS d_M_there_42
          · have hf19 := ifp hf16 h17
            refine lv_iconst (v := 1) hx hb d_M_there_37 (by decide) ?_
            refine lv_goto (tgt := 42) hx hb d_M_there_38 rfl ?_
            cases hf19
            exact hend s.heap [] 42 ls (show narrow .boolean (.int (1 : Int32)) = .int (1 : Int32) from rfl) hP hS d_M_there_42
theorem d_M_isHeat_0 : decode b_M_isHeat 0 = .ok (.iload_n 1, 1) := by decide +kernel
theorem d_M_isHeat_1 : decode b_M_isHeat 1 = .ok (.ifCond .lt 22, 3) := by decide +kernel
theorem d_M_isHeat_4 : decode b_M_isHeat 4 = .ok (.iload_n 1, 1) := by decide +kernel
theorem d_M_isHeat_5 : decode b_M_isHeat 5 = .ok (.bipush 12, 2) := by decide +kernel
theorem d_M_isHeat_7 : decode b_M_isHeat 7 = .ok (.if_icmp .ge 16, 3) := by decide +kernel
theorem d_M_isHeat_10 : decode b_M_isHeat 10 = .ok (.aload_n 0, 1) := by decide +kernel
theorem d_M_isHeat_11 : decode b_M_isHeat 11 = .ok (.getfield 13, 3) := by decide +kernel
theorem d_M_isHeat_14 : decode b_M_isHeat 14 = .ok (.iload_n 1, 1) := by decide +kernel
theorem d_M_isHeat_15 : decode b_M_isHeat 15 = .ok (.iaload, 1) := by decide +kernel
theorem d_M_isHeat_16 : decode b_M_isHeat 16 = .ok (.ifCond .le 7, 3) := by decide +kernel
theorem d_M_isHeat_19 : decode b_M_isHeat 19 = .ok (.iconst 1, 1) := by decide +kernel
theorem d_M_isHeat_20 : decode b_M_isHeat 20 = .ok (.goto 4, 3) := by decide +kernel
theorem d_M_isHeat_23 : decode b_M_isHeat 23 = .ok (.iconst 0, 1) := by decide +kernel
theorem d_M_isHeat_24 : decode b_M_isHeat 24 = .ok (.ireturn, 1) := by decide +kernel
def fm_M_isHeat (p0 : Int32) (I0 : IS) : Option (Int32) :=
  if p0 < 0 then some (0 : Int32) else if (12 : Int32) ≤ p0 then some (0 : Int32) else grd (inB p0 12) (if (I0 1 p0.toNatClampNeg) ≤ 0 then some (0 : Int32) else some (1 : Int32))
set_option maxHeartbeats 4000000 in
set_option maxRecDepth 100000 in
theorem cm_M_isHeat (l : Launch) (D : va_G) (ca : Nat → ClassId) (am : Nat → Nat) {p0 : Int32} {I0 : IS} {J0 : JS} {r : Int32} (hf : fm_M_isHeat p0 I0 = some r) : CtI l y_M_isHeat (Cond.code y_M_isHeat b_M_isHeat 2 (some .boolean) :: TB) { frames := 0, cells := 0, slots := 0, locals := 0 } [.ref (am 0), .int p0] D cls_all (tysC ca) NN (wM ca am I0 J0) (wM ca am I0 J0) r := by
  refine jd_metZ (cc := b_M_isHeat) (by decide) rfl (Nat.le_of_ble_eq_true rfl) (lv := [(0, .ref (am 0)), (1, .int p0)]) rfl ?_
  intro p e R s m args below meth c A Q ls cx hR hK hN hD0 hA hP hS hl hend
  have hx := cx.1
  have hb := cx.2.1
  have hml := cx.2.2.1
  have hown := cx.2.2.2.1
  have hts := cx.2.2.2.2
  have hD : ∀ I J, va_D A (wM ca am I J) := fun I J => jd_Dc hD0 rfl
  unfold fm_M_isHeat at hf
  refine lv_iload_n hx hb d_M_isHeat_0 rfl (lv_at hl 1 rfl) ?_
  refine lv_if_lt (tgt := 23) hx hb d_M_isHeat_1 rfl (fun h1 => ?_) (fun h1 => ?_)
  · have hf2 := ifp hf h1
    refine lv_iconst (v := 0) hx hb d_M_isHeat_23 (by decide) ?_
    cases hf2
    exact hend s.heap [] 24 ls (show narrow .boolean (.int (0 : Int32)) = .int (0 : Int32) from rfl) hP hS d_M_isHeat_24
  · have hf3 := ifn hf h1
    refine lv_iload_n hx hb d_M_isHeat_4 rfl (lv_at hl 1 rfl) ?_
    refine lv_bipush (v := 12) hx hb d_M_isHeat_5 (by decide) ?_
    refine lv_icmp_ge (tgt := 23) hx hb d_M_isHeat_7 rfl (fun h4 => ?_) (fun h4 => ?_)
    · have hf5 := ifp hf3 h4
      refine lv_iconst (v := 0) hx hb d_M_isHeat_23 (by decide) ?_
      cases hf5
      exact hend s.heap [] 24 ls (show narrow .boolean (.int (0 : Int32)) = .int (0 : Int32) from rfl) hP hS d_M_isHeat_24
    · have hf6 := ifn hf3 h4
      refine lv_aload_n hx hb d_M_isHeat_10 rfl (lv_at hl 0 rfl) ?_
      refine va_get (D := D) (ci := 6) (v := .ref (am 1)) (C := R_M) (T := F_M) (N := 24) hx hb hts (fun w h => List.mem_cons_of_mem _ (uw_M w h)) hown hK hP 0 rfl rfl 1 (by decide) (hts _ (List.mem_cons_of_mem _ tb_601)) (fun _ h => h) rfl d_M_isHeat_11 ?_
      refine lv_iload_n hx hb d_M_isHeat_14 rfl (lv_at hl 1 rfl) ?_
      obtain ⟨hg7, hf8⟩ := grd_ex hf6
      refine va_iald hx hb hK hP 1 2 rfl rfl (inB_in hg7) d_M_isHeat_15 ?_
      refine lv_if_le (tgt := 23) hx hb d_M_isHeat_16 rfl (fun h9 => ?_) (fun h9 => ?_)
      · have hf10 := ifp hf8 h9
        refine lv_iconst (v := 0) hx hb d_M_isHeat_23 (by decide) ?_
        cases hf10
        exact hend s.heap [] 24 ls (show narrow .boolean (.int (0 : Int32)) = .int (0 : Int32) from rfl) hP hS d_M_isHeat_24
      · have hf11 := ifn hf8 h9
        refine lv_iconst (v := 1) hx hb d_M_isHeat_19 (by decide) ?_
        refine lv_goto (tgt := 24) hx hb d_M_isHeat_20 rfl ?_
        cases hf11
        exact hend s.heap [] 24 ls (show narrow .boolean (.int (1 : Int32)) = .int (1 : Int32) from rfl) hP hS d_M_isHeat_24
theorem d_M_inForce_0 : decode b_M_inForce 0 = .ok (.sipush 400, 3) := by decide +kernel
theorem d_M_inForce_3 : decode b_M_inForce 3 = .ok (.iload_n 1, 1) := by decide +kernel
theorem d_M_inForce_4 : decode b_M_inForce 4 = .ok (.imul, 1) := by decide +kernel
theorem d_M_inForce_5 : decode b_M_inForce 5 = .ok (.iload_n 2, 1) := by decide +kernel
theorem d_M_inForce_6 : decode b_M_inForce 6 = .ok (.iadd, 1) := by decide +kernel
theorem d_M_inForce_7 : decode b_M_inForce 7 = .ok (.istore_n 3, 1) := by decide +kernel
theorem d_M_inForce_8 : decode b_M_inForce 8 = .ok (.aload_n 0, 1) := by decide +kernel
theorem d_M_inForce_9 : decode b_M_inForce 9 = .ok (.getfield 29, 3) := by decide +kernel
theorem d_M_inForce_12 : decode b_M_inForce 12 = .ok (.iload_n 3, 1) := by decide +kernel
theorem d_M_inForce_13 : decode b_M_inForce 13 = .ok (.baload, 1) := by decide +kernel
theorem d_M_inForce_14 : decode b_M_inForce 14 = .ok (.ifCond .ne 35, 3) := by decide +kernel
theorem d_M_inForce_17 : decode b_M_inForce 17 = .ok (.aload_n 0, 1) := by decide +kernel
theorem d_M_inForce_18 : decode b_M_inForce 18 = .ok (.iload_n 1, 1) := by decide +kernel
theorem d_M_inForce_19 : decode b_M_inForce 19 = .ok (.aload_n 0, 1) := by decide +kernel
theorem d_M_inForce_20 : decode b_M_inForce 20 = .ok (.getfield 23, 3) := by decide +kernel
theorem d_M_inForce_23 : decode b_M_inForce 23 = .ok (.iload_n 3, 1) := by decide +kernel
theorem d_M_inForce_24 : decode b_M_inForce 24 = .ok (.iaload, 1) := by decide +kernel
theorem d_M_inForce_25 : decode b_M_inForce 25 = .ok (.invokevirtual 87, 3) := by decide +kernel
theorem d_M_inForce_28 : decode b_M_inForce 28 = .ok (.ifCond .eq 21, 3) := by decide +kernel
theorem d_M_inForce_31 : decode b_M_inForce 31 = .ok (.aload_n 0, 1) := by decide +kernel
theorem d_M_inForce_32 : decode b_M_inForce 32 = .ok (.iload_n 1, 1) := by decide +kernel
theorem d_M_inForce_33 : decode b_M_inForce 33 = .ok (.aload_n 0, 1) := by decide +kernel
theorem d_M_inForce_34 : decode b_M_inForce 34 = .ok (.getfield 26, 3) := by decide +kernel
theorem d_M_inForce_37 : decode b_M_inForce 37 = .ok (.iload_n 3, 1) := by decide +kernel
theorem d_M_inForce_38 : decode b_M_inForce 38 = .ok (.iaload, 1) := by decide +kernel
theorem d_M_inForce_39 : decode b_M_inForce 39 = .ok (.invokevirtual 87, 3) := by decide +kernel
theorem d_M_inForce_42 : decode b_M_inForce 42 = .ok (.ifCond .eq 7, 3) := by decide +kernel
theorem d_M_inForce_45 : decode b_M_inForce 45 = .ok (.iconst 1, 1) := by decide +kernel
theorem d_M_inForce_46 : decode b_M_inForce 46 = .ok (.goto 4, 3) := by decide +kernel
theorem d_M_inForce_49 : decode b_M_inForce 49 = .ok (.iconst 0, 1) := by decide +kernel
theorem d_M_inForce_50 : decode b_M_inForce 50 = .ok (.ireturn, 1) := by decide +kernel
def fm_M_inForce (p0 : Int32) (p1 : Int32) (I0 : IS) : Option (Int32) :=
  bnd (((400 : Int32) * p0) + p1) (fun x1 => grd (inB x1 4800) (if (I0 6 x1.toNatClampNeg) = 0 then grd (inB x1 4800) (ob1 (fm_M_there p0 (I0 4 x1.toNatClampNeg) I0) (fun x13 => if x13 = 0 then some (0 : Int32) else grd (inB x1 4800) (ob1 (fm_M_there p0 (I0 5 x1.toNatClampNeg) I0) (fun x25 => if x25 = 0 then some (0 : Int32) else some (1 : Int32))))) else some (0 : Int32)))
set_option maxHeartbeats 4000000 in
set_option maxRecDepth 100000 in
theorem cm_M_inForce (l : Launch) (D : va_G) (ca : Nat → ClassId) (am : Nat → Nat) {p0 : Int32} {p1 : Int32} {I0 : IS} {J0 : JS} {r : Int32} (hf : fm_M_inForce p0 p1 I0 = some r) : CtI l y_M_inForce (Cond.code y_M_inForce b_M_inForce 4 (some .boolean) :: TB) { frames := 1, cells := 0, slots := 0, locals := 22 } [.ref (am 0), .int p0, .int p1] D cls_all (tysC ca) NN (wM ca am I0 J0) (wM ca am I0 J0) r := by
  refine jd_metZ (cc := b_M_inForce) (by decide) rfl (Nat.le_of_ble_eq_true rfl) (lv := [(0, .ref (am 0)), (1, .int p0), (2, .int p1)]) rfl ?_
  intro p e R s m args below meth c A Q ls cx hR hK hN hD0 hA hP hS hl hend
  have hx := cx.1
  have hb := cx.2.1
  have hml := cx.2.2.1
  have hown := cx.2.2.2.1
  have hts := cx.2.2.2.2
  have hD : ∀ I J, va_D A (wM ca am I J) := fun I J => jd_Dc hD0 rfl
  unfold fm_M_inForce at hf
  refine lv_sipush (v := 400) hx hb d_M_inForce_0 (by decide) ?_
  refine lv_iload_n hx hb d_M_inForce_3 rfl (lv_at hl 1 rfl) ?_
  refine lv_imul hx hb d_M_inForce_4 ?_
  refine lv_iload_n hx hb d_M_inForce_5 rfl (lv_at hl 2 rfl) ?_
  refine lv_iadd hx hb d_M_inForce_6 ?_
  obtain ⟨x1, e2, hf3⟩ := bnd_ex hf
  refine jd_tni e2 ?_
  refine lv_istore_n hx hb d_M_inForce_7 rfl hl (by decide) (lv' := [(3, .int x1), (0, .ref (am 0)), (1, .int p0), (2, .int p1)]) rfl (fun ls4 hl5 => ?_)
  refine lv_aload_n hx hb d_M_inForce_8 rfl (lv_at hl5 1 rfl) ?_
  refine va_get (D := D) (ci := 6) (v := .ref (am 6)) (C := R_M) (T := F_M) (N := 24) hx hb hts (fun w h => List.mem_cons_of_mem _ (uw_M w h)) hown hK hP 0 rfl rfl 6 (by decide) (hts _ (List.mem_cons_of_mem _ tb_606)) (fun _ h => h) rfl d_M_inForce_9 ?_
  refine lv_iload_n hx hb d_M_inForce_12 rfl (lv_at hl5 0 rfl) ?_
  obtain ⟨hg6, hf7⟩ := grd_ex hf3
  refine va_zald hx hb hK hP 6 1 rfl rfl (inB_in hg6) d_M_inForce_13 ?_
  refine lv_if_ne (tgt := 49) hx hb d_M_inForce_14 rfl (fun h8 => ?_) (fun h8 => ?_)
  · have hf9 := ifn hf7 h8
    refine lv_iconst (v := 0) hx hb d_M_inForce_49 (by decide) ?_
    cases hf9
    exact hend s.heap [] 50 ls4 (show narrow .boolean (.int (0 : Int32)) = .int (0 : Int32) from rfl) hP hS d_M_inForce_50
  · have hf10 := ifp hf7 h8
    refine lv_aload_n hx hb d_M_inForce_17 rfl (lv_at hl5 1 rfl) ?_
    refine lv_iload_n hx hb d_M_inForce_18 rfl (lv_at hl5 2 rfl) ?_
    refine lv_aload_n hx hb d_M_inForce_19 rfl (lv_at hl5 1 rfl) ?_
    refine va_get (D := D) (ci := 6) (v := .ref (am 4)) (C := R_M) (T := F_M) (N := 24) hx hb hts (fun w h => List.mem_cons_of_mem _ (uw_M w h)) hown hK hP 0 rfl rfl 4 (by decide) (hts _ (List.mem_cons_of_mem _ tb_604)) (fun _ h => h) rfl d_M_inForce_20 ?_
    refine lv_iload_n hx hb d_M_inForce_23 rfl (lv_at hl5 0 rfl) ?_
    obtain ⟨hg11, hf12⟩ := grd_ex hf10
    refine va_iald hx hb hK hP 4 2 rfl rfl (inB_in hg11) d_M_inForce_24 ?_
    obtain ⟨x13, hc14, hf15⟩ := ob1_ex hf12
    refine jd_ci (va_runV (As := [.int p0, .int (I0 4 x1.toNatClampNeg)]) (rest := []) cx (cm_M_there l D ca am hc14 s.heap.size) (cwV 2 hts (jd_gV tb_684 tb_685 tb_26 tb_47 tb_686) rfl rfl rfl ⟨rfl, by decide, by decide, rfl⟩ (by rw [hR]; decide)) ⟨jd_blind nWc, (va_recv hK hP (ci := 6) (q0 := 0) rfl rfl), (jd_pre (av := [.ref (am 0), .int p0, .int (I0 4 x1.toNatClampNeg)]) hP hK (hD I0 J0) (fun U h => nWm h hN))⟩ rfl rfl hl5.1 rfl (lv_room (Nat.le_of_ble_eq_true rfl)) d_M_inForce_25 ⟨Nat.zero_le _, Nat.zero_le _⟩) hS (hD I0 J0) hA (fun H16 L17 hP18 hS19 => ?_)
    refine lv_if_eq (tgt := 49) hx hb d_M_inForce_28 rfl (fun h20 => ?_) (fun h20 => ?_)
    · have hf21 := ifp hf15 h20
      refine lv_iconst (v := 0) hx hb d_M_inForce_49 (by decide) ?_
      cases hf21
      exact hend H16 L17 50 ls4 (show narrow .boolean (.int (0 : Int32)) = .int (0 : Int32) from rfl) hP18 hS19 d_M_inForce_50
    · have hf22 := ifn hf15 h20
      refine lv_aload_n hx hb d_M_inForce_31 rfl (lv_at hl5 1 rfl) ?_
      refine lv_iload_n hx hb d_M_inForce_32 rfl (lv_at hl5 2 rfl) ?_
      refine lv_aload_n hx hb d_M_inForce_33 rfl (lv_at hl5 1 rfl) ?_
      refine va_get (D := D) (ci := 6) (v := .ref (am 5)) (C := R_M) (T := F_M) (N := 24) hx hb hts (fun w h => List.mem_cons_of_mem _ (uw_M w h)) hown hK hP18 0 rfl rfl 5 (by decide) (hts _ (List.mem_cons_of_mem _ tb_605)) (fun _ h => h) rfl d_M_inForce_34 ?_
      refine lv_iload_n hx hb d_M_inForce_37 rfl (lv_at hl5 0 rfl) ?_
      obtain ⟨hg23, hf24⟩ := grd_ex hf22
      refine va_iald hx hb hK hP18 5 2 rfl rfl (inB_in hg23) d_M_inForce_38 ?_
      obtain ⟨x25, hc26, hf27⟩ := ob1_ex hf24
      refine jd_ci (va_runV (As := [.int p0, .int (I0 5 x1.toNatClampNeg)]) (rest := []) cx (cm_M_there l D ca am hc26 H16.size) (cwV 2 hts (jd_gV tb_684 tb_685 tb_26 tb_47 tb_686) rfl rfl rfl ⟨rfl, by decide, by decide, rfl⟩ (by rw [hR]; decide)) ⟨jd_blind nWc, (va_recv hK hP18 (ci := 6) (q0 := 0) rfl rfl), (jd_pre (av := [.ref (am 0), .int p0, .int (I0 5 x1.toNatClampNeg)]) hP18 hK (hD I0 J0) (fun U h => nWm h hN))⟩ rfl rfl hl5.1 rfl (lv_room (Nat.le_of_ble_eq_true rfl)) d_M_inForce_39 ⟨Nat.zero_le _, Nat.zero_le _⟩) hS19 (hD I0 J0) hA (fun H28 L29 hP30 hS31 => ?_)
      refine lv_if_eq (tgt := 49) hx hb d_M_inForce_42 rfl (fun h32 => ?_) (fun h32 => ?_)
      · have hf33 := ifp hf27 h32
        refine lv_iconst (v := 0) hx hb d_M_inForce_49 (by decide) ?_
        cases hf33
        exact hend H28 L29 50 ls4 (show narrow .boolean (.int (0 : Int32)) = .int (0 : Int32) from rfl) hP30 hS31 d_M_inForce_50
      · have hf34 := ifn hf27 h32
        refine lv_iconst (v := 1) hx hb d_M_inForce_45 (by decide) ?_
        refine lv_goto (tgt := 50) hx hb d_M_inForce_46 rfl ?_
        cases hf34
        exact hend H28 L29 50 ls4 (show narrow .boolean (.int (1 : Int32)) = .int (1 : Int32) from rfl) hP30 hS31 d_M_inForce_50
theorem d_M_settle_0 : decode b_M_settle 0 = .ok (.aload_n 0, 1) := by decide +kernel
theorem d_M_settle_1 : decode b_M_settle 1 = .ok (.getfield 33, 3) := by decide +kernel
theorem d_M_settle_4 : decode b_M_settle 4 = .ok (.iload_n 1, 1) := by decide +kernel
theorem d_M_settle_5 : decode b_M_settle 5 = .ok (.if_icmp .ne 4, 3) := by decide +kernel
theorem d_M_settle_8 : decode b_M_settle 8 = .ok (.return_, 1) := by decide +kernel
theorem d_M_settle_9 : decode b_M_settle 9 = .ok (.aload_n 0, 1) := by decide +kernel
theorem d_M_settle_10 : decode b_M_settle 10 = .ok (.iload_n 1, 1) := by decide +kernel
theorem d_M_settle_11 : decode b_M_settle 11 = .ok (.putfield 33, 3) := by decide +kernel
theorem d_M_settle_14 : decode b_M_settle 14 = .ok (.aload_n 0, 1) := by decide +kernel
theorem d_M_settle_15 : decode b_M_settle 15 = .ok (.iconst 0, 1) := by decide +kernel
theorem d_M_settle_16 : decode b_M_settle 16 = .ok (.putfield 45, 3) := by decide +kernel
theorem d_M_settle_19 : decode b_M_settle 19 = .ok (.aload_n 0, 1) := by decide +kernel
theorem d_M_settle_20 : decode b_M_settle 20 = .ok (.iconst 0, 1) := by decide +kernel
theorem d_M_settle_21 : decode b_M_settle 21 = .ok (.putfield 36, 3) := by decide +kernel
theorem d_M_settle_24 : decode b_M_settle 24 = .ok (.iconst 0, 1) := by decide +kernel
theorem d_M_settle_25 : decode b_M_settle 25 = .ok (.istore_n 2, 1) := by decide +kernel
theorem d_M_settle_26 : decode b_M_settle 26 = .ok (.iload_n 2, 1) := by decide +kernel
theorem d_M_settle_27 : decode b_M_settle 27 = .ok (.bipush 16, 2) := by decide +kernel
theorem d_M_settle_29 : decode b_M_settle 29 = .ok (.if_icmp .ge 44, 3) := by decide +kernel
theorem d_M_settle_32 : decode b_M_settle 32 = .ok (.aload_n 0, 1) := by decide +kernel
theorem d_M_settle_33 : decode b_M_settle 33 = .ok (.getfield 39, 3) := by decide +kernel
theorem d_M_settle_36 : decode b_M_settle 36 = .ok (.iload_n 2, 1) := by decide +kernel
theorem d_M_settle_37 : decode b_M_settle 37 = .ok (.iconst 0, 1) := by decide +kernel
theorem d_M_settle_38 : decode b_M_settle 38 = .ok (.iastore, 1) := by decide +kernel
theorem d_M_settle_39 : decode b_M_settle 39 = .ok (.aload_n 0, 1) := by decide +kernel
theorem d_M_settle_40 : decode b_M_settle 40 = .ok (.getfield 42, 3) := by decide +kernel
theorem d_M_settle_43 : decode b_M_settle 43 = .ok (.iload_n 2, 1) := by decide +kernel
theorem d_M_settle_44 : decode b_M_settle 44 = .ok (.iconst 0, 1) := by decide +kernel
theorem d_M_settle_45 : decode b_M_settle 45 = .ok (.iastore, 1) := by decide +kernel
theorem d_M_settle_46 : decode b_M_settle 46 = .ok (.aload_n 0, 1) := by decide +kernel
theorem d_M_settle_47 : decode b_M_settle 47 = .ok (.iload_n 1, 1) := by decide +kernel
theorem d_M_settle_48 : decode b_M_settle 48 = .ok (.iload_n 2, 1) := by decide +kernel
theorem d_M_settle_49 : decode b_M_settle 49 = .ok (.invokevirtual 87, 3) := by decide +kernel
theorem d_M_settle_52 : decode b_M_settle 52 = .ok (.ifCond .eq 15, 3) := by decide +kernel
theorem d_M_settle_55 : decode b_M_settle 55 = .ok (.aload_n 0, 1) := by decide +kernel
theorem d_M_settle_56 : decode b_M_settle 56 = .ok (.aload_n 0, 1) := by decide +kernel
theorem d_M_settle_57 : decode b_M_settle 57 = .ok (.getfield 36, 3) := by decide +kernel
theorem d_M_settle_60 : decode b_M_settle 60 = .ok (.iconst 1, 1) := by decide +kernel
theorem d_M_settle_61 : decode b_M_settle 61 = .ok (.iload_n 2, 1) := by decide +kernel
theorem d_M_settle_62 : decode b_M_settle 62 = .ok (.ishl, 1) := by decide +kernel
theorem d_M_settle_63 : decode b_M_settle 63 = .ok (.ior, 1) := by decide +kernel
theorem d_M_settle_64 : decode b_M_settle 64 = .ok (.putfield 36, 3) := by decide +kernel
theorem d_M_settle_67 : decode b_M_settle 67 = .ok (.iinc 2 1, 3) := by decide +kernel
theorem d_M_settle_70 : decode b_M_settle 70 = .ok (.goto (-44), 3) := by decide +kernel
theorem d_M_settle_73 : decode b_M_settle 73 = .ok (.iconst 0, 1) := by decide +kernel
theorem d_M_settle_74 : decode b_M_settle 74 = .ok (.istore_n 2, 1) := by decide +kernel
theorem d_M_settle_75 : decode b_M_settle 75 = .ok (.iload_n 2, 1) := by decide +kernel
theorem d_M_settle_76 : decode b_M_settle 76 = .ok (.aload_n 0, 1) := by decide +kernel
theorem d_M_settle_77 : decode b_M_settle 77 = .ok (.getfield 20, 3) := by decide +kernel
theorem d_M_settle_80 : decode b_M_settle 80 = .ok (.iload_n 1, 1) := by decide +kernel
theorem d_M_settle_81 : decode b_M_settle 81 = .ok (.iaload, 1) := by decide +kernel
theorem d_M_settle_82 : decode b_M_settle 82 = .ok (.if_icmp .ge 67, 3) := by decide +kernel
theorem d_M_settle_85 : decode b_M_settle 85 = .ok (.aload_n 0, 1) := by decide +kernel
theorem d_M_settle_86 : decode b_M_settle 86 = .ok (.iload_n 1, 1) := by decide +kernel
theorem d_M_settle_87 : decode b_M_settle 87 = .ok (.iload_n 2, 1) := by decide +kernel
theorem d_M_settle_88 : decode b_M_settle 88 = .ok (.invokevirtual 91, 3) := by decide +kernel
theorem d_M_settle_91 : decode b_M_settle 91 = .ok (.ifCond .eq 52, 3) := by decide +kernel
theorem d_M_settle_94 : decode b_M_settle 94 = .ok (.aload_n 0, 1) := by decide +kernel
theorem d_M_settle_95 : decode b_M_settle 95 = .ok (.getfield 39, 3) := by decide +kernel
theorem d_M_settle_98 : decode b_M_settle 98 = .ok (.aload_n 0, 1) := by decide +kernel
theorem d_M_settle_99 : decode b_M_settle 99 = .ok (.getfield 23, 3) := by decide +kernel
theorem d_M_settle_102 : decode b_M_settle 102 = .ok (.sipush 400, 3) := by decide +kernel
theorem d_M_settle_105 : decode b_M_settle 105 = .ok (.iload_n 1, 1) := by decide +kernel
theorem d_M_settle_106 : decode b_M_settle 106 = .ok (.imul, 1) := by decide +kernel
theorem d_M_settle_107 : decode b_M_settle 107 = .ok (.iload_n 2, 1) := by decide +kernel
theorem d_M_settle_108 : decode b_M_settle 108 = .ok (.iadd, 1) := by decide +kernel
theorem d_M_settle_109 : decode b_M_settle 109 = .ok (.iaload, 1) := by decide +kernel
theorem d_M_settle_110 : decode b_M_settle 110 = .ok (.aload_n 0, 1) := by decide +kernel
theorem d_M_settle_111 : decode b_M_settle 111 = .ok (.getfield 39, 3) := by decide +kernel
theorem d_M_settle_114 : decode b_M_settle 114 = .ok (.aload_n 0, 1) := by decide +kernel
theorem d_M_settle_115 : decode b_M_settle 115 = .ok (.getfield 23, 3) := by decide +kernel
theorem d_M_settle_118 : decode b_M_settle 118 = .ok (.sipush 400, 3) := by decide +kernel
theorem d_M_settle_121 : decode b_M_settle 121 = .ok (.iload_n 1, 1) := by decide +kernel
theorem d_M_settle_122 : decode b_M_settle 122 = .ok (.imul, 1) := by decide +kernel
theorem d_M_settle_123 : decode b_M_settle 123 = .ok (.iload_n 2, 1) := by decide +kernel
theorem d_M_settle_124 : decode b_M_settle 124 = .ok (.iadd, 1) := by decide +kernel
theorem d_M_settle_125 : decode b_M_settle 125 = .ok (.iaload, 1) := by decide +kernel
theorem d_M_settle_126 : decode b_M_settle 126 = .ok (.iaload, 1) := by decide +kernel
theorem d_M_settle_127 : decode b_M_settle 127 = .ok (.iconst 1, 1) := by decide +kernel
theorem d_M_settle_128 : decode b_M_settle 128 = .ok (.aload_n 0, 1) := by decide +kernel
theorem d_M_settle_129 : decode b_M_settle 129 = .ok (.getfield 26, 3) := by decide +kernel
theorem d_M_settle_132 : decode b_M_settle 132 = .ok (.sipush 400, 3) := by decide +kernel
theorem d_M_settle_135 : decode b_M_settle 135 = .ok (.iload_n 1, 1) := by decide +kernel
theorem d_M_settle_136 : decode b_M_settle 136 = .ok (.imul, 1) := by decide +kernel
theorem d_M_settle_137 : decode b_M_settle 137 = .ok (.iload_n 2, 1) := by decide +kernel
theorem d_M_settle_138 : decode b_M_settle 138 = .ok (.iadd, 1) := by decide +kernel
theorem d_M_settle_139 : decode b_M_settle 139 = .ok (.iaload, 1) := by decide +kernel
theorem d_M_settle_140 : decode b_M_settle 140 = .ok (.ishl, 1) := by decide +kernel
theorem d_M_settle_141 : decode b_M_settle 141 = .ok (.ior, 1) := by decide +kernel
theorem d_M_settle_142 : decode b_M_settle 142 = .ok (.iastore, 1) := by decide +kernel
theorem d_M_settle_143 : decode b_M_settle 143 = .ok (.iinc 2 1, 3) := by decide +kernel
theorem d_M_settle_146 : decode b_M_settle 146 = .ok (.goto (-71), 3) := by decide +kernel
theorem d_M_settle_149 : decode b_M_settle 149 = .ok (.iconst 0, 1) := by decide +kernel
theorem d_M_settle_150 : decode b_M_settle 150 = .ok (.istore_n 2, 1) := by decide +kernel
theorem d_M_settle_151 : decode b_M_settle 151 = .ok (.iload_n 2, 1) := by decide +kernel
theorem d_M_settle_152 : decode b_M_settle 152 = .ok (.bipush 16, 2) := by decide +kernel
theorem d_M_settle_154 : decode b_M_settle 154 = .ok (.if_icmp .ge 56, 3) := by decide +kernel
theorem d_M_settle_157 : decode b_M_settle 157 = .ok (.iconst 0, 1) := by decide +kernel
theorem d_M_settle_158 : decode b_M_settle 158 = .ok (.istore_n 3, 1) := by decide +kernel
theorem d_M_settle_159 : decode b_M_settle 159 = .ok (.iload_n 3, 1) := by decide +kernel
theorem d_M_settle_160 : decode b_M_settle 160 = .ok (.bipush 16, 2) := by decide +kernel
theorem d_M_settle_162 : decode b_M_settle 162 = .ok (.if_icmp .ge 42, 3) := by decide +kernel
theorem d_M_settle_165 : decode b_M_settle 165 = .ok (.aload_n 0, 1) := by decide +kernel
theorem d_M_settle_166 : decode b_M_settle 166 = .ok (.getfield 39, 3) := by decide +kernel
theorem d_M_settle_169 : decode b_M_settle 169 = .ok (.iload_n 3, 1) := by decide +kernel
theorem d_M_settle_170 : decode b_M_settle 170 = .ok (.iaload, 1) := by decide +kernel
theorem d_M_settle_171 : decode b_M_settle 171 = .ok (.iload_n 2, 1) := by decide +kernel
theorem d_M_settle_172 : decode b_M_settle 172 = .ok (.ishr, 1) := by decide +kernel
theorem d_M_settle_173 : decode b_M_settle 173 = .ok (.iconst 1, 1) := by decide +kernel
theorem d_M_settle_174 : decode b_M_settle 174 = .ok (.iand, 1) := by decide +kernel
theorem d_M_settle_175 : decode b_M_settle 175 = .ok (.iconst 1, 1) := by decide +kernel
theorem d_M_settle_176 : decode b_M_settle 176 = .ok (.if_icmp .ne 22, 3) := by decide +kernel
theorem d_M_settle_179 : decode b_M_settle 179 = .ok (.aload_n 0, 1) := by decide +kernel
theorem d_M_settle_180 : decode b_M_settle 180 = .ok (.getfield 39, 3) := by decide +kernel
theorem d_M_settle_183 : decode b_M_settle 183 = .ok (.iload_n 3, 1) := by decide +kernel
theorem d_M_settle_184 : decode b_M_settle 184 = .ok (.aload_n 0, 1) := by decide +kernel
theorem d_M_settle_185 : decode b_M_settle 185 = .ok (.getfield 39, 3) := by decide +kernel
theorem d_M_settle_188 : decode b_M_settle 188 = .ok (.iload_n 3, 1) := by decide +kernel
theorem d_M_settle_189 : decode b_M_settle 189 = .ok (.iaload, 1) := by decide +kernel
theorem d_M_settle_190 : decode b_M_settle 190 = .ok (.aload_n 0, 1) := by decide +kernel
theorem d_M_settle_191 : decode b_M_settle 191 = .ok (.getfield 39, 3) := by decide +kernel
theorem d_M_settle_194 : decode b_M_settle 194 = .ok (.iload_n 2, 1) := by decide +kernel
theorem d_M_settle_195 : decode b_M_settle 195 = .ok (.iaload, 1) := by decide +kernel
theorem d_M_settle_196 : decode b_M_settle 196 = .ok (.ior, 1) := by decide +kernel
theorem d_M_settle_197 : decode b_M_settle 197 = .ok (.iastore, 1) := by decide +kernel
theorem d_M_settle_198 : decode b_M_settle 198 = .ok (.iinc 3 1, 3) := by decide +kernel
theorem d_M_settle_201 : decode b_M_settle 201 = .ok (.goto (-42), 3) := by decide +kernel
theorem d_M_settle_204 : decode b_M_settle 204 = .ok (.iinc 2 1, 3) := by decide +kernel
theorem d_M_settle_207 : decode b_M_settle 207 = .ok (.goto (-56), 3) := by decide +kernel
theorem d_M_settle_210 : decode b_M_settle 210 = .ok (.iconst 0, 1) := by decide +kernel
theorem d_M_settle_211 : decode b_M_settle 211 = .ok (.istore_n 2, 1) := by decide +kernel
theorem d_M_settle_212 : decode b_M_settle 212 = .ok (.iload_n 2, 1) := by decide +kernel
theorem d_M_settle_213 : decode b_M_settle 213 = .ok (.bipush 16, 2) := by decide +kernel
theorem d_M_settle_215 : decode b_M_settle 215 = .ok (.if_icmp .ge 53, 3) := by decide +kernel
theorem d_M_settle_218 : decode b_M_settle 218 = .ok (.iconst 0, 1) := by decide +kernel
theorem d_M_settle_219 : decode b_M_settle 219 = .ok (.istore_n 3, 1) := by decide +kernel
theorem d_M_settle_220 : decode b_M_settle 220 = .ok (.iload_n 3, 1) := by decide +kernel
theorem d_M_settle_221 : decode b_M_settle 221 = .ok (.bipush 16, 2) := by decide +kernel
theorem d_M_settle_223 : decode b_M_settle 223 = .ok (.if_icmp .ge 39, 3) := by decide +kernel
theorem d_M_settle_226 : decode b_M_settle 226 = .ok (.aload_n 0, 1) := by decide +kernel
theorem d_M_settle_227 : decode b_M_settle 227 = .ok (.getfield 39, 3) := by decide +kernel
theorem d_M_settle_230 : decode b_M_settle 230 = .ok (.iload_n 2, 1) := by decide +kernel
theorem d_M_settle_231 : decode b_M_settle 231 = .ok (.iaload, 1) := by decide +kernel
theorem d_M_settle_232 : decode b_M_settle 232 = .ok (.iload_n 3, 1) := by decide +kernel
theorem d_M_settle_233 : decode b_M_settle 233 = .ok (.ishr, 1) := by decide +kernel
theorem d_M_settle_234 : decode b_M_settle 234 = .ok (.iconst 1, 1) := by decide +kernel
theorem d_M_settle_235 : decode b_M_settle 235 = .ok (.iand, 1) := by decide +kernel
theorem d_M_settle_236 : decode b_M_settle 236 = .ok (.iconst 1, 1) := by decide +kernel
theorem d_M_settle_237 : decode b_M_settle 237 = .ok (.if_icmp .ne 19, 3) := by decide +kernel
theorem d_M_settle_240 : decode b_M_settle 240 = .ok (.aload_n 0, 1) := by decide +kernel
theorem d_M_settle_241 : decode b_M_settle 241 = .ok (.getfield 42, 3) := by decide +kernel
theorem d_M_settle_244 : decode b_M_settle 244 = .ok (.iload_n 3, 1) := by decide +kernel
theorem d_M_settle_245 : decode b_M_settle 245 = .ok (.aload_n 0, 1) := by decide +kernel
theorem d_M_settle_246 : decode b_M_settle 246 = .ok (.getfield 42, 3) := by decide +kernel
theorem d_M_settle_249 : decode b_M_settle 249 = .ok (.iload_n 3, 1) := by decide +kernel
theorem d_M_settle_250 : decode b_M_settle 250 = .ok (.iaload, 1) := by decide +kernel
theorem d_M_settle_251 : decode b_M_settle 251 = .ok (.iconst 1, 1) := by decide +kernel
theorem d_M_settle_252 : decode b_M_settle 252 = .ok (.iload_n 2, 1) := by decide +kernel
theorem d_M_settle_253 : decode b_M_settle 253 = .ok (.ishl, 1) := by decide +kernel
theorem d_M_settle_254 : decode b_M_settle 254 = .ok (.ior, 1) := by decide +kernel
theorem d_M_settle_255 : decode b_M_settle 255 = .ok (.iastore, 1) := by decide +kernel
theorem d_M_settle_256 : decode b_M_settle 256 = .ok (.iinc 3 1, 3) := by decide +kernel
theorem d_M_settle_259 : decode b_M_settle 259 = .ok (.goto (-39), 3) := by decide +kernel
theorem d_M_settle_262 : decode b_M_settle 262 = .ok (.iinc 2 1, 3) := by decide +kernel
theorem d_M_settle_265 : decode b_M_settle 265 = .ok (.goto (-53), 3) := by decide +kernel
theorem d_M_settle_268 : decode b_M_settle 268 = .ok (.return_, 1) := by decide +kernel
def fm_M_settle_B26 (p0 : Int32) (x34 : Int32) (I35 : IS) : Option (Nat × Int32 × IS) :=
  if (16 : Int32) ≤ x34 then some (1, x34, I35) else grd (inB x34 16) (bnd (sI I35 9 x34.toNatClampNeg (0 : Int32)) (fun I50 => grd (inB x34 16) (bnd (sI I50 10 x34.toNatClampNeg (0 : Int32)) (fun I60 => ob1 (fm_M_there p0 x34 I60) (fun x68 => if x68 = 0 then bnd (x34 + (1 : Int32)) (fun x78 => some (0, x78, I60)) else bnd (sV I60 8 ((I60 8 0) ||| ((1 : Int32) <<< (x34 &&& 31)))) (fun I83 => bnd (x34 + (1 : Int32)) (fun x91 => some (0, x91, I83))))))))
def fm_M_settle_B75 (p0 : Int32) (x113 : Int32) (I114 : IS) : Option (Nat × Int32 × IS) :=
  grd (inB p0 12) (if (I114 3 p0.toNatClampNeg) ≤ x113 then some (1, x113, I114) else ob1 (fm_M_inForce p0 x113 I114) (fun x129 => if x129 = 0 then bnd (x113 + (1 : Int32)) (fun x139 => some (0, x139, I114)) else grd (inB (((400 : Int32) * p0) + x113) 4800) (grd (inB (((400 : Int32) * p0) + x113) 4800) (grd (inB (I114 4 (((400 : Int32) * p0) + x113).toNatClampNeg) 16) (grd (inB (((400 : Int32) * p0) + x113) 4800) (grd (inB (I114 4 (((400 : Int32) * p0) + x113).toNatClampNeg) 16) (bnd (sI I114 9 (I114 4 (((400 : Int32) * p0) + x113).toNatClampNeg).toNatClampNeg ((I114 9 (I114 4 (((400 : Int32) * p0) + x113).toNatClampNeg).toNatClampNeg) ||| ((1 : Int32) <<< ((I114 5 (((400 : Int32) * p0) + x113).toNatClampNeg) &&& 31)))) (fun I154 => bnd (x113 + (1 : Int32)) (fun x162 => some (0, x162, I154))))))))))
def fm_M_settle_B159 (x184 : Int32) (x204 : Int32) (I205 : IS) : Option (Nat × Int32 × IS) :=
  if (16 : Int32) ≤ x204 then some (1, x204, I205) else grd (inB x204 16) (if (((I205 9 x204.toNatClampNeg) >>> (x184 &&& 31)) &&& (1 : Int32)) = (1 : Int32) then grd (inB x204 16) (grd (inB x184 16) (grd (inB x204 16) (bnd (sI I205 9 x204.toNatClampNeg ((I205 9 x204.toNatClampNeg) ||| (I205 9 x184.toNatClampNeg))) (fun I234 => bnd (x204 + (1 : Int32)) (fun x242 => some (0, x242, I234)))))) else bnd (x204 + (1 : Int32)) (fun x223 => some (0, x223, I205)))
def fm_M_settle_B151  (x184 : Int32) (I185 : IS) : Option (Nat × Int32 × IS) :=
  if (16 : Int32) ≤ x184 then some (1, x184, I185) else ob3 (iter (fun z : Int32 × IS => fm_M_settle_B159 x184 z.1 z.2) FU ((0 : Int32), I185)) (fun _ x248 I249 => bnd (x184 + (1 : Int32)) (fun x258 => some (0, x258, I249)))
def fm_M_settle_B220 (x280 : Int32) (x300 : Int32) (I301 : IS) : Option (Nat × Int32 × IS) :=
  if (16 : Int32) ≤ x300 then some (1, x300, I301) else grd (inB x280 16) (if (((I301 9 x280.toNatClampNeg) >>> (x300 &&& 31)) &&& (1 : Int32)) = (1 : Int32) then grd (inB x300 16) (grd (inB x300 16) (bnd (sI I301 10 x300.toNatClampNeg ((I301 10 x300.toNatClampNeg) ||| ((1 : Int32) <<< (x280 &&& 31)))) (fun I328 => bnd (x300 + (1 : Int32)) (fun x336 => some (0, x336, I328))))) else bnd (x300 + (1 : Int32)) (fun x319 => some (0, x319, I301)))
def fm_M_settle_B212  (x280 : Int32) (I281 : IS) : Option (Nat × Int32 × IS) :=
  if (16 : Int32) ≤ x280 then some (1, x280, I281) else ob3 (iter (fun z : Int32 × IS => fm_M_settle_B220 x280 z.1 z.2) FU ((0 : Int32), I281)) (fun _ x342 I343 => bnd (x280 + (1 : Int32)) (fun x352 => some (0, x352, I343)))
def fm_M_settle (p0 : Int32) (I0 : IS) : Option (IS) :=
  if (I0 7 0) = p0 then some I0 else bnd (sV I0 7 p0) (fun I4 => bnd (sV I4 11 (0 : Int32)) (fun I12 => bnd (sV I12 8 (0 : Int32)) (fun I20 => ob3 (iter (fun z : Int32 × IS => fm_M_settle_B26 p0 z.1 z.2) FU ((0 : Int32), I20)) (fun _ x97 I98 => ob3 (iter (fun z : Int32 × IS => fm_M_settle_B75 p0 z.1 z.2) FU ((0 : Int32), I98)) (fun _ x168 I169 => ob3 (iter (fun z : Int32 × IS => fm_M_settle_B151 z.1 z.2) FU ((0 : Int32), I169)) (fun _ x264 I265 => ob3 (iter (fun z : Int32 × IS => fm_M_settle_B212 z.1 z.2) FU ((0 : Int32), I265)) (fun _ x358 I359 => some I359)))))))
set_option maxHeartbeats 4000000 in
set_option maxRecDepth 100000 in
theorem cm_M_settle (l : Launch) (D : va_G) (ca : Nat → ClassId) (am : Nat → Nat) {p0 : Int32} {I0 : IS} {J0 : JS} {r : IS} (hf : fm_M_settle p0 I0 = some r) : CtV l y_M_settle (Cond.code y_M_settle b_M_settle 4 none :: TB) { frames := 2, cells := 0, slots := 0, locals := 45 } [.ref (am 0), .int p0] D cls_all (tysC ca) NN (wM ca am I0 J0) (wM ca am r J0) := by
  refine jd_metV (cc := b_M_settle) (by decide) rfl (Nat.le_of_ble_eq_true rfl) (lv := [(0, .ref (am 0)), (1, .int p0)]) rfl ?_
  intro p e R s m args below meth c A Q ls cx hR hK hN hD0 hA hP hS hl hend
  have hx := cx.1
  have hb := cx.2.1
  have hml := cx.2.2.1
  have hown := cx.2.2.2.1
  have hts := cx.2.2.2.2
  have hD : ∀ I J, va_D A (wM ca am I J) := fun I J => jd_Dc hD0 rfl
  unfold fm_M_settle at hf
  refine lv_aload_n hx hb d_M_settle_0 rfl (lv_at hl 0 rfl) ?_
  refine va_get (D := D) (ci := 6) (v := .int (I0 7 0)) (C := R_M) (T := F_M) (N := 24) hx hb hts (fun w h => List.mem_cons_of_mem _ (uw_M w h)) hown hK hP 0 rfl rfl 7 (by decide) (hts _ (List.mem_cons_of_mem _ tb_607)) (fun _ h => h) rfl d_M_settle_1 ?_
  refine lv_iload_n hx hb d_M_settle_4 rfl (lv_at hl 1 rfl) ?_
  refine lv_icmp_ne (tgt := 9) hx hb d_M_settle_5 rfl (fun h1 => ?_) (fun h1 => ?_)
  · have hf2 := ifn hf h1
    refine lv_aload_n hx hb d_M_settle_9 rfl (lv_at hl 0 rfl) ?_
    refine lv_iload_n hx hb d_M_settle_10 rfl (lv_at hl 1 rfl) ?_
    obtain ⟨I4, e5, hf6⟩ := bnd_ex hf2
    refine va_put (D := D) (ci := 6) (v := .int p0) (ty := .int) (C := R_M) (T := F_M) (N := 24) hx hb hts (fun w h => List.mem_cons_of_mem _ (uw_M w h)) ft_M tk_M n_M hown hK hP (hD I0 J0) hS 0 rfl rfl 7 (by decide) (hts _ (List.mem_cons_of_mem _ tb_607)) (fun _ h => h) rfl (by decide +kernel) rfl rfl (Nat.le_of_ble_eq_true rfl) d_M_settle_11 (fun H7 L8 hp11 _ hS10 => ?_)
    have hP9 : va_P D cls_all (wM ca am I4 J0) H7 := by rw [e5]; exact hp11
    refine lv_aload_n hx hb d_M_settle_14 rfl (lv_at hl 0 rfl) ?_
    refine lv_iconst (v := 0) hx hb d_M_settle_15 (by decide) ?_
    obtain ⟨I12, e13, hf14⟩ := bnd_ex hf6
    refine va_put (D := D) (ci := 6) (v := .int (0 : Int32)) (ty := .boolean) (C := R_M) (T := F_M) (N := 24) hx hb hts (fun w h => List.mem_cons_of_mem _ (uw_M w h)) ft_M tk_M n_M hown hK hP9 (hD I4 J0) hS10 0 rfl rfl 11 (by decide) (hts _ (List.mem_cons_of_mem _ tb_611)) (fun _ h => h) rfl (by decide +kernel) rfl rfl (Nat.le_of_ble_eq_true rfl) d_M_settle_16 (fun H15 L16 hp19 _ hS18 => ?_)
    have hP17 : va_P D cls_all (wM ca am I12 J0) H15 := by rw [e13]; exact hp19
    refine lv_aload_n hx hb d_M_settle_19 rfl (lv_at hl 0 rfl) ?_
    refine lv_iconst (v := 0) hx hb d_M_settle_20 (by decide) ?_
    obtain ⟨I20, e21, hf22⟩ := bnd_ex hf14
    refine va_put (D := D) (ci := 6) (v := .int (0 : Int32)) (ty := .int) (C := R_M) (T := F_M) (N := 24) hx hb hts (fun w h => List.mem_cons_of_mem _ (uw_M w h)) ft_M tk_M n_M hown hK hP17 (hD I12 J0) hS18 0 rfl rfl 8 (by decide) (hts _ (List.mem_cons_of_mem _ tb_608)) (fun _ h => h) rfl (by decide +kernel) rfl rfl (Nat.le_of_ble_eq_true rfl) d_M_settle_21 (fun H23 L24 hp27 _ hS26 => ?_)
    have hP25 : va_P D cls_all (wM ca am I20 J0) H23 := by rw [e21]; exact hp27
    refine lv_iconst (v := 0) hx hb d_M_settle_24 (by decide) ?_
    refine lv_istore_n hx hb d_M_settle_25 rfl hl (by decide) (lv' := [(2, .int (0 : Int32)), (0, .ref (am 0)), (1, .int p0)]) rfl (fun ls28 hl29 => ?_)
    obtain ⟨tg96, x97, I98, ho99, hf100⟩ := ob3_ex hf22
    have kx26_1 : ∀ (H101 : Heap) (L102 : List Loc) (ls103 : Array Slot), va_P D cls_all (wM ca am I98 J0) H101 → va_S A s.heap H101 L102 → lv_has ls103 4 [(0, .ref (am 0)), (1, .int p0)] → W p l e R s m args below meth c H101 L102 0 0 Q (F0 m 73 ls103 []) := by
      intro H101 L102 ls103 hP104 hS105 hl106
      refine lv_iconst (v := 0) hx hb d_M_settle_73 (by decide) ?_
      refine lv_istore_n hx hb d_M_settle_74 rfl hl106 (by decide) (lv' := [(2, .int (0 : Int32)), (0, .ref (am 0)), (1, .int p0)]) rfl (fun ls107 hl108 => ?_)
      obtain ⟨tg167, x168, I169, ho170, hf171⟩ := ob3_ex hf100
      have kx75_1 : ∀ (H172 : Heap) (L173 : List Loc) (ls174 : Array Slot), va_P D cls_all (wM ca am I169 J0) H172 → va_S A s.heap H172 L173 → lv_has ls174 4 [(0, .ref (am 0))] → W p l e R s m args below meth c H172 L173 0 0 Q (F0 m 149 ls174 []) := by
        intro H172 L173 ls174 hP175 hS176 hl177
        refine lv_iconst (v := 0) hx hb d_M_settle_149 (by decide) ?_
        refine lv_istore_n hx hb d_M_settle_150 rfl hl177 (by decide) (lv' := [(2, .int (0 : Int32)), (0, .ref (am 0))]) rfl (fun ls178 hl179 => ?_)
        obtain ⟨tg263, x264, I265, ho266, hf267⟩ := ob3_ex hf171
        have kx151_1 : ∀ (H268 : Heap) (L269 : List Loc) (ls270 : Array Slot), va_P D cls_all (wM ca am I265 J0) H268 → va_S A s.heap H268 L269 → lv_has ls270 4 [(0, .ref (am 0))] → W p l e R s m args below meth c H268 L269 0 0 Q (F0 m 210 ls270 []) := by
          intro H268 L269 ls270 hP271 hS272 hl273
          refine lv_iconst (v := 0) hx hb d_M_settle_210 (by decide) ?_
          refine lv_istore_n hx hb d_M_settle_211 rfl hl273 (by decide) (lv' := [(2, .int (0 : Int32)), (0, .ref (am 0))]) rfl (fun ls274 hl275 => ?_)
          obtain ⟨tg357, x358, I359, ho360, hf361⟩ := ob3_ex hf267
          have kx212_1 : ∀ (H362 : Heap) (L363 : List Loc) (ls364 : Array Slot), va_P D cls_all (wM ca am I359 J0) H362 → va_S A s.heap H362 L363 → lv_has ls364 4 [] → W p l e R s m args below meth c H362 L363 0 0 Q (F0 m 268 ls364 []) := by
            intro H362 L363 ls364 hP365 hS366 hl367
            cases hf361
            exact hend H362 L363 268 ls364 hP365 hS366 d_M_settle_268
          refine iter_ind (C := fun z : Int32 × IS => ∀ (H282 : Heap) (L283 : List Loc) (ls284 : Array Slot), va_P D cls_all (wM ca am z.2 J0) H282 → va_S A s.heap H282 L283 → lv_has ls284 4 [(0, .ref (am 0)), (2, .int z.1)] → W p l e R s m args below meth c H282 L283 0 0 Q (F0 m 212 ls284 [])) (fun z279 o278 hz289 hc276 he277 => ?_) _ _ ho360 H268 L269 ls274 hP271 hS272 (lv_sub hl275 [1, 0] rfl)
          obtain ⟨x280, I281⟩ := z279
          intro H282 L283 ls284 hP285 hS286 hl287
          have hf288 : fm_M_settle_B212 x280 I281 = some o278 := hz289
          unfold fm_M_settle_B212 at hf288
          refine lv_iload_n hx hb d_M_settle_212 rfl (lv_at hl287 1 rfl) ?_
          refine lv_bipush (v := 16) hx hb d_M_settle_213 (by decide) ?_
          refine lv_icmp_ge (tgt := 268) hx hb d_M_settle_215 rfl (fun h290 => ?_) (fun h290 => ?_)
          · have hf291 := ifp hf288 h290
            cases hf291
            have e293 := he277 (by show (1 : Nat) ≠ 0; decide)
            cases e293
            exact kx212_1 H282 L283 ls284 hP285 hS286 (lv_sub hl287 [] rfl)
          · have hf292 := ifn hf288 h290
            refine lv_iconst (v := 0) hx hb d_M_settle_218 (by decide) ?_
            refine lv_istore_n hx hb d_M_settle_219 rfl hl287 (by decide) (lv' := [(3, .int (0 : Int32)), (0, .ref (am 0)), (2, .int x280)]) rfl (fun ls294 hl295 => ?_)
            obtain ⟨tg341, x342, I343, ho344, hf345⟩ := ob3_ex hf292
            have kx220_1 : ∀ (H346 : Heap) (L347 : List Loc) (ls348 : Array Slot), va_P D cls_all (wM ca am I343 J0) H346 → va_S A s.heap H346 L347 → lv_has ls348 4 [(0, .ref (am 0)), (2, .int x280)] → W p l e R s m args below meth c H346 L347 0 0 Q (F0 m 262 ls348 []) := by
              intro H346 L347 ls348 hP349 hS350 hl351
              obtain ⟨x352, e353, hf354⟩ := bnd_ex hf345
              refine lv_iinc hx hb d_M_settle_262 hl351 (k := 1) rfl (v := x352) (by rw [e353]; rfl) (by decide) (lv' := [(2, .int x352), (0, .ref (am 0))]) rfl (fun ls355 hl356 => ?_)
              refine lv_goto (tgt := 212) hx hb d_M_settle_265 rfl ?_
              cases hf354
              exact hc276 rfl H346 L347 ls355 hP349 hS350 (lv_sub hl356 [1, 0] rfl)
            refine iter_ind (C := fun z : Int32 × IS => ∀ (H302 : Heap) (L303 : List Loc) (ls304 : Array Slot), va_P D cls_all (wM ca am z.2 J0) H302 → va_S A s.heap H302 L303 → lv_has ls304 4 [(0, .ref (am 0)), (2, .int x280), (3, .int z.1)] → W p l e R s m args below meth c H302 L303 0 0 Q (F0 m 220 ls304 [])) (fun z299 o298 hz309 hc296 he297 => ?_) _ _ ho344 H282 L283 ls294 hP285 hS286 (lv_sub hl295 [1, 2, 0] rfl)
            obtain ⟨x300, I301⟩ := z299
            intro H302 L303 ls304 hP305 hS306 hl307
            have hf308 : fm_M_settle_B220 x280 x300 I301 = some o298 := hz309
            unfold fm_M_settle_B220 at hf308
            refine lv_iload_n hx hb d_M_settle_220 rfl (lv_at hl307 2 rfl) ?_
            refine lv_bipush (v := 16) hx hb d_M_settle_221 (by decide) ?_
            refine lv_icmp_ge (tgt := 262) hx hb d_M_settle_223 rfl (fun h310 => ?_) (fun h310 => ?_)
            · have hf311 := ifp hf308 h310
              cases hf311
              have e313 := he297 (by show (1 : Nat) ≠ 0; decide)
              cases e313
              exact kx220_1 H302 L303 ls304 hP305 hS306 (lv_sub hl307 [0, 1] rfl)
            · have hf312 := ifn hf308 h310
              refine lv_aload_n hx hb d_M_settle_226 rfl (lv_at hl307 0 rfl) ?_
              refine va_get (D := D) (ci := 6) (v := .ref (am 7)) (C := R_M) (T := F_M) (N := 24) hx hb hts (fun w h => List.mem_cons_of_mem _ (uw_M w h)) hown hK hP305 0 rfl rfl 9 (by decide) (hts _ (List.mem_cons_of_mem _ tb_609)) (fun _ h => h) rfl d_M_settle_227 ?_
              refine lv_iload_n hx hb d_M_settle_230 rfl (lv_at hl307 1 rfl) ?_
              obtain ⟨hg314, hf315⟩ := grd_ex hf312
              refine va_iald hx hb hK hP305 7 2 rfl rfl (inB_in hg314) d_M_settle_231 ?_
              refine lv_iload_n hx hb d_M_settle_232 rfl (lv_at hl307 2 rfl) ?_
              refine lv_ishr hx hb d_M_settle_233 ?_
              refine lv_iconst (v := 1) hx hb d_M_settle_234 (by decide) ?_
              refine lv_iand hx hb d_M_settle_235 ?_
              refine lv_iconst (v := 1) hx hb d_M_settle_236 (by decide) ?_
              refine lv_icmp_ne (tgt := 256) hx hb d_M_settle_237 rfl (fun h316 => ?_) (fun h316 => ?_)
              · have hf317 := ifn hf315 h316
                obtain ⟨x319, e320, hf321⟩ := bnd_ex hf317
                refine lv_iinc hx hb d_M_settle_256 hl307 (k := 2) rfl (v := x319) (by rw [e320]; rfl) (by decide) (lv' := [(3, .int x319), (0, .ref (am 0)), (2, .int x280)]) rfl (fun ls322 hl323 => ?_)
                refine lv_goto (tgt := 220) hx hb d_M_settle_259 rfl ?_
                cases hf321
                exact hc296 rfl H302 L303 ls322 hP305 hS306 (lv_sub hl323 [1, 2, 0] rfl)
              · have hf318 := ifp hf315 h316
                refine lv_aload_n hx hb d_M_settle_240 rfl (lv_at hl307 0 rfl) ?_
                refine va_get (D := D) (ci := 6) (v := .ref (am 8)) (C := R_M) (T := F_M) (N := 24) hx hb hts (fun w h => List.mem_cons_of_mem _ (uw_M w h)) hown hK hP305 0 rfl rfl 10 (by decide) (hts _ (List.mem_cons_of_mem _ tb_610)) (fun _ h => h) rfl d_M_settle_241 ?_
                refine lv_iload_n hx hb d_M_settle_244 rfl (lv_at hl307 2 rfl) ?_
                refine lv_aload_n hx hb d_M_settle_245 rfl (lv_at hl307 0 rfl) ?_
                refine va_get (D := D) (ci := 6) (v := .ref (am 8)) (C := R_M) (T := F_M) (N := 24) hx hb hts (fun w h => List.mem_cons_of_mem _ (uw_M w h)) hown hK hP305 0 rfl rfl 10 (by decide) (hts _ (List.mem_cons_of_mem _ tb_610)) (fun _ h => h) rfl d_M_settle_246 ?_
                refine lv_iload_n hx hb d_M_settle_249 rfl (lv_at hl307 2 rfl) ?_
                obtain ⟨hg324, hf325⟩ := grd_ex hf318
                refine va_iald hx hb hK hP305 8 2 rfl rfl (inB_in hg324) d_M_settle_250 ?_
                refine lv_iconst (v := 1) hx hb d_M_settle_251 (by decide) ?_
                refine lv_iload_n hx hb d_M_settle_252 rfl (lv_at hl307 1 rfl) ?_
                refine lv_ishl hx hb d_M_settle_253 ?_
                refine lv_ior hx hb d_M_settle_254 ?_
                obtain ⟨hg326, hf327⟩ := grd_ex hf325
                obtain ⟨I328, e329, hf330⟩ := bnd_ex hf327
                refine va_iast hx hb hK hP305 (hD I301 J0) hS306 8 2 rfl rfl (inB_in hg326) d_M_settle_255 (fun H331 L332 hp335 _ hS334 => ?_)
                have hP333 : va_P D cls_all (wM ca am I328 J0) H331 := by rw [e329]; exact hp335
                obtain ⟨x336, e337, hf338⟩ := bnd_ex hf330
                refine lv_iinc hx hb d_M_settle_256 hl307 (k := 2) rfl (v := x336) (by rw [e337]; rfl) (by decide) (lv' := [(3, .int x336), (0, .ref (am 0)), (2, .int x280)]) rfl (fun ls339 hl340 => ?_)
                refine lv_goto (tgt := 220) hx hb d_M_settle_259 rfl ?_
                cases hf338
                exact hc296 rfl H331 L332 ls339 hP333 hS334 (lv_sub hl340 [1, 2, 0] rfl)
        refine iter_ind (C := fun z : Int32 × IS => ∀ (H186 : Heap) (L187 : List Loc) (ls188 : Array Slot), va_P D cls_all (wM ca am z.2 J0) H186 → va_S A s.heap H186 L187 → lv_has ls188 4 [(0, .ref (am 0)), (2, .int z.1)] → W p l e R s m args below meth c H186 L187 0 0 Q (F0 m 151 ls188 [])) (fun z183 o182 hz193 hc180 he181 => ?_) _ _ ho266 H172 L173 ls178 hP175 hS176 (lv_sub hl179 [1, 0] rfl)
        obtain ⟨x184, I185⟩ := z183
        intro H186 L187 ls188 hP189 hS190 hl191
        have hf192 : fm_M_settle_B151 x184 I185 = some o182 := hz193
        unfold fm_M_settle_B151 at hf192
        refine lv_iload_n hx hb d_M_settle_151 rfl (lv_at hl191 1 rfl) ?_
        refine lv_bipush (v := 16) hx hb d_M_settle_152 (by decide) ?_
        refine lv_icmp_ge (tgt := 210) hx hb d_M_settle_154 rfl (fun h194 => ?_) (fun h194 => ?_)
        · have hf195 := ifp hf192 h194
          cases hf195
          have e197 := he181 (by show (1 : Nat) ≠ 0; decide)
          cases e197
          exact kx151_1 H186 L187 ls188 hP189 hS190 (lv_sub hl191 [0] rfl)
        · have hf196 := ifn hf192 h194
          refine lv_iconst (v := 0) hx hb d_M_settle_157 (by decide) ?_
          refine lv_istore_n hx hb d_M_settle_158 rfl hl191 (by decide) (lv' := [(3, .int (0 : Int32)), (0, .ref (am 0)), (2, .int x184)]) rfl (fun ls198 hl199 => ?_)
          obtain ⟨tg247, x248, I249, ho250, hf251⟩ := ob3_ex hf196
          have kx159_1 : ∀ (H252 : Heap) (L253 : List Loc) (ls254 : Array Slot), va_P D cls_all (wM ca am I249 J0) H252 → va_S A s.heap H252 L253 → lv_has ls254 4 [(0, .ref (am 0)), (2, .int x184)] → W p l e R s m args below meth c H252 L253 0 0 Q (F0 m 204 ls254 []) := by
            intro H252 L253 ls254 hP255 hS256 hl257
            obtain ⟨x258, e259, hf260⟩ := bnd_ex hf251
            refine lv_iinc hx hb d_M_settle_204 hl257 (k := 1) rfl (v := x258) (by rw [e259]; rfl) (by decide) (lv' := [(2, .int x258), (0, .ref (am 0))]) rfl (fun ls261 hl262 => ?_)
            refine lv_goto (tgt := 151) hx hb d_M_settle_207 rfl ?_
            cases hf260
            exact hc180 rfl H252 L253 ls261 hP255 hS256 (lv_sub hl262 [1, 0] rfl)
          refine iter_ind (C := fun z : Int32 × IS => ∀ (H206 : Heap) (L207 : List Loc) (ls208 : Array Slot), va_P D cls_all (wM ca am z.2 J0) H206 → va_S A s.heap H206 L207 → lv_has ls208 4 [(0, .ref (am 0)), (2, .int x184), (3, .int z.1)] → W p l e R s m args below meth c H206 L207 0 0 Q (F0 m 159 ls208 [])) (fun z203 o202 hz213 hc200 he201 => ?_) _ _ ho250 H186 L187 ls198 hP189 hS190 (lv_sub hl199 [1, 2, 0] rfl)
          obtain ⟨x204, I205⟩ := z203
          intro H206 L207 ls208 hP209 hS210 hl211
          have hf212 : fm_M_settle_B159 x184 x204 I205 = some o202 := hz213
          unfold fm_M_settle_B159 at hf212
          refine lv_iload_n hx hb d_M_settle_159 rfl (lv_at hl211 2 rfl) ?_
          refine lv_bipush (v := 16) hx hb d_M_settle_160 (by decide) ?_
          refine lv_icmp_ge (tgt := 204) hx hb d_M_settle_162 rfl (fun h214 => ?_) (fun h214 => ?_)
          · have hf215 := ifp hf212 h214
            cases hf215
            have e217 := he201 (by show (1 : Nat) ≠ 0; decide)
            cases e217
            exact kx159_1 H206 L207 ls208 hP209 hS210 (lv_sub hl211 [0, 1] rfl)
          · have hf216 := ifn hf212 h214
            refine lv_aload_n hx hb d_M_settle_165 rfl (lv_at hl211 0 rfl) ?_
            refine va_get (D := D) (ci := 6) (v := .ref (am 7)) (C := R_M) (T := F_M) (N := 24) hx hb hts (fun w h => List.mem_cons_of_mem _ (uw_M w h)) hown hK hP209 0 rfl rfl 9 (by decide) (hts _ (List.mem_cons_of_mem _ tb_609)) (fun _ h => h) rfl d_M_settle_166 ?_
            refine lv_iload_n hx hb d_M_settle_169 rfl (lv_at hl211 2 rfl) ?_
            obtain ⟨hg218, hf219⟩ := grd_ex hf216
            refine va_iald hx hb hK hP209 7 2 rfl rfl (inB_in hg218) d_M_settle_170 ?_
            refine lv_iload_n hx hb d_M_settle_171 rfl (lv_at hl211 1 rfl) ?_
            refine lv_ishr hx hb d_M_settle_172 ?_
            refine lv_iconst (v := 1) hx hb d_M_settle_173 (by decide) ?_
            refine lv_iand hx hb d_M_settle_174 ?_
            refine lv_iconst (v := 1) hx hb d_M_settle_175 (by decide) ?_
            refine lv_icmp_ne (tgt := 198) hx hb d_M_settle_176 rfl (fun h220 => ?_) (fun h220 => ?_)
            · have hf221 := ifn hf219 h220
              obtain ⟨x223, e224, hf225⟩ := bnd_ex hf221
              refine lv_iinc hx hb d_M_settle_198 hl211 (k := 2) rfl (v := x223) (by rw [e224]; rfl) (by decide) (lv' := [(3, .int x223), (0, .ref (am 0)), (2, .int x184)]) rfl (fun ls226 hl227 => ?_)
              refine lv_goto (tgt := 159) hx hb d_M_settle_201 rfl ?_
              cases hf225
              exact hc200 rfl H206 L207 ls226 hP209 hS210 (lv_sub hl227 [1, 2, 0] rfl)
            · have hf222 := ifp hf219 h220
              refine lv_aload_n hx hb d_M_settle_179 rfl (lv_at hl211 0 rfl) ?_
              refine va_get (D := D) (ci := 6) (v := .ref (am 7)) (C := R_M) (T := F_M) (N := 24) hx hb hts (fun w h => List.mem_cons_of_mem _ (uw_M w h)) hown hK hP209 0 rfl rfl 9 (by decide) (hts _ (List.mem_cons_of_mem _ tb_609)) (fun _ h => h) rfl d_M_settle_180 ?_
              refine lv_iload_n hx hb d_M_settle_183 rfl (lv_at hl211 2 rfl) ?_
              refine lv_aload_n hx hb d_M_settle_184 rfl (lv_at hl211 0 rfl) ?_
              refine va_get (D := D) (ci := 6) (v := .ref (am 7)) (C := R_M) (T := F_M) (N := 24) hx hb hts (fun w h => List.mem_cons_of_mem _ (uw_M w h)) hown hK hP209 0 rfl rfl 9 (by decide) (hts _ (List.mem_cons_of_mem _ tb_609)) (fun _ h => h) rfl d_M_settle_185 ?_
              refine lv_iload_n hx hb d_M_settle_188 rfl (lv_at hl211 2 rfl) ?_
              obtain ⟨hg228, hf229⟩ := grd_ex hf222
              refine va_iald hx hb hK hP209 7 2 rfl rfl (inB_in hg228) d_M_settle_189 ?_
              refine lv_aload_n hx hb d_M_settle_190 rfl (lv_at hl211 0 rfl) ?_
              refine va_get (D := D) (ci := 6) (v := .ref (am 7)) (C := R_M) (T := F_M) (N := 24) hx hb hts (fun w h => List.mem_cons_of_mem _ (uw_M w h)) hown hK hP209 0 rfl rfl 9 (by decide) (hts _ (List.mem_cons_of_mem _ tb_609)) (fun _ h => h) rfl d_M_settle_191 ?_
              refine lv_iload_n hx hb d_M_settle_194 rfl (lv_at hl211 1 rfl) ?_
              obtain ⟨hg230, hf231⟩ := grd_ex hf229
              refine va_iald hx hb hK hP209 7 2 rfl rfl (inB_in hg230) d_M_settle_195 ?_
              refine lv_ior hx hb d_M_settle_196 ?_
              obtain ⟨hg232, hf233⟩ := grd_ex hf231
              obtain ⟨I234, e235, hf236⟩ := bnd_ex hf233
              refine va_iast hx hb hK hP209 (hD I205 J0) hS210 7 2 rfl rfl (inB_in hg232) d_M_settle_197 (fun H237 L238 hp241 _ hS240 => ?_)
              have hP239 : va_P D cls_all (wM ca am I234 J0) H237 := by rw [e235]; exact hp241
              obtain ⟨x242, e243, hf244⟩ := bnd_ex hf236
              refine lv_iinc hx hb d_M_settle_198 hl211 (k := 2) rfl (v := x242) (by rw [e243]; rfl) (by decide) (lv' := [(3, .int x242), (0, .ref (am 0)), (2, .int x184)]) rfl (fun ls245 hl246 => ?_)
              refine lv_goto (tgt := 159) hx hb d_M_settle_201 rfl ?_
              cases hf244
              exact hc200 rfl H237 L238 ls245 hP239 hS240 (lv_sub hl246 [1, 2, 0] rfl)
      refine iter_ind (C := fun z : Int32 × IS => ∀ (H115 : Heap) (L116 : List Loc) (ls117 : Array Slot), va_P D cls_all (wM ca am z.2 J0) H115 → va_S A s.heap H115 L116 → lv_has ls117 4 [(0, .ref (am 0)), (1, .int p0), (2, .int z.1)] → W p l e R s m args below meth c H115 L116 0 0 Q (F0 m 75 ls117 [])) (fun z112 o111 hz122 hc109 he110 => ?_) _ _ ho170 H101 L102 ls107 hP104 hS105 (lv_sub hl108 [1, 2, 0] rfl)
      obtain ⟨x113, I114⟩ := z112
      intro H115 L116 ls117 hP118 hS119 hl120
      have hf121 : fm_M_settle_B75 p0 x113 I114 = some o111 := hz122
      unfold fm_M_settle_B75 at hf121
      refine lv_iload_n hx hb d_M_settle_75 rfl (lv_at hl120 2 rfl) ?_
      refine lv_aload_n hx hb d_M_settle_76 rfl (lv_at hl120 0 rfl) ?_
      refine va_get (D := D) (ci := 6) (v := .ref (am 3)) (C := R_M) (T := F_M) (N := 24) hx hb hts (fun w h => List.mem_cons_of_mem _ (uw_M w h)) hown hK hP118 0 rfl rfl 3 (by decide) (hts _ (List.mem_cons_of_mem _ tb_603)) (fun _ h => h) rfl d_M_settle_77 ?_
      refine lv_iload_n hx hb d_M_settle_80 rfl (lv_at hl120 1 rfl) ?_
      obtain ⟨hg123, hf124⟩ := grd_ex hf121
      refine va_iald hx hb hK hP118 3 2 rfl rfl (inB_in hg123) d_M_settle_81 ?_
      refine lv_icmp_ge (tgt := 149) hx hb d_M_settle_82 rfl (fun h125 => ?_) (fun h125 => ?_)
      · have hf126 := ifp hf124 h125
        cases hf126
        have e128 := he110 (by show (1 : Nat) ≠ 0; decide)
        cases e128
        exact kx75_1 H115 L116 ls117 hP118 hS119 (lv_sub hl120 [0] rfl)
      · have hf127 := ifn hf124 h125
        refine lv_aload_n hx hb d_M_settle_85 rfl (lv_at hl120 0 rfl) ?_
        refine lv_iload_n hx hb d_M_settle_86 rfl (lv_at hl120 1 rfl) ?_
        refine lv_iload_n hx hb d_M_settle_87 rfl (lv_at hl120 2 rfl) ?_
        obtain ⟨x129, hc130, hf131⟩ := ob1_ex hf127
        refine jd_ci (va_runV (As := [.int p0, .int x113]) (rest := []) cx (cm_M_inForce l D ca am hc130 H115.size) (cwV 2 hts (jd_gV tb_690 tb_691 tb_28 tb_47 tb_692) rfl rfl rfl ⟨rfl, by decide, by decide, rfl⟩ (by rw [hR]; decide)) ⟨jd_blind nWc, (va_recv hK hP118 (ci := 6) (q0 := 0) rfl rfl), (jd_pre (av := [.ref (am 0), .int p0, .int x113]) hP118 hK (hD I114 J0) (fun U h => nWm h hN))⟩ rfl rfl hl120.1 rfl (lv_room (Nat.le_of_ble_eq_true rfl)) d_M_settle_88 ⟨Nat.zero_le _, Nat.zero_le _⟩) hS119 (hD I114 J0) hA (fun H132 L133 hP134 hS135 => ?_)
        refine lv_if_eq (tgt := 143) hx hb d_M_settle_91 rfl (fun h136 => ?_) (fun h136 => ?_)
        · have hf137 := ifp hf131 h136
          obtain ⟨x139, e140, hf141⟩ := bnd_ex hf137
          refine lv_iinc hx hb d_M_settle_143 hl120 (k := 2) rfl (v := x139) (by rw [e140]; rfl) (by decide) (lv' := [(2, .int x139), (0, .ref (am 0)), (1, .int p0)]) rfl (fun ls142 hl143 => ?_)
          refine lv_goto (tgt := 75) hx hb d_M_settle_146 rfl ?_
          cases hf141
          exact hc109 rfl H132 L133 ls142 hP134 hS135 (lv_sub hl143 [1, 2, 0] rfl)
        · have hf138 := ifn hf131 h136
          refine lv_aload_n hx hb d_M_settle_94 rfl (lv_at hl120 0 rfl) ?_
          refine va_get (D := D) (ci := 6) (v := .ref (am 7)) (C := R_M) (T := F_M) (N := 24) hx hb hts (fun w h => List.mem_cons_of_mem _ (uw_M w h)) hown hK hP134 0 rfl rfl 9 (by decide) (hts _ (List.mem_cons_of_mem _ tb_609)) (fun _ h => h) rfl d_M_settle_95 ?_
          refine lv_aload_n hx hb d_M_settle_98 rfl (lv_at hl120 0 rfl) ?_
          refine va_get (D := D) (ci := 6) (v := .ref (am 4)) (C := R_M) (T := F_M) (N := 24) hx hb hts (fun w h => List.mem_cons_of_mem _ (uw_M w h)) hown hK hP134 0 rfl rfl 4 (by decide) (hts _ (List.mem_cons_of_mem _ tb_604)) (fun _ h => h) rfl d_M_settle_99 ?_
          refine lv_sipush (v := 400) hx hb d_M_settle_102 (by decide) ?_
          refine lv_iload_n hx hb d_M_settle_105 rfl (lv_at hl120 1 rfl) ?_
          refine lv_imul hx hb d_M_settle_106 ?_
          refine lv_iload_n hx hb d_M_settle_107 rfl (lv_at hl120 2 rfl) ?_
          refine lv_iadd hx hb d_M_settle_108 ?_
          obtain ⟨hg144, hf145⟩ := grd_ex hf138
          refine va_iald hx hb hK hP134 4 2 rfl rfl (inB_in hg144) d_M_settle_109 ?_
          refine lv_aload_n hx hb d_M_settle_110 rfl (lv_at hl120 0 rfl) ?_
          refine va_get (D := D) (ci := 6) (v := .ref (am 7)) (C := R_M) (T := F_M) (N := 24) hx hb hts (fun w h => List.mem_cons_of_mem _ (uw_M w h)) hown hK hP134 0 rfl rfl 9 (by decide) (hts _ (List.mem_cons_of_mem _ tb_609)) (fun _ h => h) rfl d_M_settle_111 ?_
          refine lv_aload_n hx hb d_M_settle_114 rfl (lv_at hl120 0 rfl) ?_
          refine va_get (D := D) (ci := 6) (v := .ref (am 4)) (C := R_M) (T := F_M) (N := 24) hx hb hts (fun w h => List.mem_cons_of_mem _ (uw_M w h)) hown hK hP134 0 rfl rfl 4 (by decide) (hts _ (List.mem_cons_of_mem _ tb_604)) (fun _ h => h) rfl d_M_settle_115 ?_
          refine lv_sipush (v := 400) hx hb d_M_settle_118 (by decide) ?_
          refine lv_iload_n hx hb d_M_settle_121 rfl (lv_at hl120 1 rfl) ?_
          refine lv_imul hx hb d_M_settle_122 ?_
          refine lv_iload_n hx hb d_M_settle_123 rfl (lv_at hl120 2 rfl) ?_
          refine lv_iadd hx hb d_M_settle_124 ?_
          obtain ⟨hg146, hf147⟩ := grd_ex hf145
          refine va_iald hx hb hK hP134 4 2 rfl rfl (inB_in hg146) d_M_settle_125 ?_
          obtain ⟨hg148, hf149⟩ := grd_ex hf147
          refine va_iald hx hb hK hP134 7 2 rfl rfl (inB_in hg148) d_M_settle_126 ?_
          refine lv_iconst (v := 1) hx hb d_M_settle_127 (by decide) ?_
          refine lv_aload_n hx hb d_M_settle_128 rfl (lv_at hl120 0 rfl) ?_
          refine va_get (D := D) (ci := 6) (v := .ref (am 5)) (C := R_M) (T := F_M) (N := 24) hx hb hts (fun w h => List.mem_cons_of_mem _ (uw_M w h)) hown hK hP134 0 rfl rfl 5 (by decide) (hts _ (List.mem_cons_of_mem _ tb_605)) (fun _ h => h) rfl d_M_settle_129 ?_
          refine lv_sipush (v := 400) hx hb d_M_settle_132 (by decide) ?_
          refine lv_iload_n hx hb d_M_settle_135 rfl (lv_at hl120 1 rfl) ?_
          refine lv_imul hx hb d_M_settle_136 ?_
          refine lv_iload_n hx hb d_M_settle_137 rfl (lv_at hl120 2 rfl) ?_
          refine lv_iadd hx hb d_M_settle_138 ?_
          obtain ⟨hg150, hf151⟩ := grd_ex hf149
          refine va_iald hx hb hK hP134 5 2 rfl rfl (inB_in hg150) d_M_settle_139 ?_
          refine lv_ishl hx hb d_M_settle_140 ?_
          refine lv_ior hx hb d_M_settle_141 ?_
          obtain ⟨hg152, hf153⟩ := grd_ex hf151
          obtain ⟨I154, e155, hf156⟩ := bnd_ex hf153
          refine va_iast hx hb hK hP134 (hD I114 J0) hS135 7 2 rfl rfl (inB_in hg152) d_M_settle_142 (fun H157 L158 hp161 _ hS160 => ?_)
          have hP159 : va_P D cls_all (wM ca am I154 J0) H157 := by rw [e155]; exact hp161
          obtain ⟨x162, e163, hf164⟩ := bnd_ex hf156
          refine lv_iinc hx hb d_M_settle_143 hl120 (k := 2) rfl (v := x162) (by rw [e163]; rfl) (by decide) (lv' := [(2, .int x162), (0, .ref (am 0)), (1, .int p0)]) rfl (fun ls165 hl166 => ?_)
          refine lv_goto (tgt := 75) hx hb d_M_settle_146 rfl ?_
          cases hf164
          exact hc109 rfl H157 L158 ls165 hP159 hS160 (lv_sub hl166 [1, 2, 0] rfl)
    refine iter_ind (C := fun z : Int32 × IS => ∀ (H36 : Heap) (L37 : List Loc) (ls38 : Array Slot), va_P D cls_all (wM ca am z.2 J0) H36 → va_S A s.heap H36 L37 → lv_has ls38 4 [(0, .ref (am 0)), (1, .int p0), (2, .int z.1)] → W p l e R s m args below meth c H36 L37 0 0 Q (F0 m 26 ls38 [])) (fun z33 o32 hz43 hc30 he31 => ?_) _ _ ho99 H23 L24 ls28 hP25 hS26 (lv_sub hl29 [1, 2, 0] rfl)
    obtain ⟨x34, I35⟩ := z33
    intro H36 L37 ls38 hP39 hS40 hl41
    have hf42 : fm_M_settle_B26 p0 x34 I35 = some o32 := hz43
    unfold fm_M_settle_B26 at hf42
    refine lv_iload_n hx hb d_M_settle_26 rfl (lv_at hl41 2 rfl) ?_
    refine lv_bipush (v := 16) hx hb d_M_settle_27 (by decide) ?_
    refine lv_icmp_ge (tgt := 73) hx hb d_M_settle_29 rfl (fun h44 => ?_) (fun h44 => ?_)
    · have hf45 := ifp hf42 h44
      cases hf45
      have e47 := he31 (by show (1 : Nat) ≠ 0; decide)
      cases e47
      exact kx26_1 H36 L37 ls38 hP39 hS40 (lv_sub hl41 [0, 1] rfl)
    · have hf46 := ifn hf42 h44
      refine lv_aload_n hx hb d_M_settle_32 rfl (lv_at hl41 0 rfl) ?_
      refine va_get (D := D) (ci := 6) (v := .ref (am 7)) (C := R_M) (T := F_M) (N := 24) hx hb hts (fun w h => List.mem_cons_of_mem _ (uw_M w h)) hown hK hP39 0 rfl rfl 9 (by decide) (hts _ (List.mem_cons_of_mem _ tb_609)) (fun _ h => h) rfl d_M_settle_33 ?_
      refine lv_iload_n hx hb d_M_settle_36 rfl (lv_at hl41 2 rfl) ?_
      refine lv_iconst (v := 0) hx hb d_M_settle_37 (by decide) ?_
      obtain ⟨hg48, hf49⟩ := grd_ex hf46
      obtain ⟨I50, e51, hf52⟩ := bnd_ex hf49
      refine va_iast hx hb hK hP39 (hD I35 J0) hS40 7 2 rfl rfl (inB_in hg48) d_M_settle_38 (fun H53 L54 hp57 _ hS56 => ?_)
      have hP55 : va_P D cls_all (wM ca am I50 J0) H53 := by rw [e51]; exact hp57
      refine lv_aload_n hx hb d_M_settle_39 rfl (lv_at hl41 0 rfl) ?_
      refine va_get (D := D) (ci := 6) (v := .ref (am 8)) (C := R_M) (T := F_M) (N := 24) hx hb hts (fun w h => List.mem_cons_of_mem _ (uw_M w h)) hown hK hP55 0 rfl rfl 10 (by decide) (hts _ (List.mem_cons_of_mem _ tb_610)) (fun _ h => h) rfl d_M_settle_40 ?_
      refine lv_iload_n hx hb d_M_settle_43 rfl (lv_at hl41 2 rfl) ?_
      refine lv_iconst (v := 0) hx hb d_M_settle_44 (by decide) ?_
      obtain ⟨hg58, hf59⟩ := grd_ex hf52
      obtain ⟨I60, e61, hf62⟩ := bnd_ex hf59
      refine va_iast hx hb hK hP55 (hD I50 J0) hS56 8 2 rfl rfl (inB_in hg58) d_M_settle_45 (fun H63 L64 hp67 _ hS66 => ?_)
      have hP65 : va_P D cls_all (wM ca am I60 J0) H63 := by rw [e61]; exact hp67
      refine lv_aload_n hx hb d_M_settle_46 rfl (lv_at hl41 0 rfl) ?_
      refine lv_iload_n hx hb d_M_settle_47 rfl (lv_at hl41 1 rfl) ?_
      refine lv_iload_n hx hb d_M_settle_48 rfl (lv_at hl41 2 rfl) ?_
      obtain ⟨x68, hc69, hf70⟩ := ob1_ex hf62
      refine jd_ci (va_runV (As := [.int p0, .int x34]) (rest := []) cx (cm_M_there l D ca am hc69 H63.size) (cwV 2 hts (jd_gV tb_684 tb_685 tb_26 tb_47 tb_686) rfl rfl rfl ⟨rfl, by decide, by decide, rfl⟩ (by rw [hR]; decide)) ⟨jd_blind nWc, (va_recv hK hP65 (ci := 6) (q0 := 0) rfl rfl), (jd_pre (av := [.ref (am 0), .int p0, .int x34]) hP65 hK (hD I60 J0) (fun U h => nWm h hN))⟩ rfl rfl hl41.1 rfl (lv_room (Nat.le_of_ble_eq_true rfl)) d_M_settle_49 ⟨Nat.zero_le _, Nat.zero_le _⟩) hS66 (hD I60 J0) hA (fun H71 L72 hP73 hS74 => ?_)
      refine lv_if_eq (tgt := 67) hx hb d_M_settle_52 rfl (fun h75 => ?_) (fun h75 => ?_)
      · have hf76 := ifp hf70 h75
        obtain ⟨x78, e79, hf80⟩ := bnd_ex hf76
        refine lv_iinc hx hb d_M_settle_67 hl41 (k := 2) rfl (v := x78) (by rw [e79]; rfl) (by decide) (lv' := [(2, .int x78), (0, .ref (am 0)), (1, .int p0)]) rfl (fun ls81 hl82 => ?_)
        refine lv_goto (tgt := 26) hx hb d_M_settle_70 rfl ?_
        cases hf80
        exact hc30 rfl H71 L72 ls81 hP73 hS74 (lv_sub hl82 [1, 2, 0] rfl)
      · have hf77 := ifn hf70 h75
        refine lv_aload_n hx hb d_M_settle_55 rfl (lv_at hl41 0 rfl) ?_
        refine lv_aload_n hx hb d_M_settle_56 rfl (lv_at hl41 0 rfl) ?_
        refine va_get (D := D) (ci := 6) (v := .int (I60 8 0)) (C := R_M) (T := F_M) (N := 24) hx hb hts (fun w h => List.mem_cons_of_mem _ (uw_M w h)) hown hK hP73 0 rfl rfl 8 (by decide) (hts _ (List.mem_cons_of_mem _ tb_608)) (fun _ h => h) rfl d_M_settle_57 ?_
        refine lv_iconst (v := 1) hx hb d_M_settle_60 (by decide) ?_
        refine lv_iload_n hx hb d_M_settle_61 rfl (lv_at hl41 2 rfl) ?_
        refine lv_ishl hx hb d_M_settle_62 ?_
        refine lv_ior hx hb d_M_settle_63 ?_
        obtain ⟨I83, e84, hf85⟩ := bnd_ex hf77
        refine va_put (D := D) (ci := 6) (v := .int ((I60 8 0) ||| ((1 : Int32) <<< (x34 &&& 31)))) (ty := .int) (C := R_M) (T := F_M) (N := 24) hx hb hts (fun w h => List.mem_cons_of_mem _ (uw_M w h)) ft_M tk_M n_M hown hK hP73 (hD I60 J0) hS74 0 rfl rfl 8 (by decide) (hts _ (List.mem_cons_of_mem _ tb_608)) (fun _ h => h) rfl (by decide +kernel) rfl rfl (Nat.le_of_ble_eq_true rfl) d_M_settle_64 (fun H86 L87 hp90 _ hS89 => ?_)
        have hP88 : va_P D cls_all (wM ca am I83 J0) H86 := by rw [e84]; exact hp90
        obtain ⟨x91, e92, hf93⟩ := bnd_ex hf85
        refine lv_iinc hx hb d_M_settle_67 hl41 (k := 2) rfl (v := x91) (by rw [e92]; rfl) (by decide) (lv' := [(2, .int x91), (0, .ref (am 0)), (1, .int p0)]) rfl (fun ls94 hl95 => ?_)
        refine lv_goto (tgt := 26) hx hb d_M_settle_70 rfl ?_
        cases hf93
        exact hc30 rfl H86 L87 ls94 hP88 hS89 (lv_sub hl95 [1, 2, 0] rfl)
  · have hf3 := ifp hf h1
    cases hf3
    exact hend s.heap [] 8 ls hP hS d_M_settle_8
theorem d_M_mayCome_0 : decode b_M_mayCome 0 = .ok (.aload_n 0, 1) := by decide +kernel
theorem d_M_mayCome_1 : decode b_M_mayCome 1 = .ok (.getfield 36, 3) := by decide +kernel
theorem d_M_mayCome_4 : decode b_M_mayCome 4 = .ok (.iload_n 2, 1) := by decide +kernel
theorem d_M_mayCome_5 : decode b_M_mayCome 5 = .ok (.ishr, 1) := by decide +kernel
theorem d_M_mayCome_6 : decode b_M_mayCome 6 = .ok (.iconst 1, 1) := by decide +kernel
theorem d_M_mayCome_7 : decode b_M_mayCome 7 = .ok (.iand, 1) := by decide +kernel
theorem d_M_mayCome_8 : decode b_M_mayCome 8 = .ok (.iconst 1, 1) := by decide +kernel
theorem d_M_mayCome_9 : decode b_M_mayCome 9 = .ok (.if_icmp .ne 28, 3) := by decide +kernel
theorem d_M_mayCome_12 : decode b_M_mayCome 12 = .ok (.iload_n 1, 1) := by decide +kernel
theorem d_M_mayCome_13 : decode b_M_mayCome 13 = .ok (.iload_n 2, 1) := by decide +kernel
theorem d_M_mayCome_14 : decode b_M_mayCome 14 = .ok (.ishr, 1) := by decide +kernel
theorem d_M_mayCome_15 : decode b_M_mayCome 15 = .ok (.iconst 1, 1) := by decide +kernel
theorem d_M_mayCome_16 : decode b_M_mayCome 16 = .ok (.iand, 1) := by decide +kernel
theorem d_M_mayCome_17 : decode b_M_mayCome 17 = .ok (.ifCond .ne 20, 3) := by decide +kernel
theorem d_M_mayCome_20 : decode b_M_mayCome 20 = .ok (.aload_n 0, 1) := by decide +kernel
theorem d_M_mayCome_21 : decode b_M_mayCome 21 = .ok (.getfield 42, 3) := by decide +kernel
theorem d_M_mayCome_24 : decode b_M_mayCome 24 = .ok (.iload_n 2, 1) := by decide +kernel
theorem d_M_mayCome_25 : decode b_M_mayCome 25 = .ok (.iaload, 1) := by decide +kernel
theorem d_M_mayCome_26 : decode b_M_mayCome 26 = .ok (.iload_n 1, 1) := by decide +kernel
theorem d_M_mayCome_27 : decode b_M_mayCome 27 = .ok (.iconst (-1), 1) := by decide +kernel
theorem d_M_mayCome_28 : decode b_M_mayCome 28 = .ok (.ixor, 1) := by decide +kernel
theorem d_M_mayCome_29 : decode b_M_mayCome 29 = .ok (.iand, 1) := by decide +kernel
theorem d_M_mayCome_30 : decode b_M_mayCome 30 = .ok (.ifCond .ne 7, 3) := by decide +kernel
theorem d_M_mayCome_33 : decode b_M_mayCome 33 = .ok (.iconst 1, 1) := by decide +kernel
theorem d_M_mayCome_34 : decode b_M_mayCome 34 = .ok (.goto 4, 3) := by decide +kernel
theorem d_M_mayCome_37 : decode b_M_mayCome 37 = .ok (.iconst 0, 1) := by decide +kernel
theorem d_M_mayCome_38 : decode b_M_mayCome 38 = .ok (.ireturn, 1) := by decide +kernel
def fm_M_mayCome (p0 : Int32) (p1 : Int32) (I0 : IS) : Option (Int32) :=
  if (((I0 8 0) >>> (p1 &&& 31)) &&& (1 : Int32)) = (1 : Int32) then if ((p0 >>> (p1 &&& 31)) &&& (1 : Int32)) = 0 then grd (inB p1 16) (if ((I0 10 p1.toNatClampNeg) &&& (p0 ^^^ (-1 : Int32))) = 0 then some (1 : Int32) else some (0 : Int32)) else some (0 : Int32) else some (0 : Int32)
set_option maxHeartbeats 4000000 in
set_option maxRecDepth 100000 in
theorem cm_M_mayCome (l : Launch) (D : va_G) (ca : Nat → ClassId) (am : Nat → Nat) {p0 : Int32} {p1 : Int32} {I0 : IS} {J0 : JS} {r : Int32} (hf : fm_M_mayCome p0 p1 I0 = some r) : CtI l y_M_mayCome (Cond.code y_M_mayCome b_M_mayCome 3 (some .boolean) :: TB) { frames := 0, cells := 0, slots := 0, locals := 0 } [.ref (am 0), .int p0, .int p1] D cls_all (tysC ca) NN (wM ca am I0 J0) (wM ca am I0 J0) r := by
  refine jd_metZ (cc := b_M_mayCome) (by decide) rfl (Nat.le_of_ble_eq_true rfl) (lv := [(0, .ref (am 0)), (1, .int p0), (2, .int p1)]) rfl ?_
  intro p e R s m args below meth c A Q ls cx hR hK hN hD0 hA hP hS hl hend
  have hx := cx.1
  have hb := cx.2.1
  have hml := cx.2.2.1
  have hown := cx.2.2.2.1
  have hts := cx.2.2.2.2
  have hD : ∀ I J, va_D A (wM ca am I J) := fun I J => jd_Dc hD0 rfl
  unfold fm_M_mayCome at hf
  refine lv_aload_n hx hb d_M_mayCome_0 rfl (lv_at hl 0 rfl) ?_
  refine va_get (D := D) (ci := 6) (v := .int (I0 8 0)) (C := R_M) (T := F_M) (N := 24) hx hb hts (fun w h => List.mem_cons_of_mem _ (uw_M w h)) hown hK hP 0 rfl rfl 8 (by decide) (hts _ (List.mem_cons_of_mem _ tb_608)) (fun _ h => h) rfl d_M_mayCome_1 ?_
  refine lv_iload_n hx hb d_M_mayCome_4 rfl (lv_at hl 2 rfl) ?_
  refine lv_ishr hx hb d_M_mayCome_5 ?_
  refine lv_iconst (v := 1) hx hb d_M_mayCome_6 (by decide) ?_
  refine lv_iand hx hb d_M_mayCome_7 ?_
  refine lv_iconst (v := 1) hx hb d_M_mayCome_8 (by decide) ?_
  refine lv_icmp_ne (tgt := 37) hx hb d_M_mayCome_9 rfl (fun h1 => ?_) (fun h1 => ?_)
  · have hf2 := ifn hf h1
    refine lv_iconst (v := 0) hx hb d_M_mayCome_37 (by decide) ?_
    cases hf2
    exact hend s.heap [] 38 ls (show narrow .boolean (.int (0 : Int32)) = .int (0 : Int32) from rfl) hP hS d_M_mayCome_38
  · have hf3 := ifp hf h1
    refine lv_iload_n hx hb d_M_mayCome_12 rfl (lv_at hl 1 rfl) ?_
    refine lv_iload_n hx hb d_M_mayCome_13 rfl (lv_at hl 2 rfl) ?_
    refine lv_ishr hx hb d_M_mayCome_14 ?_
    refine lv_iconst (v := 1) hx hb d_M_mayCome_15 (by decide) ?_
    refine lv_iand hx hb d_M_mayCome_16 ?_
    refine lv_if_ne (tgt := 37) hx hb d_M_mayCome_17 rfl (fun h4 => ?_) (fun h4 => ?_)
    · have hf5 := ifn hf3 h4
      refine lv_iconst (v := 0) hx hb d_M_mayCome_37 (by decide) ?_
      cases hf5
      exact hend s.heap [] 38 ls (show narrow .boolean (.int (0 : Int32)) = .int (0 : Int32) from rfl) hP hS d_M_mayCome_38
    · have hf6 := ifp hf3 h4
      refine lv_aload_n hx hb d_M_mayCome_20 rfl (lv_at hl 0 rfl) ?_
      refine va_get (D := D) (ci := 6) (v := .ref (am 8)) (C := R_M) (T := F_M) (N := 24) hx hb hts (fun w h => List.mem_cons_of_mem _ (uw_M w h)) hown hK hP 0 rfl rfl 10 (by decide) (hts _ (List.mem_cons_of_mem _ tb_610)) (fun _ h => h) rfl d_M_mayCome_21 ?_
      refine lv_iload_n hx hb d_M_mayCome_24 rfl (lv_at hl 2 rfl) ?_
      obtain ⟨hg7, hf8⟩ := grd_ex hf6
      refine va_iald hx hb hK hP 8 2 rfl rfl (inB_in hg7) d_M_mayCome_25 ?_
      refine lv_iload_n hx hb d_M_mayCome_26 rfl (lv_at hl 1 rfl) ?_
      refine lv_iconst (v := -1) hx hb d_M_mayCome_27 (by decide) ?_
      refine lv_ixor hx hb d_M_mayCome_28 ?_
      refine lv_iand hx hb d_M_mayCome_29 ?_
      refine lv_if_ne (tgt := 37) hx hb d_M_mayCome_30 rfl (fun h9 => ?_) (fun h9 => ?_)
      · have hf10 := ifn hf8 h9
        refine lv_iconst (v := 0) hx hb d_M_mayCome_37 (by decide) ?_
        cases hf10
        exact hend s.heap [] 38 ls (show narrow .boolean (.int (0 : Int32)) = .int (0 : Int32) from rfl) hP hS d_M_mayCome_38
      · have hf11 := ifp hf8 h9
        refine lv_iconst (v := 1) hx hb d_M_mayCome_33 (by decide) ?_
        refine lv_goto (tgt := 38) hx hb d_M_mayCome_34 rfl ?_
        cases hf11
        exact hend s.heap [] 38 ls (show narrow .boolean (.int (1 : Int32)) = .int (1 : Int32) from rfl) hP hS d_M_mayCome_38
theorem d_M_findWhy_0 : decode b_M_findWhy 0 = .ok (.aload_n 0, 1) := by decide +kernel
theorem d_M_findWhy_1 : decode b_M_findWhy 1 = .ok (.iconst 0, 1) := by decide +kernel
theorem d_M_findWhy_2 : decode b_M_findWhy 2 = .ok (.putfield 57, 3) := by decide +kernel
theorem d_M_findWhy_5 : decode b_M_findWhy 5 = .ok (.iconst 0, 1) := by decide +kernel
theorem d_M_findWhy_6 : decode b_M_findWhy 6 = .ok (.istore 4, 2) := by decide +kernel
theorem d_M_findWhy_8 : decode b_M_findWhy 8 = .ok (.iload 4, 2) := by decide +kernel
theorem d_M_findWhy_10 : decode b_M_findWhy 10 = .ok (.bipush 16, 2) := by decide +kernel
theorem d_M_findWhy_12 : decode b_M_findWhy 12 = .ok (.if_icmp .ge 28, 3) := by decide +kernel
theorem d_M_findWhy_15 : decode b_M_findWhy 15 = .ok (.aload_n 0, 1) := by decide +kernel
theorem d_M_findWhy_16 : decode b_M_findWhy 16 = .ok (.getfield 63, 3) := by decide +kernel
theorem d_M_findWhy_19 : decode b_M_findWhy 19 = .ok (.iload 4, 2) := by decide +kernel
theorem d_M_findWhy_21 : decode b_M_findWhy 21 = .ok (.iload 4, 2) := by decide +kernel
theorem d_M_findWhy_23 : decode b_M_findWhy 23 = .ok (.iload_n 3, 1) := by decide +kernel
theorem d_M_findWhy_24 : decode b_M_findWhy 24 = .ok (.if_icmp .ne 7, 3) := by decide +kernel
theorem d_M_findWhy_27 : decode b_M_findWhy 27 = .ok (.iconst 0, 1) := by decide +kernel
theorem d_M_findWhy_28 : decode b_M_findWhy 28 = .ok (.goto 5, 3) := by decide +kernel
theorem d_M_findWhy_31 : decode b_M_findWhy 31 = .ok (.bipush 99, 2) := by decide +kernel
theorem d_M_findWhy_33 : decode b_M_findWhy 33 = .ok (.iastore, 1) := by decide +kernel
theorem d_M_findWhy_34 : decode b_M_findWhy 34 = .ok (.iinc 4 1, 3) := by decide +kernel
theorem d_M_findWhy_37 : decode b_M_findWhy 37 = .ok (.goto (-29), 3) := by decide +kernel
theorem d_M_findWhy_40 : decode b_M_findWhy 40 = .ok (.iconst 0, 1) := by decide +kernel
theorem d_M_findWhy_41 : decode b_M_findWhy 41 = .ok (.istore 4, 2) := by decide +kernel
theorem d_M_findWhy_43 : decode b_M_findWhy 43 = .ok (.iload 4, 2) := by decide +kernel
theorem d_M_findWhy_45 : decode b_M_findWhy 45 = .ok (.bipush 16, 2) := by decide +kernel
theorem d_M_findWhy_47 : decode b_M_findWhy 47 = .ok (.if_icmp .ge 104, 3) := by decide +kernel
theorem d_M_findWhy_50 : decode b_M_findWhy 50 = .ok (.iconst 0, 1) := by decide +kernel
theorem d_M_findWhy_51 : decode b_M_findWhy 51 = .ok (.istore 5, 2) := by decide +kernel
theorem d_M_findWhy_53 : decode b_M_findWhy 53 = .ok (.iload 5, 2) := by decide +kernel
theorem d_M_findWhy_55 : decode b_M_findWhy 55 = .ok (.aload_n 0, 1) := by decide +kernel
theorem d_M_findWhy_56 : decode b_M_findWhy 56 = .ok (.getfield 20, 3) := by decide +kernel
theorem d_M_findWhy_59 : decode b_M_findWhy 59 = .ok (.iload_n 1, 1) := by decide +kernel
theorem d_M_findWhy_60 : decode b_M_findWhy 60 = .ok (.iaload, 1) := by decide +kernel
theorem d_M_findWhy_61 : decode b_M_findWhy 61 = .ok (.if_icmp .ge 84, 3) := by decide +kernel
theorem d_M_findWhy_64 : decode b_M_findWhy 64 = .ok (.sipush 400, 3) := by decide +kernel
theorem d_M_findWhy_67 : decode b_M_findWhy 67 = .ok (.iload_n 1, 1) := by decide +kernel
theorem d_M_findWhy_68 : decode b_M_findWhy 68 = .ok (.imul, 1) := by decide +kernel
theorem d_M_findWhy_69 : decode b_M_findWhy 69 = .ok (.iload 5, 2) := by decide +kernel
theorem d_M_findWhy_71 : decode b_M_findWhy 71 = .ok (.iadd, 1) := by decide +kernel
theorem d_M_findWhy_72 : decode b_M_findWhy 72 = .ok (.istore 6, 2) := by decide +kernel
theorem d_M_findWhy_74 : decode b_M_findWhy 74 = .ok (.aload_n 0, 1) := by decide +kernel
theorem d_M_findWhy_75 : decode b_M_findWhy 75 = .ok (.iload_n 1, 1) := by decide +kernel
theorem d_M_findWhy_76 : decode b_M_findWhy 76 = .ok (.iload 5, 2) := by decide +kernel
theorem d_M_findWhy_78 : decode b_M_findWhy 78 = .ok (.invokevirtual 91, 3) := by decide +kernel
theorem d_M_findWhy_81 : decode b_M_findWhy 81 = .ok (.ifCond .eq 58, 3) := by decide +kernel
theorem d_M_findWhy_84 : decode b_M_findWhy 84 = .ok (.aload_n 0, 1) := by decide +kernel
theorem d_M_findWhy_85 : decode b_M_findWhy 85 = .ok (.getfield 63, 3) := by decide +kernel
theorem d_M_findWhy_88 : decode b_M_findWhy 88 = .ok (.aload_n 0, 1) := by decide +kernel
theorem d_M_findWhy_89 : decode b_M_findWhy 89 = .ok (.getfield 26, 3) := by decide +kernel
theorem d_M_findWhy_92 : decode b_M_findWhy 92 = .ok (.iload 6, 2) := by decide +kernel
theorem d_M_findWhy_94 : decode b_M_findWhy 94 = .ok (.iaload, 1) := by decide +kernel
theorem d_M_findWhy_95 : decode b_M_findWhy 95 = .ok (.iaload, 1) := by decide +kernel
theorem d_M_findWhy_96 : decode b_M_findWhy 96 = .ok (.iconst 1, 1) := by decide +kernel
theorem d_M_findWhy_97 : decode b_M_findWhy 97 = .ok (.iadd, 1) := by decide +kernel
theorem d_M_findWhy_98 : decode b_M_findWhy 98 = .ok (.aload_n 0, 1) := by decide +kernel
theorem d_M_findWhy_99 : decode b_M_findWhy 99 = .ok (.getfield 63, 3) := by decide +kernel
theorem d_M_findWhy_102 : decode b_M_findWhy 102 = .ok (.aload_n 0, 1) := by decide +kernel
theorem d_M_findWhy_103 : decode b_M_findWhy 103 = .ok (.getfield 23, 3) := by decide +kernel
theorem d_M_findWhy_106 : decode b_M_findWhy 106 = .ok (.iload 6, 2) := by decide +kernel
theorem d_M_findWhy_108 : decode b_M_findWhy 108 = .ok (.iaload, 1) := by decide +kernel
theorem d_M_findWhy_109 : decode b_M_findWhy 109 = .ok (.iaload, 1) := by decide +kernel
theorem d_M_findWhy_110 : decode b_M_findWhy 110 = .ok (.if_icmp .ge 29, 3) := by decide +kernel
theorem d_M_findWhy_113 : decode b_M_findWhy 113 = .ok (.aload_n 0, 1) := by decide +kernel
theorem d_M_findWhy_114 : decode b_M_findWhy 114 = .ok (.getfield 63, 3) := by decide +kernel
theorem d_M_findWhy_117 : decode b_M_findWhy 117 = .ok (.aload_n 0, 1) := by decide +kernel
theorem d_M_findWhy_118 : decode b_M_findWhy 118 = .ok (.getfield 23, 3) := by decide +kernel
theorem d_M_findWhy_121 : decode b_M_findWhy 121 = .ok (.iload 6, 2) := by decide +kernel
theorem d_M_findWhy_123 : decode b_M_findWhy 123 = .ok (.iaload, 1) := by decide +kernel
theorem d_M_findWhy_124 : decode b_M_findWhy 124 = .ok (.aload_n 0, 1) := by decide +kernel
theorem d_M_findWhy_125 : decode b_M_findWhy 125 = .ok (.getfield 63, 3) := by decide +kernel
theorem d_M_findWhy_128 : decode b_M_findWhy 128 = .ok (.aload_n 0, 1) := by decide +kernel
theorem d_M_findWhy_129 : decode b_M_findWhy 129 = .ok (.getfield 26, 3) := by decide +kernel
theorem d_M_findWhy_132 : decode b_M_findWhy 132 = .ok (.iload 6, 2) := by decide +kernel
theorem d_M_findWhy_134 : decode b_M_findWhy 134 = .ok (.iaload, 1) := by decide +kernel
theorem d_M_findWhy_135 : decode b_M_findWhy 135 = .ok (.iaload, 1) := by decide +kernel
theorem d_M_findWhy_136 : decode b_M_findWhy 136 = .ok (.iconst 1, 1) := by decide +kernel
theorem d_M_findWhy_137 : decode b_M_findWhy 137 = .ok (.iadd, 1) := by decide +kernel
theorem d_M_findWhy_138 : decode b_M_findWhy 138 = .ok (.iastore, 1) := by decide +kernel
theorem d_M_findWhy_139 : decode b_M_findWhy 139 = .ok (.iinc 5 1, 3) := by decide +kernel
theorem d_M_findWhy_142 : decode b_M_findWhy 142 = .ok (.goto (-89), 3) := by decide +kernel
theorem d_M_findWhy_145 : decode b_M_findWhy 145 = .ok (.iinc 4 1, 3) := by decide +kernel
theorem d_M_findWhy_148 : decode b_M_findWhy 148 = .ok (.goto (-105), 3) := by decide +kernel
theorem d_M_findWhy_151 : decode b_M_findWhy 151 = .ok (.iload_n 2, 1) := by decide +kernel
theorem d_M_findWhy_152 : decode b_M_findWhy 152 = .ok (.istore 4, 2) := by decide +kernel
theorem d_M_findWhy_154 : decode b_M_findWhy 154 = .ok (.iload 4, 2) := by decide +kernel
theorem d_M_findWhy_156 : decode b_M_findWhy 156 = .ok (.iload_n 3, 1) := by decide +kernel
theorem d_M_findWhy_157 : decode b_M_findWhy 157 = .ok (.if_icmp .eq 111, 3) := by decide +kernel
theorem d_M_findWhy_160 : decode b_M_findWhy 160 = .ok (.iconst 0, 1) := by decide +kernel
theorem d_M_findWhy_161 : decode b_M_findWhy 161 = .ok (.istore 5, 2) := by decide +kernel
theorem d_M_findWhy_163 : decode b_M_findWhy 163 = .ok (.aload_n 0, 1) := by decide +kernel
theorem d_M_findWhy_164 : decode b_M_findWhy 164 = .ok (.iload_n 1, 1) := by decide +kernel
theorem d_M_findWhy_165 : decode b_M_findWhy 165 = .ok (.iload 5, 2) := by decide +kernel
theorem d_M_findWhy_167 : decode b_M_findWhy 167 = .ok (.invokevirtual 91, 3) := by decide +kernel
theorem d_M_findWhy_170 : decode b_M_findWhy 170 = .ok (.ifCond .eq 51, 3) := by decide +kernel
theorem d_M_findWhy_173 : decode b_M_findWhy 173 = .ok (.aload_n 0, 1) := by decide +kernel
theorem d_M_findWhy_174 : decode b_M_findWhy 174 = .ok (.getfield 23, 3) := by decide +kernel
theorem d_M_findWhy_177 : decode b_M_findWhy 177 = .ok (.sipush 400, 3) := by decide +kernel
theorem d_M_findWhy_180 : decode b_M_findWhy 180 = .ok (.iload_n 1, 1) := by decide +kernel
theorem d_M_findWhy_181 : decode b_M_findWhy 181 = .ok (.imul, 1) := by decide +kernel
theorem d_M_findWhy_182 : decode b_M_findWhy 182 = .ok (.iload 5, 2) := by decide +kernel
theorem d_M_findWhy_184 : decode b_M_findWhy 184 = .ok (.iadd, 1) := by decide +kernel
theorem d_M_findWhy_185 : decode b_M_findWhy 185 = .ok (.iaload, 1) := by decide +kernel
theorem d_M_findWhy_186 : decode b_M_findWhy 186 = .ok (.iload 4, 2) := by decide +kernel
theorem d_M_findWhy_188 : decode b_M_findWhy 188 = .ok (.if_icmp .ne 33, 3) := by decide +kernel
theorem d_M_findWhy_191 : decode b_M_findWhy 191 = .ok (.aload_n 0, 1) := by decide +kernel
theorem d_M_findWhy_192 : decode b_M_findWhy 192 = .ok (.getfield 63, 3) := by decide +kernel
theorem d_M_findWhy_195 : decode b_M_findWhy 195 = .ok (.aload_n 0, 1) := by decide +kernel
theorem d_M_findWhy_196 : decode b_M_findWhy 196 = .ok (.getfield 26, 3) := by decide +kernel
theorem d_M_findWhy_199 : decode b_M_findWhy 199 = .ok (.sipush 400, 3) := by decide +kernel
theorem d_M_findWhy_202 : decode b_M_findWhy 202 = .ok (.iload_n 1, 1) := by decide +kernel
theorem d_M_findWhy_203 : decode b_M_findWhy 203 = .ok (.imul, 1) := by decide +kernel
theorem d_M_findWhy_204 : decode b_M_findWhy 204 = .ok (.iload 5, 2) := by decide +kernel
theorem d_M_findWhy_206 : decode b_M_findWhy 206 = .ok (.iadd, 1) := by decide +kernel
theorem d_M_findWhy_207 : decode b_M_findWhy 207 = .ok (.iaload, 1) := by decide +kernel
theorem d_M_findWhy_208 : decode b_M_findWhy 208 = .ok (.iaload, 1) := by decide +kernel
theorem d_M_findWhy_209 : decode b_M_findWhy 209 = .ok (.aload_n 0, 1) := by decide +kernel
theorem d_M_findWhy_210 : decode b_M_findWhy 210 = .ok (.getfield 63, 3) := by decide +kernel
theorem d_M_findWhy_213 : decode b_M_findWhy 213 = .ok (.iload 4, 2) := by decide +kernel
theorem d_M_findWhy_215 : decode b_M_findWhy 215 = .ok (.iaload, 1) := by decide +kernel
theorem d_M_findWhy_216 : decode b_M_findWhy 216 = .ok (.iconst 1, 1) := by decide +kernel
theorem d_M_findWhy_217 : decode b_M_findWhy 217 = .ok (.isub, 1) := by decide +kernel
theorem d_M_findWhy_218 : decode b_M_findWhy 218 = .ok (.if_icmp .eq 9, 3) := by decide +kernel
theorem d_M_findWhy_221 : decode b_M_findWhy 221 = .ok (.iinc 5 1, 3) := by decide +kernel
theorem d_M_findWhy_224 : decode b_M_findWhy 224 = .ok (.goto (-61), 3) := by decide +kernel
theorem d_M_findWhy_227 : decode b_M_findWhy 227 = .ok (.aload_n 0, 1) := by decide +kernel
theorem d_M_findWhy_228 : decode b_M_findWhy 228 = .ok (.getfield 60, 3) := by decide +kernel
theorem d_M_findWhy_231 : decode b_M_findWhy 231 = .ok (.aload_n 0, 1) := by decide +kernel
theorem d_M_findWhy_232 : decode b_M_findWhy 232 = .ok (.getfield 57, 3) := by decide +kernel
theorem d_M_findWhy_235 : decode b_M_findWhy 235 = .ok (.iload 5, 2) := by decide +kernel
theorem d_M_findWhy_237 : decode b_M_findWhy 237 = .ok (.iconst 1, 1) := by decide +kernel
theorem d_M_findWhy_238 : decode b_M_findWhy 238 = .ok (.iadd, 1) := by decide +kernel
theorem d_M_findWhy_239 : decode b_M_findWhy 239 = .ok (.iastore, 1) := by decide +kernel
theorem d_M_findWhy_240 : decode b_M_findWhy 240 = .ok (.aload_n 0, 1) := by decide +kernel
theorem d_M_findWhy_241 : decode b_M_findWhy 241 = .ok (.dup, 1) := by decide +kernel
theorem d_M_findWhy_242 : decode b_M_findWhy 242 = .ok (.getfield 57, 3) := by decide +kernel
theorem d_M_findWhy_245 : decode b_M_findWhy 245 = .ok (.iconst 1, 1) := by decide +kernel
theorem d_M_findWhy_246 : decode b_M_findWhy 246 = .ok (.iadd, 1) := by decide +kernel
theorem d_M_findWhy_247 : decode b_M_findWhy 247 = .ok (.putfield 57, 3) := by decide +kernel
theorem d_M_findWhy_250 : decode b_M_findWhy 250 = .ok (.aload_n 0, 1) := by decide +kernel
theorem d_M_findWhy_251 : decode b_M_findWhy 251 = .ok (.getfield 26, 3) := by decide +kernel
theorem d_M_findWhy_254 : decode b_M_findWhy 254 = .ok (.sipush 400, 3) := by decide +kernel
theorem d_M_findWhy_257 : decode b_M_findWhy 257 = .ok (.iload_n 1, 1) := by decide +kernel
theorem d_M_findWhy_258 : decode b_M_findWhy 258 = .ok (.imul, 1) := by decide +kernel
theorem d_M_findWhy_259 : decode b_M_findWhy 259 = .ok (.iload 5, 2) := by decide +kernel
theorem d_M_findWhy_261 : decode b_M_findWhy 261 = .ok (.iadd, 1) := by decide +kernel
theorem d_M_findWhy_262 : decode b_M_findWhy 262 = .ok (.iaload, 1) := by decide +kernel
theorem d_M_findWhy_263 : decode b_M_findWhy 263 = .ok (.istore 4, 2) := by decide +kernel
theorem d_M_findWhy_265 : decode b_M_findWhy 265 = .ok (.goto (-111), 3) := by decide +kernel
theorem d_M_findWhy_268 : decode b_M_findWhy 268 = .ok (.return_, 1) := by decide +kernel
def fm_M_findWhy_B8 (p2 : Int32) (x15 : Int32) (I16 : IS) : Option (Nat × Int32 × IS) :=
  if (16 : Int32) ≤ x15 then some (1, x15, I16) else if x15 = p2 then grd (inB x15 16) (bnd (sI I16 14 x15.toNatClampNeg (0 : Int32)) (fun I49 => bnd (x15 + (1 : Int32)) (fun x57 => some (0, x57, I49)))) else grd (inB x15 16) (bnd (sI I16 14 x15.toNatClampNeg (99 : Int32)) (fun I34 => bnd (x15 + (1 : Int32)) (fun x42 => some (0, x42, I34))))
def fm_M_findWhy_B53 (p0 : Int32) (x99 : Int32) (I100 : IS) : Option (Nat × Int32 × IS) :=
  grd (inB p0 12) (if (I100 3 p0.toNatClampNeg) ≤ x99 then some (1, x99, I100) else bnd (((400 : Int32) * p0) + x99) (fun x115 => ob1 (fm_M_inForce p0 x99 I100) (fun x120 => if x120 = 0 then bnd (x99 + (1 : Int32)) (fun x130 => some (0, x130, I100)) else grd (inB x115 4800) (grd (inB (I100 5 x115.toNatClampNeg) 16) (grd (inB x115 4800) (grd (inB (I100 4 x115.toNatClampNeg) 16) (if (I100 14 (I100 4 x115.toNatClampNeg).toNatClampNeg) ≤ ((I100 14 (I100 5 x115.toNatClampNeg).toNatClampNeg) + (1 : Int32)) then bnd (x99 + (1 : Int32)) (fun x146 => some (0, x146, I100)) else grd (inB x115 4800) (grd (inB x115 4800) (grd (inB (I100 5 x115.toNatClampNeg) 16) (grd (inB (I100 4 x115.toNatClampNeg) 16) (bnd (sI I100 14 (I100 4 x115.toNatClampNeg).toNatClampNeg ((I100 14 (I100 5 x115.toNatClampNeg).toNatClampNeg) + (1 : Int32))) (fun I159 => bnd (x99 + (1 : Int32)) (fun x167 => some (0, x167, I159))))))))))))))
def fm_M_findWhy_B43 (p0 : Int32) (x79 : Int32) (I80 : IS) : Option (Nat × Int32 × IS) :=
  if (16 : Int32) ≤ x79 then some (1, x79, I80) else ob3 (iter (fun z : Int32 × IS => fm_M_findWhy_B53 p0 z.1 z.2) FU ((0 : Int32), I80)) (fun _ x173 I174 => bnd (x79 + (1 : Int32)) (fun x183 => some (0, x183, I174)))
def fm_M_findWhy_B163 (p0 : Int32) (x205 : Int32) (I206 : IS) (x225 : Int32) : Option (Nat × Int32) :=
  ob1 (fm_M_inForce p0 x225 I206) (fun x234 => if x234 = 0 then bnd (x225 + (1 : Int32)) (fun x244 => some (0, x244)) else grd (inB (((400 : Int32) * p0) + x225) 4800) (if (I206 4 (((400 : Int32) * p0) + x225).toNatClampNeg) = x205 then grd (inB (((400 : Int32) * p0) + x225) 4800) (grd (inB (I206 5 (((400 : Int32) * p0) + x225).toNatClampNeg) 16) (grd (inB x205 16) (if (I206 14 (I206 5 (((400 : Int32) * p0) + x225).toNatClampNeg).toNatClampNeg) = ((I206 14 x205.toNatClampNeg) - (1 : Int32)) then some (1, x225) else bnd (x225 + (1 : Int32)) (fun x269 => some (0, x269))))) else bnd (x225 + (1 : Int32)) (fun x254 => some (0, x254))))
def fm_M_findWhy_B154 (p0 : Int32) (p2 : Int32) (x205 : Int32) (I206 : IS) : Option (Nat × Int32 × IS) :=
  if x205 = p2 then some (1, x205, I206) else ob2 (iter (fun z : Int32 => fm_M_findWhy_B163 p0 x205 I206 z) FU (0 : Int32)) (fun _ x275 => grd (inB (I206 12 0) 16) (bnd (sI I206 13 (I206 12 0).toNatClampNeg (x275 + (1 : Int32))) (fun I286 => bnd (sV I286 12 ((I286 12 0) + (1 : Int32))) (fun I294 => grd (inB (((400 : Int32) * p0) + x275) 4800) (bnd (I294 5 (((400 : Int32) * p0) + x275).toNatClampNeg) (fun x304 => some (0, x304, I294)))))))
def fm_M_findWhy (p0 : Int32) (p1 : Int32) (p2 : Int32) (I0 : IS) : Option (IS) :=
  bnd (sV I0 12 (0 : Int32)) (fun I1 => ob3 (iter (fun z : Int32 × IS => fm_M_findWhy_B8 p2 z.1 z.2) FU ((0 : Int32), I1)) (fun _ x63 I64 => ob3 (iter (fun z : Int32 × IS => fm_M_findWhy_B43 p0 z.1 z.2) FU ((0 : Int32), I64)) (fun _ x189 I190 => ob3 (iter (fun z : Int32 × IS => fm_M_findWhy_B154 p0 p2 z.1 z.2) FU (p1, I190)) (fun _ x310 I311 => some I311))))
set_option maxHeartbeats 4000000 in
set_option maxRecDepth 100000 in
theorem cm_M_findWhy (l : Launch) (D : va_G) (ca : Nat → ClassId) (am : Nat → Nat) {p0 : Int32} {p1 : Int32} {p2 : Int32} {I0 : IS} {J0 : JS} {r : IS} (hf : fm_M_findWhy p0 p1 p2 I0 = some r) : CtV l y_M_findWhy (Cond.code y_M_findWhy b_M_findWhy 7 none :: TB) { frames := 2, cells := 0, slots := 0, locals := 45 } [.ref (am 0), .int p0, .int p1, .int p2] D cls_all (tysC ca) NN (wM ca am I0 J0) (wM ca am r J0) := by
  refine jd_metV (cc := b_M_findWhy) (by decide) rfl (Nat.le_of_ble_eq_true rfl) (lv := [(0, .ref (am 0)), (1, .int p0), (2, .int p1), (3, .int p2)]) rfl ?_
  intro p e R s m args below meth c A Q ls cx hR hK hN hD0 hA hP hS hl hend
  have hx := cx.1
  have hb := cx.2.1
  have hml := cx.2.2.1
  have hown := cx.2.2.2.1
  have hts := cx.2.2.2.2
  have hD : ∀ I J, va_D A (wM ca am I J) := fun I J => jd_Dc hD0 rfl
  unfold fm_M_findWhy at hf
  refine lv_aload_n hx hb d_M_findWhy_0 rfl (lv_at hl 0 rfl) ?_
  refine lv_iconst (v := 0) hx hb d_M_findWhy_1 (by decide) ?_
  obtain ⟨I1, e2, hf3⟩ := bnd_ex hf
  refine va_put (D := D) (ci := 6) (v := .int (0 : Int32)) (ty := .int) (C := R_M) (T := F_M) (N := 24) hx hb hts (fun w h => List.mem_cons_of_mem _ (uw_M w h)) ft_M tk_M n_M hown hK hP (hD I0 J0) hS 0 rfl rfl 14 (by decide) (hts _ (List.mem_cons_of_mem _ tb_614)) (fun _ h => h) rfl (by decide +kernel) rfl rfl (Nat.le_of_ble_eq_true rfl) d_M_findWhy_2 (fun H4 L5 hp8 _ hS7 => ?_)
  have hP6 : va_P D cls_all (wM ca am I1 J0) H4 := by rw [e2]; exact hp8
  refine lv_iconst (v := 0) hx hb d_M_findWhy_5 (by decide) ?_
  refine lv_istore hx hb d_M_findWhy_6 hl (by decide) (lv' := [(4, .int (0 : Int32)), (0, .ref (am 0)), (1, .int p0), (2, .int p1), (3, .int p2)]) rfl (fun ls9 hl10 => ?_)
  obtain ⟨tg62, x63, I64, ho65, hf66⟩ := ob3_ex hf3
  have kx8_1 : ∀ (H67 : Heap) (L68 : List Loc) (ls69 : Array Slot), va_P D cls_all (wM ca am I64 J0) H67 → va_S A s.heap H67 L68 → lv_has ls69 7 [(0, .ref (am 0)), (1, .int p0), (2, .int p1), (3, .int p2)] → W p l e R s m args below meth c H67 L68 0 0 Q (F0 m 40 ls69 []) := by
    intro H67 L68 ls69 hP70 hS71 hl72
    refine lv_iconst (v := 0) hx hb d_M_findWhy_40 (by decide) ?_
    refine lv_istore hx hb d_M_findWhy_41 hl72 (by decide) (lv' := [(4, .int (0 : Int32)), (0, .ref (am 0)), (1, .int p0), (2, .int p1), (3, .int p2)]) rfl (fun ls73 hl74 => ?_)
    obtain ⟨tg188, x189, I190, ho191, hf192⟩ := ob3_ex hf66
    have kx43_1 : ∀ (H193 : Heap) (L194 : List Loc) (ls195 : Array Slot), va_P D cls_all (wM ca am I190 J0) H193 → va_S A s.heap H193 L194 → lv_has ls195 7 [(0, .ref (am 0)), (1, .int p0), (2, .int p1), (3, .int p2)] → W p l e R s m args below meth c H193 L194 0 0 Q (F0 m 151 ls195 []) := by
      intro H193 L194 ls195 hP196 hS197 hl198
      refine lv_iload_n hx hb d_M_findWhy_151 rfl (lv_at hl198 2 rfl) ?_
      refine lv_istore hx hb d_M_findWhy_152 hl198 (by decide) (lv' := [(4, .int p1), (0, .ref (am 0)), (1, .int p0), (2, .int p1), (3, .int p2)]) rfl (fun ls199 hl200 => ?_)
      obtain ⟨tg309, x310, I311, ho312, hf313⟩ := ob3_ex hf192
      have kx154_1 : ∀ (H314 : Heap) (L315 : List Loc) (ls316 : Array Slot), va_P D cls_all (wM ca am I311 J0) H314 → va_S A s.heap H314 L315 → lv_has ls316 7 [] → W p l e R s m args below meth c H314 L315 0 0 Q (F0 m 268 ls316 []) := by
        intro H314 L315 ls316 hP317 hS318 hl319
        cases hf313
        exact hend H314 L315 268 ls316 hP317 hS318 d_M_findWhy_268
      refine iter_ind (C := fun z : Int32 × IS => ∀ (H207 : Heap) (L208 : List Loc) (ls209 : Array Slot), va_P D cls_all (wM ca am z.2 J0) H207 → va_S A s.heap H207 L208 → lv_has ls209 7 [(0, .ref (am 0)), (1, .int p0), (3, .int p2), (4, .int z.1)] → W p l e R s m args below meth c H207 L208 0 0 Q (F0 m 154 ls209 [])) (fun z204 o203 hz214 hc201 he202 => ?_) _ _ ho312 H193 L194 ls199 hP196 hS197 (lv_sub hl200 [1, 2, 4, 0] rfl)
      obtain ⟨x205, I206⟩ := z204
      intro H207 L208 ls209 hP210 hS211 hl212
      have hf213 : fm_M_findWhy_B154 p0 p2 x205 I206 = some o203 := hz214
      unfold fm_M_findWhy_B154 at hf213
      refine lv_iload hx hb d_M_findWhy_154 (lv_at hl212 3 rfl) ?_
      refine lv_iload_n hx hb d_M_findWhy_156 rfl (lv_at hl212 2 rfl) ?_
      refine lv_icmp_eq (tgt := 268) hx hb d_M_findWhy_157 rfl (fun h215 => ?_) (fun h215 => ?_)
      · have hf216 := ifp hf213 h215
        cases hf216
        have e218 := he202 (by show (1 : Nat) ≠ 0; decide)
        cases e218
        exact kx154_1 H207 L208 ls209 hP210 hS211 (lv_sub hl212 [] rfl)
      · have hf217 := ifn hf213 h215
        refine lv_iconst (v := 0) hx hb d_M_findWhy_160 (by decide) ?_
        refine lv_istore hx hb d_M_findWhy_161 hl212 (by decide) (lv' := [(5, .int (0 : Int32)), (0, .ref (am 0)), (1, .int p0), (3, .int p2), (4, .int x205)]) rfl (fun ls219 hl220 => ?_)
        obtain ⟨tg274, x275, ho276, hf277⟩ := ob2_ex hf217
        have kx163_1 : ∀ (H278 : Heap) (L279 : List Loc) (ls280 : Array Slot), va_P D cls_all (wM ca am I206 J0) H278 → va_S A s.heap H278 L279 → lv_has ls280 7 [(0, .ref (am 0)), (1, .int p0), (3, .int p2), (5, .int x275)] → W p l e R s m args below meth c H278 L279 0 0 Q (F0 m 227 ls280 []) := by
          intro H278 L279 ls280 hP281 hS282 hl283
          refine lv_aload_n hx hb d_M_findWhy_227 rfl (lv_at hl283 0 rfl) ?_
          refine va_get (D := D) (ci := 6) (v := .ref (am 11)) (C := R_M) (T := F_M) (N := 24) hx hb hts (fun w h => List.mem_cons_of_mem _ (uw_M w h)) hown hK hP281 0 rfl rfl 15 (by decide) (hts _ (List.mem_cons_of_mem _ tb_615)) (fun _ h => h) rfl d_M_findWhy_228 ?_
          refine lv_aload_n hx hb d_M_findWhy_231 rfl (lv_at hl283 0 rfl) ?_
          refine va_get (D := D) (ci := 6) (v := .int (I206 12 0)) (C := R_M) (T := F_M) (N := 24) hx hb hts (fun w h => List.mem_cons_of_mem _ (uw_M w h)) hown hK hP281 0 rfl rfl 14 (by decide) (hts _ (List.mem_cons_of_mem _ tb_614)) (fun _ h => h) rfl d_M_findWhy_232 ?_
          refine lv_iload hx hb d_M_findWhy_235 (lv_at hl283 3 rfl) ?_
          refine lv_iconst (v := 1) hx hb d_M_findWhy_237 (by decide) ?_
          refine lv_iadd hx hb d_M_findWhy_238 ?_
          obtain ⟨hg284, hf285⟩ := grd_ex hf277
          obtain ⟨I286, e287, hf288⟩ := bnd_ex hf285
          refine va_iast hx hb hK hP281 (hD I206 J0) hS282 11 2 rfl rfl (inB_in hg284) d_M_findWhy_239 (fun H289 L290 hp293 _ hS292 => ?_)
          have hP291 : va_P D cls_all (wM ca am I286 J0) H289 := by rw [e287]; exact hp293
          refine lv_aload_n hx hb d_M_findWhy_240 rfl (lv_at hl283 0 rfl) ?_
          refine lv_dup hx hb d_M_findWhy_241 rfl ?_
          refine va_get (D := D) (ci := 6) (v := .int (I286 12 0)) (C := R_M) (T := F_M) (N := 24) hx hb hts (fun w h => List.mem_cons_of_mem _ (uw_M w h)) hown hK hP291 0 rfl rfl 14 (by decide) (hts _ (List.mem_cons_of_mem _ tb_614)) (fun _ h => h) rfl d_M_findWhy_242 ?_
          refine lv_iconst (v := 1) hx hb d_M_findWhy_245 (by decide) ?_
          refine lv_iadd hx hb d_M_findWhy_246 ?_
          obtain ⟨I294, e295, hf296⟩ := bnd_ex hf288
          refine va_put (D := D) (ci := 6) (v := .int ((I286 12 0) + (1 : Int32))) (ty := .int) (C := R_M) (T := F_M) (N := 24) hx hb hts (fun w h => List.mem_cons_of_mem _ (uw_M w h)) ft_M tk_M n_M hown hK hP291 (hD I286 J0) hS292 0 rfl rfl 14 (by decide) (hts _ (List.mem_cons_of_mem _ tb_614)) (fun _ h => h) rfl (by decide +kernel) rfl rfl (Nat.le_of_ble_eq_true rfl) d_M_findWhy_247 (fun H297 L298 hp301 _ hS300 => ?_)
          have hP299 : va_P D cls_all (wM ca am I294 J0) H297 := by rw [e295]; exact hp301
          refine lv_aload_n hx hb d_M_findWhy_250 rfl (lv_at hl283 0 rfl) ?_
          refine va_get (D := D) (ci := 6) (v := .ref (am 5)) (C := R_M) (T := F_M) (N := 24) hx hb hts (fun w h => List.mem_cons_of_mem _ (uw_M w h)) hown hK hP299 0 rfl rfl 5 (by decide) (hts _ (List.mem_cons_of_mem _ tb_605)) (fun _ h => h) rfl d_M_findWhy_251 ?_
          refine lv_sipush (v := 400) hx hb d_M_findWhy_254 (by decide) ?_
          refine lv_iload_n hx hb d_M_findWhy_257 rfl (lv_at hl283 1 rfl) ?_
          refine lv_imul hx hb d_M_findWhy_258 ?_
          refine lv_iload hx hb d_M_findWhy_259 (lv_at hl283 3 rfl) ?_
          refine lv_iadd hx hb d_M_findWhy_261 ?_
          obtain ⟨hg302, hf303⟩ := grd_ex hf296
          refine va_iald hx hb hK hP299 5 2 rfl rfl (inB_in hg302) d_M_findWhy_262 ?_
          obtain ⟨x304, e305, hf306⟩ := bnd_ex hf303
          refine jd_tni e305 ?_
          refine lv_istore hx hb d_M_findWhy_263 hl283 (by decide) (lv' := [(4, .int x304), (0, .ref (am 0)), (1, .int p0), (3, .int p2), (5, .int x275)]) rfl (fun ls307 hl308 => ?_)
          refine lv_goto (tgt := 154) hx hb d_M_findWhy_265 rfl ?_
          cases hf306
          exact hc201 rfl H297 L298 ls307 hP299 hS300 (lv_sub hl308 [1, 2, 3, 0] rfl)
        refine iter_ind (C := fun z : Int32 => ∀ (H226 : Heap) (L227 : List Loc) (ls228 : Array Slot), va_P D cls_all (wM ca am I206 J0) H226 → va_S A s.heap H226 L227 → lv_has ls228 7 [(0, .ref (am 0)), (1, .int p0), (3, .int p2), (4, .int x205), (5, .int z)] → W p l e R s m args below meth c H226 L227 0 0 Q (F0 m 163 ls228 [])) (fun x225 o223 hz233 hc221 he222 => ?_) _ _ ho276 H207 L208 ls219 hP210 hS211 (lv_sub hl220 [1, 2, 3, 4, 0] rfl)
        intro H226 L227 ls228 hP229 hS230 hl231
        have hf232 : fm_M_findWhy_B163 p0 x205 I206 x225 = some o223 := hz233
        unfold fm_M_findWhy_B163 at hf232
        refine lv_aload_n hx hb d_M_findWhy_163 rfl (lv_at hl231 0 rfl) ?_
        refine lv_iload_n hx hb d_M_findWhy_164 rfl (lv_at hl231 1 rfl) ?_
        refine lv_iload hx hb d_M_findWhy_165 (lv_at hl231 4 rfl) ?_
        obtain ⟨x234, hc235, hf236⟩ := ob1_ex hf232
        refine jd_ci (va_runV (As := [.int p0, .int x225]) (rest := []) cx (cm_M_inForce l D ca am hc235 H226.size) (cwV 2 hts (jd_gV tb_690 tb_691 tb_28 tb_47 tb_692) rfl rfl rfl ⟨rfl, by decide, by decide, rfl⟩ (by rw [hR]; decide)) ⟨jd_blind nWc, (va_recv hK hP229 (ci := 6) (q0 := 0) rfl rfl), (jd_pre (av := [.ref (am 0), .int p0, .int x225]) hP229 hK (hD I206 J0) (fun U h => nWm h hN))⟩ rfl rfl hl231.1 rfl (lv_room (Nat.le_of_ble_eq_true rfl)) d_M_findWhy_167 ⟨Nat.zero_le _, Nat.zero_le _⟩) hS230 (hD I206 J0) hA (fun H237 L238 hP239 hS240 => ?_)
        refine lv_if_eq (tgt := 221) hx hb d_M_findWhy_170 rfl (fun h241 => ?_) (fun h241 => ?_)
        · have hf242 := ifp hf236 h241
          obtain ⟨x244, e245, hf246⟩ := bnd_ex hf242
          refine lv_iinc hx hb d_M_findWhy_221 hl231 (k := 4) rfl (v := x244) (by rw [e245]; rfl) (by decide) (lv' := [(5, .int x244), (0, .ref (am 0)), (1, .int p0), (3, .int p2), (4, .int x205)]) rfl (fun ls247 hl248 => ?_)
          refine lv_goto (tgt := 163) hx hb d_M_findWhy_224 rfl ?_
          cases hf246
          exact hc221 rfl H237 L238 ls247 hP239 hS240 (lv_sub hl248 [1, 2, 3, 4, 0] rfl)
        · have hf243 := ifn hf236 h241
          refine lv_aload_n hx hb d_M_findWhy_173 rfl (lv_at hl231 0 rfl) ?_
          refine va_get (D := D) (ci := 6) (v := .ref (am 4)) (C := R_M) (T := F_M) (N := 24) hx hb hts (fun w h => List.mem_cons_of_mem _ (uw_M w h)) hown hK hP239 0 rfl rfl 4 (by decide) (hts _ (List.mem_cons_of_mem _ tb_604)) (fun _ h => h) rfl d_M_findWhy_174 ?_
          refine lv_sipush (v := 400) hx hb d_M_findWhy_177 (by decide) ?_
          refine lv_iload_n hx hb d_M_findWhy_180 rfl (lv_at hl231 1 rfl) ?_
          refine lv_imul hx hb d_M_findWhy_181 ?_
          refine lv_iload hx hb d_M_findWhy_182 (lv_at hl231 4 rfl) ?_
          refine lv_iadd hx hb d_M_findWhy_184 ?_
          obtain ⟨hg249, hf250⟩ := grd_ex hf243
          refine va_iald hx hb hK hP239 4 2 rfl rfl (inB_in hg249) d_M_findWhy_185 ?_
          refine lv_iload hx hb d_M_findWhy_186 (lv_at hl231 3 rfl) ?_
          refine lv_icmp_ne (tgt := 221) hx hb d_M_findWhy_188 rfl (fun h251 => ?_) (fun h251 => ?_)
          · have hf252 := ifn hf250 h251
            obtain ⟨x254, e255, hf256⟩ := bnd_ex hf252
            refine lv_iinc hx hb d_M_findWhy_221 hl231 (k := 4) rfl (v := x254) (by rw [e255]; rfl) (by decide) (lv' := [(5, .int x254), (0, .ref (am 0)), (1, .int p0), (3, .int p2), (4, .int x205)]) rfl (fun ls257 hl258 => ?_)
            refine lv_goto (tgt := 163) hx hb d_M_findWhy_224 rfl ?_
            cases hf256
            exact hc221 rfl H237 L238 ls257 hP239 hS240 (lv_sub hl258 [1, 2, 3, 4, 0] rfl)
          · have hf253 := ifp hf250 h251
            refine lv_aload_n hx hb d_M_findWhy_191 rfl (lv_at hl231 0 rfl) ?_
            refine va_get (D := D) (ci := 6) (v := .ref (am 12)) (C := R_M) (T := F_M) (N := 24) hx hb hts (fun w h => List.mem_cons_of_mem _ (uw_M w h)) hown hK hP239 0 rfl rfl 16 (by decide) (hts _ (List.mem_cons_of_mem _ tb_616)) (fun _ h => h) rfl d_M_findWhy_192 ?_
            refine lv_aload_n hx hb d_M_findWhy_195 rfl (lv_at hl231 0 rfl) ?_
            refine va_get (D := D) (ci := 6) (v := .ref (am 5)) (C := R_M) (T := F_M) (N := 24) hx hb hts (fun w h => List.mem_cons_of_mem _ (uw_M w h)) hown hK hP239 0 rfl rfl 5 (by decide) (hts _ (List.mem_cons_of_mem _ tb_605)) (fun _ h => h) rfl d_M_findWhy_196 ?_
            refine lv_sipush (v := 400) hx hb d_M_findWhy_199 (by decide) ?_
            refine lv_iload_n hx hb d_M_findWhy_202 rfl (lv_at hl231 1 rfl) ?_
            refine lv_imul hx hb d_M_findWhy_203 ?_
            refine lv_iload hx hb d_M_findWhy_204 (lv_at hl231 4 rfl) ?_
            refine lv_iadd hx hb d_M_findWhy_206 ?_
            obtain ⟨hg259, hf260⟩ := grd_ex hf253
            refine va_iald hx hb hK hP239 5 2 rfl rfl (inB_in hg259) d_M_findWhy_207 ?_
            obtain ⟨hg261, hf262⟩ := grd_ex hf260
            refine va_iald hx hb hK hP239 12 2 rfl rfl (inB_in hg261) d_M_findWhy_208 ?_
            refine lv_aload_n hx hb d_M_findWhy_209 rfl (lv_at hl231 0 rfl) ?_
            refine va_get (D := D) (ci := 6) (v := .ref (am 12)) (C := R_M) (T := F_M) (N := 24) hx hb hts (fun w h => List.mem_cons_of_mem _ (uw_M w h)) hown hK hP239 0 rfl rfl 16 (by decide) (hts _ (List.mem_cons_of_mem _ tb_616)) (fun _ h => h) rfl d_M_findWhy_210 ?_
            refine lv_iload hx hb d_M_findWhy_213 (lv_at hl231 3 rfl) ?_
            obtain ⟨hg263, hf264⟩ := grd_ex hf262
            refine va_iald hx hb hK hP239 12 2 rfl rfl (inB_in hg263) d_M_findWhy_215 ?_
            refine lv_iconst (v := 1) hx hb d_M_findWhy_216 (by decide) ?_
            refine lv_isub hx hb d_M_findWhy_217 ?_
            refine lv_icmp_eq (tgt := 227) hx hb d_M_findWhy_218 rfl (fun h265 => ?_) (fun h265 => ?_)
            · have hf266 := ifp hf264 h265
              cases hf266
              have e268 := he222 (by show (1 : Nat) ≠ 0; decide)
              cases e268
              exact kx163_1 H237 L238 ls228 hP239 hS240 (lv_sub hl231 [0, 1, 2, 4] rfl)
            · have hf267 := ifn hf264 h265
              obtain ⟨x269, e270, hf271⟩ := bnd_ex hf267
              refine lv_iinc hx hb d_M_findWhy_221 hl231 (k := 4) rfl (v := x269) (by rw [e270]; rfl) (by decide) (lv' := [(5, .int x269), (0, .ref (am 0)), (1, .int p0), (3, .int p2), (4, .int x205)]) rfl (fun ls272 hl273 => ?_)
              refine lv_goto (tgt := 163) hx hb d_M_findWhy_224 rfl ?_
              cases hf271
              exact hc221 rfl H237 L238 ls272 hP239 hS240 (lv_sub hl273 [1, 2, 3, 4, 0] rfl)
    refine iter_ind (C := fun z : Int32 × IS => ∀ (H81 : Heap) (L82 : List Loc) (ls83 : Array Slot), va_P D cls_all (wM ca am z.2 J0) H81 → va_S A s.heap H81 L82 → lv_has ls83 7 [(0, .ref (am 0)), (1, .int p0), (2, .int p1), (3, .int p2), (4, .int z.1)] → W p l e R s m args below meth c H81 L82 0 0 Q (F0 m 43 ls83 [])) (fun z78 o77 hz88 hc75 he76 => ?_) _ _ ho191 H67 L68 ls73 hP70 hS71 (lv_sub hl74 [1, 2, 3, 4, 0] rfl)
    obtain ⟨x79, I80⟩ := z78
    intro H81 L82 ls83 hP84 hS85 hl86
    have hf87 : fm_M_findWhy_B43 p0 x79 I80 = some o77 := hz88
    unfold fm_M_findWhy_B43 at hf87
    refine lv_iload hx hb d_M_findWhy_43 (lv_at hl86 4 rfl) ?_
    refine lv_bipush (v := 16) hx hb d_M_findWhy_45 (by decide) ?_
    refine lv_icmp_ge (tgt := 151) hx hb d_M_findWhy_47 rfl (fun h89 => ?_) (fun h89 => ?_)
    · have hf90 := ifp hf87 h89
      cases hf90
      have e92 := he76 (by show (1 : Nat) ≠ 0; decide)
      cases e92
      exact kx43_1 H81 L82 ls83 hP84 hS85 (lv_sub hl86 [0, 1, 2, 3] rfl)
    · have hf91 := ifn hf87 h89
      refine lv_iconst (v := 0) hx hb d_M_findWhy_50 (by decide) ?_
      refine lv_istore hx hb d_M_findWhy_51 hl86 (by decide) (lv' := [(5, .int (0 : Int32)), (0, .ref (am 0)), (1, .int p0), (2, .int p1), (3, .int p2), (4, .int x79)]) rfl (fun ls93 hl94 => ?_)
      obtain ⟨tg172, x173, I174, ho175, hf176⟩ := ob3_ex hf91
      have kx53_1 : ∀ (H177 : Heap) (L178 : List Loc) (ls179 : Array Slot), va_P D cls_all (wM ca am I174 J0) H177 → va_S A s.heap H177 L178 → lv_has ls179 7 [(0, .ref (am 0)), (1, .int p0), (2, .int p1), (3, .int p2), (4, .int x79)] → W p l e R s m args below meth c H177 L178 0 0 Q (F0 m 145 ls179 []) := by
        intro H177 L178 ls179 hP180 hS181 hl182
        obtain ⟨x183, e184, hf185⟩ := bnd_ex hf176
        refine lv_iinc hx hb d_M_findWhy_145 hl182 (k := 4) rfl (v := x183) (by rw [e184]; rfl) (by decide) (lv' := [(4, .int x183), (0, .ref (am 0)), (1, .int p0), (2, .int p1), (3, .int p2)]) rfl (fun ls186 hl187 => ?_)
        refine lv_goto (tgt := 43) hx hb d_M_findWhy_148 rfl ?_
        cases hf185
        exact hc75 rfl H177 L178 ls186 hP180 hS181 (lv_sub hl187 [1, 2, 3, 4, 0] rfl)
      refine iter_ind (C := fun z : Int32 × IS => ∀ (H101 : Heap) (L102 : List Loc) (ls103 : Array Slot), va_P D cls_all (wM ca am z.2 J0) H101 → va_S A s.heap H101 L102 → lv_has ls103 7 [(0, .ref (am 0)), (1, .int p0), (2, .int p1), (3, .int p2), (4, .int x79), (5, .int z.1)] → W p l e R s m args below meth c H101 L102 0 0 Q (F0 m 53 ls103 [])) (fun z98 o97 hz108 hc95 he96 => ?_) _ _ ho175 H81 L82 ls93 hP84 hS85 (lv_sub hl94 [1, 2, 3, 4, 5, 0] rfl)
      obtain ⟨x99, I100⟩ := z98
      intro H101 L102 ls103 hP104 hS105 hl106
      have hf107 : fm_M_findWhy_B53 p0 x99 I100 = some o97 := hz108
      unfold fm_M_findWhy_B53 at hf107
      refine lv_iload hx hb d_M_findWhy_53 (lv_at hl106 5 rfl) ?_
      refine lv_aload_n hx hb d_M_findWhy_55 rfl (lv_at hl106 0 rfl) ?_
      refine va_get (D := D) (ci := 6) (v := .ref (am 3)) (C := R_M) (T := F_M) (N := 24) hx hb hts (fun w h => List.mem_cons_of_mem _ (uw_M w h)) hown hK hP104 0 rfl rfl 3 (by decide) (hts _ (List.mem_cons_of_mem _ tb_603)) (fun _ h => h) rfl d_M_findWhy_56 ?_
      refine lv_iload_n hx hb d_M_findWhy_59 rfl (lv_at hl106 1 rfl) ?_
      obtain ⟨hg109, hf110⟩ := grd_ex hf107
      refine va_iald hx hb hK hP104 3 2 rfl rfl (inB_in hg109) d_M_findWhy_60 ?_
      refine lv_icmp_ge (tgt := 145) hx hb d_M_findWhy_61 rfl (fun h111 => ?_) (fun h111 => ?_)
      · have hf112 := ifp hf110 h111
        cases hf112
        have e114 := he96 (by show (1 : Nat) ≠ 0; decide)
        cases e114
        exact kx53_1 H101 L102 ls103 hP104 hS105 (lv_sub hl106 [0, 1, 2, 3, 4] rfl)
      · have hf113 := ifn hf110 h111
        refine lv_sipush (v := 400) hx hb d_M_findWhy_64 (by decide) ?_
        refine lv_iload_n hx hb d_M_findWhy_67 rfl (lv_at hl106 1 rfl) ?_
        refine lv_imul hx hb d_M_findWhy_68 ?_
        refine lv_iload hx hb d_M_findWhy_69 (lv_at hl106 5 rfl) ?_
        refine lv_iadd hx hb d_M_findWhy_71 ?_
        obtain ⟨x115, e116, hf117⟩ := bnd_ex hf113
        refine jd_tni e116 ?_
        refine lv_istore hx hb d_M_findWhy_72 hl106 (by decide) (lv' := [(6, .int x115), (0, .ref (am 0)), (1, .int p0), (2, .int p1), (3, .int p2), (4, .int x79), (5, .int x99)]) rfl (fun ls118 hl119 => ?_)
        refine lv_aload_n hx hb d_M_findWhy_74 rfl (lv_at hl119 1 rfl) ?_
        refine lv_iload_n hx hb d_M_findWhy_75 rfl (lv_at hl119 2 rfl) ?_
        refine lv_iload hx hb d_M_findWhy_76 (lv_at hl119 6 rfl) ?_
        obtain ⟨x120, hc121, hf122⟩ := ob1_ex hf117
        refine jd_ci (va_runV (As := [.int p0, .int x99]) (rest := []) cx (cm_M_inForce l D ca am hc121 H101.size) (cwV 2 hts (jd_gV tb_690 tb_691 tb_28 tb_47 tb_692) rfl rfl rfl ⟨rfl, by decide, by decide, rfl⟩ (by rw [hR]; decide)) ⟨jd_blind nWc, (va_recv hK hP104 (ci := 6) (q0 := 0) rfl rfl), (jd_pre (av := [.ref (am 0), .int p0, .int x99]) hP104 hK (hD I100 J0) (fun U h => nWm h hN))⟩ rfl rfl hl119.1 rfl (lv_room (Nat.le_of_ble_eq_true rfl)) d_M_findWhy_78 ⟨Nat.zero_le _, Nat.zero_le _⟩) hS105 (hD I100 J0) hA (fun H123 L124 hP125 hS126 => ?_)
        refine lv_if_eq (tgt := 139) hx hb d_M_findWhy_81 rfl (fun h127 => ?_) (fun h127 => ?_)
        · have hf128 := ifp hf122 h127
          obtain ⟨x130, e131, hf132⟩ := bnd_ex hf128
          refine lv_iinc hx hb d_M_findWhy_139 hl119 (k := 6) rfl (v := x130) (by rw [e131]; rfl) (by decide) (lv' := [(5, .int x130), (6, .int x115), (0, .ref (am 0)), (1, .int p0), (2, .int p1), (3, .int p2), (4, .int x79)]) rfl (fun ls133 hl134 => ?_)
          refine lv_goto (tgt := 53) hx hb d_M_findWhy_142 rfl ?_
          cases hf132
          exact hc95 rfl H123 L124 ls133 hP125 hS126 (lv_sub hl134 [2, 3, 4, 5, 6, 0] rfl)
        · have hf129 := ifn hf122 h127
          refine lv_aload_n hx hb d_M_findWhy_84 rfl (lv_at hl119 1 rfl) ?_
          refine va_get (D := D) (ci := 6) (v := .ref (am 12)) (C := R_M) (T := F_M) (N := 24) hx hb hts (fun w h => List.mem_cons_of_mem _ (uw_M w h)) hown hK hP125 0 rfl rfl 16 (by decide) (hts _ (List.mem_cons_of_mem _ tb_616)) (fun _ h => h) rfl d_M_findWhy_85 ?_
          refine lv_aload_n hx hb d_M_findWhy_88 rfl (lv_at hl119 1 rfl) ?_
          refine va_get (D := D) (ci := 6) (v := .ref (am 5)) (C := R_M) (T := F_M) (N := 24) hx hb hts (fun w h => List.mem_cons_of_mem _ (uw_M w h)) hown hK hP125 0 rfl rfl 5 (by decide) (hts _ (List.mem_cons_of_mem _ tb_605)) (fun _ h => h) rfl d_M_findWhy_89 ?_
          refine lv_iload hx hb d_M_findWhy_92 (lv_at hl119 0 rfl) ?_
          obtain ⟨hg135, hf136⟩ := grd_ex hf129
          refine va_iald hx hb hK hP125 5 2 rfl rfl (inB_in hg135) d_M_findWhy_94 ?_
          obtain ⟨hg137, hf138⟩ := grd_ex hf136
          refine va_iald hx hb hK hP125 12 2 rfl rfl (inB_in hg137) d_M_findWhy_95 ?_
          refine lv_iconst (v := 1) hx hb d_M_findWhy_96 (by decide) ?_
          refine lv_iadd hx hb d_M_findWhy_97 ?_
          refine lv_aload_n hx hb d_M_findWhy_98 rfl (lv_at hl119 1 rfl) ?_
          refine va_get (D := D) (ci := 6) (v := .ref (am 12)) (C := R_M) (T := F_M) (N := 24) hx hb hts (fun w h => List.mem_cons_of_mem _ (uw_M w h)) hown hK hP125 0 rfl rfl 16 (by decide) (hts _ (List.mem_cons_of_mem _ tb_616)) (fun _ h => h) rfl d_M_findWhy_99 ?_
          refine lv_aload_n hx hb d_M_findWhy_102 rfl (lv_at hl119 1 rfl) ?_
          refine va_get (D := D) (ci := 6) (v := .ref (am 4)) (C := R_M) (T := F_M) (N := 24) hx hb hts (fun w h => List.mem_cons_of_mem _ (uw_M w h)) hown hK hP125 0 rfl rfl 4 (by decide) (hts _ (List.mem_cons_of_mem _ tb_604)) (fun _ h => h) rfl d_M_findWhy_103 ?_
          refine lv_iload hx hb d_M_findWhy_106 (lv_at hl119 0 rfl) ?_
          obtain ⟨hg139, hf140⟩ := grd_ex hf138
          refine va_iald hx hb hK hP125 4 2 rfl rfl (inB_in hg139) d_M_findWhy_108 ?_
          obtain ⟨hg141, hf142⟩ := grd_ex hf140
          refine va_iald hx hb hK hP125 12 2 rfl rfl (inB_in hg141) d_M_findWhy_109 ?_
          refine lv_icmp_ge (tgt := 139) hx hb d_M_findWhy_110 rfl (fun h143 => ?_) (fun h143 => ?_)
          · have hf144 := ifp hf142 h143
            obtain ⟨x146, e147, hf148⟩ := bnd_ex hf144
            refine lv_iinc hx hb d_M_findWhy_139 hl119 (k := 6) rfl (v := x146) (by rw [e147]; rfl) (by decide) (lv' := [(5, .int x146), (6, .int x115), (0, .ref (am 0)), (1, .int p0), (2, .int p1), (3, .int p2), (4, .int x79)]) rfl (fun ls149 hl150 => ?_)
            refine lv_goto (tgt := 53) hx hb d_M_findWhy_142 rfl ?_
            cases hf148
            exact hc95 rfl H123 L124 ls149 hP125 hS126 (lv_sub hl150 [2, 3, 4, 5, 6, 0] rfl)
          · have hf145 := ifn hf142 h143
            refine lv_aload_n hx hb d_M_findWhy_113 rfl (lv_at hl119 1 rfl) ?_
            refine va_get (D := D) (ci := 6) (v := .ref (am 12)) (C := R_M) (T := F_M) (N := 24) hx hb hts (fun w h => List.mem_cons_of_mem _ (uw_M w h)) hown hK hP125 0 rfl rfl 16 (by decide) (hts _ (List.mem_cons_of_mem _ tb_616)) (fun _ h => h) rfl d_M_findWhy_114 ?_
            refine lv_aload_n hx hb d_M_findWhy_117 rfl (lv_at hl119 1 rfl) ?_
            refine va_get (D := D) (ci := 6) (v := .ref (am 4)) (C := R_M) (T := F_M) (N := 24) hx hb hts (fun w h => List.mem_cons_of_mem _ (uw_M w h)) hown hK hP125 0 rfl rfl 4 (by decide) (hts _ (List.mem_cons_of_mem _ tb_604)) (fun _ h => h) rfl d_M_findWhy_118 ?_
            refine lv_iload hx hb d_M_findWhy_121 (lv_at hl119 0 rfl) ?_
            obtain ⟨hg151, hf152⟩ := grd_ex hf145
            refine va_iald hx hb hK hP125 4 2 rfl rfl (inB_in hg151) d_M_findWhy_123 ?_
            refine lv_aload_n hx hb d_M_findWhy_124 rfl (lv_at hl119 1 rfl) ?_
            refine va_get (D := D) (ci := 6) (v := .ref (am 12)) (C := R_M) (T := F_M) (N := 24) hx hb hts (fun w h => List.mem_cons_of_mem _ (uw_M w h)) hown hK hP125 0 rfl rfl 16 (by decide) (hts _ (List.mem_cons_of_mem _ tb_616)) (fun _ h => h) rfl d_M_findWhy_125 ?_
            refine lv_aload_n hx hb d_M_findWhy_128 rfl (lv_at hl119 1 rfl) ?_
            refine va_get (D := D) (ci := 6) (v := .ref (am 5)) (C := R_M) (T := F_M) (N := 24) hx hb hts (fun w h => List.mem_cons_of_mem _ (uw_M w h)) hown hK hP125 0 rfl rfl 5 (by decide) (hts _ (List.mem_cons_of_mem _ tb_605)) (fun _ h => h) rfl d_M_findWhy_129 ?_
            refine lv_iload hx hb d_M_findWhy_132 (lv_at hl119 0 rfl) ?_
            obtain ⟨hg153, hf154⟩ := grd_ex hf152
            refine va_iald hx hb hK hP125 5 2 rfl rfl (inB_in hg153) d_M_findWhy_134 ?_
            obtain ⟨hg155, hf156⟩ := grd_ex hf154
            refine va_iald hx hb hK hP125 12 2 rfl rfl (inB_in hg155) d_M_findWhy_135 ?_
            refine lv_iconst (v := 1) hx hb d_M_findWhy_136 (by decide) ?_
            refine lv_iadd hx hb d_M_findWhy_137 ?_
            obtain ⟨hg157, hf158⟩ := grd_ex hf156
            obtain ⟨I159, e160, hf161⟩ := bnd_ex hf158
            refine va_iast hx hb hK hP125 (hD I100 J0) hS126 12 2 rfl rfl (inB_in hg157) d_M_findWhy_138 (fun H162 L163 hp166 _ hS165 => ?_)
            have hP164 : va_P D cls_all (wM ca am I159 J0) H162 := by rw [e160]; exact hp166
            obtain ⟨x167, e168, hf169⟩ := bnd_ex hf161
            refine lv_iinc hx hb d_M_findWhy_139 hl119 (k := 6) rfl (v := x167) (by rw [e168]; rfl) (by decide) (lv' := [(5, .int x167), (6, .int x115), (0, .ref (am 0)), (1, .int p0), (2, .int p1), (3, .int p2), (4, .int x79)]) rfl (fun ls170 hl171 => ?_)
            refine lv_goto (tgt := 53) hx hb d_M_findWhy_142 rfl ?_
            cases hf169
            exact hc95 rfl H162 L163 ls170 hP164 hS165 (lv_sub hl171 [2, 3, 4, 5, 6, 0] rfl)
  refine iter_ind (C := fun z : Int32 × IS => ∀ (H17 : Heap) (L18 : List Loc) (ls19 : Array Slot), va_P D cls_all (wM ca am z.2 J0) H17 → va_S A s.heap H17 L18 → lv_has ls19 7 [(0, .ref (am 0)), (1, .int p0), (2, .int p1), (3, .int p2), (4, .int z.1)] → W p l e R s m args below meth c H17 L18 0 0 Q (F0 m 8 ls19 [])) (fun z14 o13 hz24 hc11 he12 => ?_) _ _ ho65 H4 L5 ls9 hP6 hS7 (lv_sub hl10 [1, 2, 3, 4, 0] rfl)
  obtain ⟨x15, I16⟩ := z14
  intro H17 L18 ls19 hP20 hS21 hl22
  have hf23 : fm_M_findWhy_B8 p2 x15 I16 = some o13 := hz24
  unfold fm_M_findWhy_B8 at hf23
  refine lv_iload hx hb d_M_findWhy_8 (lv_at hl22 4 rfl) ?_
  refine lv_bipush (v := 16) hx hb d_M_findWhy_10 (by decide) ?_
  refine lv_icmp_ge (tgt := 40) hx hb d_M_findWhy_12 rfl (fun h25 => ?_) (fun h25 => ?_)
  · have hf26 := ifp hf23 h25
    cases hf26
    have e28 := he12 (by show (1 : Nat) ≠ 0; decide)
    cases e28
    exact kx8_1 H17 L18 ls19 hP20 hS21 (lv_sub hl22 [0, 1, 2, 3] rfl)
  · have hf27 := ifn hf23 h25
    refine lv_aload_n hx hb d_M_findWhy_15 rfl (lv_at hl22 0 rfl) ?_
    refine va_get (D := D) (ci := 6) (v := .ref (am 12)) (C := R_M) (T := F_M) (N := 24) hx hb hts (fun w h => List.mem_cons_of_mem _ (uw_M w h)) hown hK hP20 0 rfl rfl 16 (by decide) (hts _ (List.mem_cons_of_mem _ tb_616)) (fun _ h => h) rfl d_M_findWhy_16 ?_
    refine lv_iload hx hb d_M_findWhy_19 (lv_at hl22 4 rfl) ?_
    refine lv_iload hx hb d_M_findWhy_21 (lv_at hl22 4 rfl) ?_
    refine lv_iload_n hx hb d_M_findWhy_23 rfl (lv_at hl22 3 rfl) ?_
    refine lv_icmp_ne (tgt := 31) hx hb d_M_findWhy_24 rfl (fun h29 => ?_) (fun h29 => ?_)
    · have hf30 := ifn hf27 h29
      refine lv_bipush (v := 99) hx hb d_M_findWhy_31 (by decide) ?_
      obtain ⟨hg32, hf33⟩ := grd_ex hf30
      obtain ⟨I34, e35, hf36⟩ := bnd_ex hf33
      refine va_iast hx hb hK hP20 (hD I16 J0) hS21 12 2 rfl rfl (inB_in hg32) d_M_findWhy_33 (fun H37 L38 hp41 _ hS40 => ?_)
      have hP39 : va_P D cls_all (wM ca am I34 J0) H37 := by rw [e35]; exact hp41
      obtain ⟨x42, e43, hf44⟩ := bnd_ex hf36
      refine lv_iinc hx hb d_M_findWhy_34 hl22 (k := 4) rfl (v := x42) (by rw [e43]; rfl) (by decide) (lv' := [(4, .int x42), (0, .ref (am 0)), (1, .int p0), (2, .int p1), (3, .int p2)]) rfl (fun ls45 hl46 => ?_)
      refine lv_goto (tgt := 8) hx hb d_M_findWhy_37 rfl ?_
      cases hf44
      exact hc11 rfl H37 L38 ls45 hP39 hS40 (lv_sub hl46 [1, 2, 3, 4, 0] rfl)
    · have hf31 := ifp hf27 h29
      refine lv_iconst (v := 0) hx hb d_M_findWhy_27 (by decide) ?_
      refine lv_goto (tgt := 33) hx hb d_M_findWhy_28 rfl ?_
      obtain ⟨hg47, hf48⟩ := grd_ex hf31
      obtain ⟨I49, e50, hf51⟩ := bnd_ex hf48
      refine va_iast hx hb hK hP20 (hD I16 J0) hS21 12 2 rfl rfl (inB_in hg47) d_M_findWhy_33 (fun H52 L53 hp56 _ hS55 => ?_)
      have hP54 : va_P D cls_all (wM ca am I49 J0) H52 := by rw [e50]; exact hp56
      obtain ⟨x57, e58, hf59⟩ := bnd_ex hf51
      refine lv_iinc hx hb d_M_findWhy_34 hl22 (k := 4) rfl (v := x57) (by rw [e58]; rfl) (by decide) (lv' := [(4, .int x57), (0, .ref (am 0)), (1, .int p0), (2, .int p1), (3, .int p2)]) rfl (fun ls60 hl61 => ?_)
      refine lv_goto (tgt := 8) hx hb d_M_findWhy_37 rfl ?_
      cases hf59
      exact hc11 rfl H52 L53 ls60 hP54 hS55 (lv_sub hl61 [1, 2, 3, 4, 0] rfl)
