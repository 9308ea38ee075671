theorem d_K_holds_0 : decode b_K_holds 0 = .ok (.iload_n 0, 1) := by decide +kernel
theorem d_K_holds_1 : decode b_K_holds 1 = .ok (.iload_n 1, 1) := by decide +kernel
theorem d_K_holds_2 : decode b_K_holds 2 = .ok (.ishr, 1) := by decide +kernel
theorem d_K_holds_3 : decode b_K_holds 3 = .ok (.iconst 1, 1) := by decide +kernel
theorem d_K_holds_4 : decode b_K_holds 4 = .ok (.iand, 1) := by decide +kernel
theorem d_K_holds_5 : decode b_K_holds 5 = .ok (.ifCond .eq 7, 3) := by decide +kernel
theorem d_K_holds_8 : decode b_K_holds 8 = .ok (.iconst 1, 1) := by decide +kernel
theorem d_K_holds_9 : decode b_K_holds 9 = .ok (.goto 4, 3) := by decide +kernel
theorem d_K_holds_12 : decode b_K_holds 12 = .ok (.iconst 0, 1) := by decide +kernel
theorem d_K_holds_13 : decode b_K_holds 13 = .ok (.ireturn, 1) := by decide +kernel
def fm_K_holds (p0 : Int32) (p1 : Int32) : Option (Int32) :=
  if ((p0 >>> (p1 &&& 31)) &&& (1 : Int32)) = 0 then some (0 : Int32) else some (1 : Int32)
set_option maxHeartbeats 4000000 in
set_option maxRecDepth 100000 in
theorem cm_K_holds (l : Launch) (D : va_G) (ca : Nat → ClassId) (ad : Nat → Nat) (hs : Nat → Option Nat) {p0 : Int32} {p1 : Int32} {I0 : IS} {J0 : JS} {r : Int32} (hf : fm_K_holds p0 p1 = some r) : CtI l y_K_holds (Cond.code y_K_holds b_K_holds 2 (some .boolean) :: TB) { frames := 0, cells := 0, slots := 0, locals := 0 } [.int p0, .int p1] D cls_all (tysC ca) NN (wC ca ad hs I0 J0) (wC ca ad hs I0 J0) r := by
  refine jd_metZ (cc := b_K_holds) (by decide) rfl (Nat.le_of_ble_eq_true rfl) (lv := [(0, .int p0), (1, .int p1)]) rfl ?_
  intro p e R s m args below meth c A Q ls cx hR hK hN hD0 hA hP hS hl hend
  have hx := cx.1
  have hb := cx.2.1
  have hml := cx.2.2.1
  have hown := cx.2.2.2.1
  have hts := cx.2.2.2.2
  have hD : ∀ I J, va_D A (wC ca ad hs I J) := fun I J => jd_Dc hD0 rfl
  unfold fm_K_holds at hf
  refine lv_iload_n hx hb d_K_holds_0 rfl (lv_at hl 0 rfl) ?_
  refine lv_iload_n hx hb d_K_holds_1 rfl (lv_at hl 1 rfl) ?_
  refine lv_ishr hx hb d_K_holds_2 ?_
  refine lv_iconst (v := 1) hx hb d_K_holds_3 (by decide) ?_
  refine lv_iand hx hb d_K_holds_4 ?_
  refine lv_if_eq (tgt := 12) hx hb d_K_holds_5 rfl (fun h1 => ?_) (fun h1 => ?_)
  · have hf2 := ifp hf h1
    refine lv_iconst (v := 0) hx hb d_K_holds_12 (by decide) ?_
    cases hf2
    exact hend s.heap [] 13 ls rfl hP hS d_K_holds_13
  · have hf3 := ifn hf h1
    refine lv_iconst (v := 1) hx hb d_K_holds_8 (by decide) ?_
    refine lv_goto (tgt := 13) hx hb d_K_holds_9 rfl ?_
    cases hf3
    exact hend s.heap [] 13 ls rfl hP hS d_K_holds_13
theorem d_H_has_0 : decode b_H_has 0 = .ok (.iload_n 1, 1) := by decide +kernel
theorem d_H_has_1 : decode b_H_has 1 = .ok (.ifCond .lt 24, 3) := by decide +kernel
theorem d_H_has_4 : decode b_H_has 4 = .ok (.iload_n 1, 1) := by decide +kernel
theorem d_H_has_5 : decode b_H_has 5 = .ok (.bipush 16, 2) := by decide +kernel
theorem d_H_has_7 : decode b_H_has 7 = .ok (.if_icmp .ge 18, 3) := by decide +kernel
theorem d_H_has_10 : decode b_H_has 10 = .ok (.aload_n 0, 1) := by decide +kernel
theorem d_H_has_11 : decode b_H_has 11 = .ok (.getfield 43, 3) := by decide +kernel
theorem d_H_has_14 : decode b_H_has 14 = .ok (.iload_n 1, 1) := by decide +kernel
theorem d_H_has_15 : decode b_H_has 15 = .ok (.invokestatic 53, 3) := by decide +kernel
theorem d_H_has_18 : decode b_H_has 18 = .ok (.ifCond .eq 7, 3) := by decide +kernel
theorem d_H_has_21 : decode b_H_has 21 = .ok (.iconst 1, 1) := by decide +kernel
theorem d_H_has_22 : decode b_H_has 22 = .ok (.goto 4, 3) := by decide +kernel
theorem d_H_has_25 : decode b_H_has 25 = .ok (.iconst 0, 1) := by decide +kernel
theorem d_H_has_26 : decode b_H_has 26 = .ok (.ireturn, 1) := by decide +kernel
def fm_H_has (p0 : Int32) (I0 : IS) : Option (Int32) :=
  if p0 < 0 then some (0 : Int32) else if (16 : Int32) ≤ p0 then some (0 : Int32) else ob1 (fm_K_holds (I0 5 0) p0) (fun x7 => if x7 = 0 then some (0 : Int32) else some (1 : Int32))
set_option maxHeartbeats 4000000 in
set_option maxRecDepth 100000 in
theorem cm_H_has (l : Launch) (D : va_G) (ca : Nat → ClassId) (ad : Nat → Nat) (hs : Nat → Option Nat) {p0 : Int32} {I0 : IS} {J0 : JS} {r : Int32} (hf : fm_H_has p0 I0 = some r) : CtI l y_H_has (Cond.code y_H_has b_H_has 2 (some .boolean) :: TB) { frames := 1, cells := 0, slots := 0, locals := 21 } [.ref (ad 0), .int p0] D cls_all (tysC ca) NN (wC ca ad hs I0 J0) (wC ca ad hs I0 J0) r := by
  refine jd_metZ (cc := b_H_has) (by decide) rfl (Nat.le_of_ble_eq_true rfl) (lv := [(0, .ref (ad 0)), (1, .int p0)]) rfl ?_
  intro p e R s m args below meth c A Q ls cx hR hK hN hD0 hA hP hS hl hend
  have hx := cx.1
  have hb := cx.2.1
  have hml := cx.2.2.1
  have hown := cx.2.2.2.1
  have hts := cx.2.2.2.2
  have hD : ∀ I J, va_D A (wC ca ad hs I J) := fun I J => jd_Dc hD0 rfl
  unfold fm_H_has at hf
  refine lv_iload_n hx hb d_H_has_0 rfl (lv_at hl 1 rfl) ?_
  refine lv_if_lt (tgt := 25) hx hb d_H_has_1 rfl (fun h1 => ?_) (fun h1 => ?_)
  · have hf2 := ifp hf h1
    refine lv_iconst (v := 0) hx hb d_H_has_25 (by decide) ?_
    cases hf2
    exact hend s.heap [] 26 ls rfl hP hS d_H_has_26
  · have hf3 := ifn hf h1
    refine lv_iload_n hx hb d_H_has_4 rfl (lv_at hl 1 rfl) ?_
    refine lv_bipush (v := 16) hx hb d_H_has_5 (by decide) ?_
    refine lv_icmp_ge (tgt := 25) hx hb d_H_has_7 rfl (fun h4 => ?_) (fun h4 => ?_)
    · have hf5 := ifp hf3 h4
      refine lv_iconst (v := 0) hx hb d_H_has_25 (by decide) ?_
      cases hf5
      exact hend s.heap [] 26 ls rfl hP hS d_H_has_26
    · have hf6 := ifn hf3 h4
      refine lv_aload_n hx hb d_H_has_10 rfl (lv_at hl 0 rfl) ?_
      refine va_get (D := D) (ci := 0) (v := .int (I0 5 0)) (C := R_H) (T := F_H) (N := 9) hx hb hts (fun w h => List.mem_cons_of_mem _ (uw_H w h)) hown hK hP 0 rfl rfl 7 (by decide) (hts _ (List.mem_cons_of_mem _ tb_554)) (fun _ h => h) rfl d_H_has_11 ?_
      refine lv_iload_n hx hb d_H_has_14 rfl (lv_at hl 1 rfl) ?_
      obtain ⟨x7, hc8, hf9⟩ := ob1_ex hf6
      refine jd_ci (va_runSN (As := [.int (I0 5 0), .int p0]) (rest := []) cx (cm_K_holds l D ca ad hs hc8 s.heap.size) ⟨va_cnB 2 hts (jd_gB tb_132) rfl rfl rfl (hN _ nw_2) (hts _ (List.mem_cons_of_mem _ tb_43)) ⟨by decide, by decide, rfl⟩ (by rw [hR]; decide), hts _ (List.mem_cons_of_mem _ tb_131), trivial⟩ ⟨jd_blind nWc, (jd_pre (av := [.int (I0 5 0), .int p0]) hP hK (hD I0 J0) (fun U h => nWm h hN))⟩ rfl rfl hl.1 rfl (lv_room (Nat.le_of_ble_eq_true rfl)) d_H_has_15 ⟨Nat.zero_le _, Nat.zero_le _⟩) hS (hD I0 J0) hA (fun H10 L11 hP12 hS13 => ?_)
      refine lv_if_eq (tgt := 25) hx hb d_H_has_18 rfl (fun h14 => ?_) (fun h14 => ?_)
      · have hf15 := ifp hf9 h14
        refine lv_iconst (v := 0) hx hb d_H_has_25 (by decide) ?_
        cases hf15
        exact hend H10 L11 26 ls rfl hP12 hS13 d_H_has_26
      · have hf16 := ifn hf9 h14
        refine lv_iconst (v := 1) hx hb d_H_has_21 (by decide) ?_
        refine lv_goto (tgt := 26) hx hb d_H_has_22 rfl ?_
        cases hf16
        exact hend H10 L11 26 ls rfl hP12 hS13 d_H_has_26
theorem d_H_isAbove_0 : decode b_H_isAbove 0 = .ok (.aload_n 0, 1) := by decide +kernel
theorem d_H_isAbove_1 : decode b_H_isAbove 1 = .ok (.iload_n 1, 1) := by decide +kernel
theorem d_H_isAbove_2 : decode b_H_isAbove 2 = .ok (.invokevirtual 63, 3) := by decide +kernel
theorem d_H_isAbove_5 : decode b_H_isAbove 5 = .ok (.ifCond .eq 28, 3) := by decide +kernel
theorem d_H_isAbove_8 : decode b_H_isAbove 8 = .ok (.aload_n 0, 1) := by decide +kernel
theorem d_H_isAbove_9 : decode b_H_isAbove 9 = .ok (.iload_n 2, 1) := by decide +kernel
theorem d_H_isAbove_10 : decode b_H_isAbove 10 = .ok (.invokevirtual 63, 3) := by decide +kernel
theorem d_H_isAbove_13 : decode b_H_isAbove 13 = .ok (.ifCond .eq 20, 3) := by decide +kernel
theorem d_H_isAbove_16 : decode b_H_isAbove 16 = .ok (.aload_n 0, 1) := by decide +kernel
theorem d_H_isAbove_17 : decode b_H_isAbove 17 = .ok (.getfield 22, 3) := by decide +kernel
theorem d_H_isAbove_20 : decode b_H_isAbove 20 = .ok (.iload_n 1, 1) := by decide +kernel
theorem d_H_isAbove_21 : decode b_H_isAbove 21 = .ok (.iaload, 1) := by decide +kernel
theorem d_H_isAbove_22 : decode b_H_isAbove 22 = .ok (.iload_n 2, 1) := by decide +kernel
theorem d_H_isAbove_23 : decode b_H_isAbove 23 = .ok (.invokestatic 53, 3) := by decide +kernel
theorem d_H_isAbove_26 : decode b_H_isAbove 26 = .ok (.ifCond .eq 7, 3) := by decide +kernel
theorem d_H_isAbove_29 : decode b_H_isAbove 29 = .ok (.iconst 1, 1) := by decide +kernel
theorem d_H_isAbove_30 : decode b_H_isAbove 30 = .ok (.goto 4, 3) := by decide +kernel
theorem d_H_isAbove_33 : decode b_H_isAbove 33 = .ok (.iconst 0, 1) := by decide +kernel
theorem d_H_isAbove_34 : decode b_H_isAbove 34 = .ok (.ireturn, 1) := by decide +kernel
def fm_H_isAbove (p0 : Int32) (p1 : Int32) (I0 : IS) : Option (Int32) :=
  ob1 (fm_H_has p0 I0) (fun x1 => if x1 = 0 then some (0 : Int32) else ob1 (fm_H_has p1 I0) (fun x11 => if x11 = 0 then some (0 : Int32) else grd (inB p0 16) (ob1 (fm_K_holds (I0 3 p0.toNatClampNeg) p1) (fun x23 => if x23 = 0 then some (0 : Int32) else some (1 : Int32)))))
set_option maxHeartbeats 4000000 in
set_option maxRecDepth 100000 in
theorem cm_H_isAbove (l : Launch) (D : va_G) (ca : Nat → ClassId) (ad : Nat → Nat) (hs : Nat → Option Nat) {p0 : Int32} {p1 : Int32} {I0 : IS} {J0 : JS} {r : Int32} (hf : fm_H_isAbove p0 p1 I0 = some r) : CtI l y_H_isAbove (Cond.code y_H_isAbove b_H_isAbove 3 (some .boolean) :: TB) { frames := 2, cells := 0, slots := 0, locals := 42 } [.ref (ad 0), .int p0, .int p1] D cls_all (tysC ca) NN (wC ca ad hs I0 J0) (wC ca ad hs I0 J0) r := by
  refine jd_metZ (cc := b_H_isAbove) (by decide) rfl (Nat.le_of_ble_eq_true rfl) (lv := [(0, .ref (ad 0)), (1, .int p0), (2, .int p1)]) rfl ?_
  intro p e R s m args below meth c A Q ls cx hR hK hN hD0 hA hP hS hl hend
  have hx := cx.1
  have hb := cx.2.1
  have hml := cx.2.2.1
  have hown := cx.2.2.2.1
  have hts := cx.2.2.2.2
  have hD : ∀ I J, va_D A (wC ca ad hs I J) := fun I J => jd_Dc hD0 rfl
  unfold fm_H_isAbove at hf
  refine lv_aload_n hx hb d_H_isAbove_0 rfl (lv_at hl 0 rfl) ?_
  refine lv_iload_n hx hb d_H_isAbove_1 rfl (lv_at hl 1 rfl) ?_
  obtain ⟨x1, hc2, hf3⟩ := ob1_ex hf
  refine jd_ci (va_runV (As := [.int p0]) (rest := []) cx (cm_H_has l D ca ad hs hc2 s.heap.size) (cwV 1 hts (jd_gV tb_137 tb_128 tb_129 tb_52 tb_130) rfl rfl rfl ⟨rfl, by decide, by decide, rfl⟩ (by rw [hR]; decide)) ⟨jd_blind nWc, (va_recv hK hP (ci := 0) (q0 := 0) rfl rfl), (jd_pre (av := [.ref (ad 0), .int p0]) hP hK (hD I0 J0) (fun U h => nWm h hN))⟩ rfl rfl hl.1 rfl (lv_room (Nat.le_of_ble_eq_true rfl)) d_H_isAbove_2 ⟨Nat.zero_le _, Nat.zero_le _⟩) hS (hD I0 J0) hA (fun H4 L5 hP6 hS7 => ?_)
  refine lv_if_eq (tgt := 33) hx hb d_H_isAbove_5 rfl (fun h8 => ?_) (fun h8 => ?_)
  · have hf9 := ifp hf3 h8
    refine lv_iconst (v := 0) hx hb d_H_isAbove_33 (by decide) ?_
    cases hf9
    exact hend H4 L5 34 ls rfl hP6 hS7 d_H_isAbove_34
  · have hf10 := ifn hf3 h8
    refine lv_aload_n hx hb d_H_isAbove_8 rfl (lv_at hl 0 rfl) ?_
    refine lv_iload_n hx hb d_H_isAbove_9 rfl (lv_at hl 2 rfl) ?_
    obtain ⟨x11, hc12, hf13⟩ := ob1_ex hf10
    refine jd_ci (va_runV (As := [.int p1]) (rest := []) cx (cm_H_has l D ca ad hs hc12 H4.size) (cwV 1 hts (jd_gV tb_137 tb_128 tb_129 tb_52 tb_130) rfl rfl rfl ⟨rfl, by decide, by decide, rfl⟩ (by rw [hR]; decide)) ⟨jd_blind nWc, (va_recv hK hP6 (ci := 0) (q0 := 0) rfl rfl), (jd_pre (av := [.ref (ad 0), .int p1]) hP6 hK (hD I0 J0) (fun U h => nWm h hN))⟩ rfl rfl hl.1 rfl (lv_room (Nat.le_of_ble_eq_true rfl)) d_H_isAbove_10 ⟨Nat.zero_le _, Nat.zero_le _⟩) hS7 (hD I0 J0) hA (fun H14 L15 hP16 hS17 => ?_)
    refine lv_if_eq (tgt := 33) hx hb d_H_isAbove_13 rfl (fun h18 => ?_) (fun h18 => ?_)
    · have hf19 := ifp hf13 h18
      refine lv_iconst (v := 0) hx hb d_H_isAbove_33 (by decide) ?_
      cases hf19
      exact hend H14 L15 34 ls rfl hP16 hS17 d_H_isAbove_34
    · have hf20 := ifn hf13 h18
      refine lv_aload_n hx hb d_H_isAbove_16 rfl (lv_at hl 0 rfl) ?_
      refine va_get (D := D) (ci := 0) (v := .ref (ad 4)) (C := R_H) (T := F_H) (N := 9) hx hb hts (fun w h => List.mem_cons_of_mem _ (uw_H w h)) hown hK hP16 0 rfl rfl 3 (by decide) (hts _ (List.mem_cons_of_mem _ tb_541)) (fun _ h => h) rfl d_H_isAbove_17 ?_
      refine lv_iload_n hx hb d_H_isAbove_20 rfl (lv_at hl 1 rfl) ?_
      obtain ⟨hg21, hf22⟩ := grd_ex hf20
      refine va_iald hx hb hK hP16 4 2 rfl rfl (inB_in hg21) d_H_isAbove_21 ?_
      refine lv_iload_n hx hb d_H_isAbove_22 rfl (lv_at hl 2 rfl) ?_
      obtain ⟨x23, hc24, hf25⟩ := ob1_ex hf22
      refine jd_ci (va_runSN (As := [.int (I0 3 p0.toNatClampNeg), .int p1]) (rest := []) cx (cm_K_holds l D ca ad hs hc24 H14.size) ⟨va_cnB 2 hts (jd_gB tb_132) rfl rfl rfl (hN _ nw_2) (hts _ (List.mem_cons_of_mem _ tb_43)) ⟨by decide, by decide, rfl⟩ (by rw [hR]; decide), hts _ (List.mem_cons_of_mem _ tb_131), trivial⟩ ⟨jd_blind nWc, (jd_pre (av := [.int (I0 3 p0.toNatClampNeg), .int p1]) hP16 hK (hD I0 J0) (fun U h => nWm h hN))⟩ rfl rfl hl.1 rfl (lv_room (Nat.le_of_ble_eq_true rfl)) d_H_isAbove_23 ⟨Nat.zero_le _, Nat.zero_le _⟩) hS17 (hD I0 J0) hA (fun H26 L27 hP28 hS29 => ?_)
      refine lv_if_eq (tgt := 33) hx hb d_H_isAbove_26 rfl (fun h30 => ?_) (fun h30 => ?_)
      · have hf31 := ifp hf25 h30
        refine lv_iconst (v := 0) hx hb d_H_isAbove_33 (by decide) ?_
        cases hf31
        exact hend H26 L27 34 ls rfl hP28 hS29 d_H_isAbove_34
      · have hf32 := ifn hf25 h30
        refine lv_iconst (v := 1) hx hb d_H_isAbove_29 (by decide) ?_
        refine lv_goto (tgt := 34) hx hb d_H_isAbove_30 rfl ?_
        cases hf32
        exact hend H26 L27 34 ls rfl hP28 hS29 d_H_isAbove_34
theorem d_H_inForce_0 : decode b_H_inForce 0 = .ok (.aload_n 0, 1) := by decide +kernel
theorem d_H_inForce_1 : decode b_H_inForce 1 = .ok (.getfield 18, 3) := by decide +kernel
theorem d_H_inForce_4 : decode b_H_inForce 4 = .ok (.iload_n 1, 1) := by decide +kernel
theorem d_H_inForce_5 : decode b_H_inForce 5 = .ok (.baload, 1) := by decide +kernel
theorem d_H_inForce_6 : decode b_H_inForce 6 = .ok (.ifCond .ne 39, 3) := by decide +kernel
theorem d_H_inForce_9 : decode b_H_inForce 9 = .ok (.aload_n 0, 1) := by decide +kernel
theorem d_H_inForce_10 : decode b_H_inForce 10 = .ok (.getfield 43, 3) := by decide +kernel
theorem d_H_inForce_13 : decode b_H_inForce 13 = .ok (.aload_n 0, 1) := by decide +kernel
theorem d_H_inForce_14 : decode b_H_inForce 14 = .ok (.getfield 9, 3) := by decide +kernel
theorem d_H_inForce_17 : decode b_H_inForce 17 = .ok (.iload_n 1, 1) := by decide +kernel
theorem d_H_inForce_18 : decode b_H_inForce 18 = .ok (.baload, 1) := by decide +kernel
theorem d_H_inForce_19 : decode b_H_inForce 19 = .ok (.invokestatic 53, 3) := by decide +kernel
theorem d_H_inForce_22 : decode b_H_inForce 22 = .ok (.ifCond .eq 23, 3) := by decide +kernel
theorem d_H_inForce_25 : decode b_H_inForce 25 = .ok (.aload_n 0, 1) := by decide +kernel
theorem d_H_inForce_26 : decode b_H_inForce 26 = .ok (.getfield 43, 3) := by decide +kernel
theorem d_H_inForce_29 : decode b_H_inForce 29 = .ok (.aload_n 0, 1) := by decide +kernel
theorem d_H_inForce_30 : decode b_H_inForce 30 = .ok (.getfield 15, 3) := by decide +kernel
theorem d_H_inForce_33 : decode b_H_inForce 33 = .ok (.iload_n 1, 1) := by decide +kernel
theorem d_H_inForce_34 : decode b_H_inForce 34 = .ok (.baload, 1) := by decide +kernel
theorem d_H_inForce_35 : decode b_H_inForce 35 = .ok (.invokestatic 53, 3) := by decide +kernel
theorem d_H_inForce_38 : decode b_H_inForce 38 = .ok (.ifCond .eq 7, 3) := by decide +kernel
theorem d_H_inForce_41 : decode b_H_inForce 41 = .ok (.iconst 1, 1) := by decide +kernel
theorem d_H_inForce_42 : decode b_H_inForce 42 = .ok (.goto 4, 3) := by decide +kernel
theorem d_H_inForce_45 : decode b_H_inForce 45 = .ok (.iconst 0, 1) := by decide +kernel
theorem d_H_inForce_46 : decode b_H_inForce 46 = .ok (.ireturn, 1) := by decide +kernel
def fm_H_inForce (p0 : Int32) (I0 : IS) : Option (Int32) :=
  grd (inB p0 400) (if (I0 2 p0.toNatClampNeg) = 0 then grd (inB p0 400) (ob1 (fm_K_holds (I0 5 0) (I0 0 p0.toNatClampNeg)) (fun x8 => if x8 = 0 then some (0 : Int32) else grd (inB p0 400) (ob1 (fm_K_holds (I0 5 0) (I0 1 p0.toNatClampNeg)) (fun x20 => if x20 = 0 then some (0 : Int32) else some (1 : Int32))))) else some (0 : Int32))
set_option maxHeartbeats 4000000 in
set_option maxRecDepth 100000 in
theorem cm_H_inForce (l : Launch) (D : va_G) (ca : Nat → ClassId) (ad : Nat → Nat) (hs : Nat → Option Nat) {p0 : Int32} {I0 : IS} {J0 : JS} {r : Int32} (hf : fm_H_inForce p0 I0 = some r) : CtI l y_H_inForce (Cond.code y_H_inForce b_H_inForce 2 (some .boolean) :: TB) { frames := 1, cells := 0, slots := 0, locals := 21 } [.ref (ad 0), .int p0] D cls_all (tysC ca) NN (wC ca ad hs I0 J0) (wC ca ad hs I0 J0) r := by
  refine jd_metZ (cc := b_H_inForce) (by decide) rfl (Nat.le_of_ble_eq_true rfl) (lv := [(0, .ref (ad 0)), (1, .int p0)]) rfl ?_
  intro p e R s m args below meth c A Q ls cx hR hK hN hD0 hA hP hS hl hend
  have hx := cx.1
  have hb := cx.2.1
  have hml := cx.2.2.1
  have hown := cx.2.2.2.1
  have hts := cx.2.2.2.2
  have hD : ∀ I J, va_D A (wC ca ad hs I J) := fun I J => jd_Dc hD0 rfl
  unfold fm_H_inForce at hf
  refine lv_aload_n hx hb d_H_inForce_0 rfl (lv_at hl 0 rfl) ?_
  refine va_get (D := D) (ci := 0) (v := .ref (ad 3)) (C := R_H) (T := F_H) (N := 9) hx hb hts (fun w h => List.mem_cons_of_mem _ (uw_H w h)) hown hK hP 0 rfl rfl 2 (by decide) (hts _ (List.mem_cons_of_mem _ tb_539)) (fun _ h => h) rfl d_H_inForce_1 ?_
  refine lv_iload_n hx hb d_H_inForce_4 rfl (lv_at hl 1 rfl) ?_
  obtain ⟨hg1, hf2⟩ := grd_ex hf
  refine va_zald hx hb hK hP 3 1 rfl rfl (inB_in hg1) d_H_inForce_5 ?_
  refine lv_if_ne (tgt := 45) hx hb d_H_inForce_6 rfl (fun h3 => ?_) (fun h3 => ?_)
  · have hf4 := ifn hf2 h3
    refine lv_iconst (v := 0) hx hb d_H_inForce_45 (by decide) ?_
    cases hf4
    exact hend s.heap [] 46 ls rfl hP hS d_H_inForce_46
  · have hf5 := ifp hf2 h3
    refine lv_aload_n hx hb d_H_inForce_9 rfl (lv_at hl 0 rfl) ?_
    refine va_get (D := D) (ci := 0) (v := .int (I0 5 0)) (C := R_H) (T := F_H) (N := 9) hx hb hts (fun w h => List.mem_cons_of_mem _ (uw_H w h)) hown hK hP 0 rfl rfl 7 (by decide) (hts _ (List.mem_cons_of_mem _ tb_554)) (fun _ h => h) rfl d_H_inForce_10 ?_
    refine lv_aload_n hx hb d_H_inForce_13 rfl (lv_at hl 0 rfl) ?_
    refine va_get (D := D) (ci := 0) (v := .ref (ad 1)) (C := R_H) (T := F_H) (N := 9) hx hb hts (fun w h => List.mem_cons_of_mem _ (uw_H w h)) hown hK hP 0 rfl rfl 0 (by decide) (hts _ (List.mem_cons_of_mem _ tb_535)) (fun _ h => h) rfl d_H_inForce_14 ?_
    refine lv_iload_n hx hb d_H_inForce_17 rfl (lv_at hl 1 rfl) ?_
    obtain ⟨hg6, hf7⟩ := grd_ex hf5
    refine va_bald hx hb hK hP 1 0 rfl rfl (inB_in hg6) d_H_inForce_18 ?_
    obtain ⟨x8, hc9, hf10⟩ := ob1_ex hf7
    refine jd_ci (va_runSN (As := [.int (I0 5 0), .int (I0 0 p0.toNatClampNeg)]) (rest := []) cx (cm_K_holds l D ca ad hs hc9 s.heap.size) ⟨va_cnB 2 hts (jd_gB tb_132) rfl rfl rfl (hN _ nw_2) (hts _ (List.mem_cons_of_mem _ tb_43)) ⟨by decide, by decide, rfl⟩ (by rw [hR]; decide), hts _ (List.mem_cons_of_mem _ tb_131), trivial⟩ ⟨jd_blind nWc, (jd_pre (av := [.int (I0 5 0), .int (I0 0 p0.toNatClampNeg)]) hP hK (hD I0 J0) (fun U h => nWm h hN))⟩ rfl rfl hl.1 rfl (lv_room (Nat.le_of_ble_eq_true rfl)) d_H_inForce_19 ⟨Nat.zero_le _, Nat.zero_le _⟩) hS (hD I0 J0) hA (fun H11 L12 hP13 hS14 => ?_)
    refine lv_if_eq (tgt := 45) hx hb d_H_inForce_22 rfl (fun h15 => ?_) (fun h15 => ?_)
    · have hf16 := ifp hf10 h15
      refine lv_iconst (v := 0) hx hb d_H_inForce_45 (by decide) ?_
      cases hf16
      exact hend H11 L12 46 ls rfl hP13 hS14 d_H_inForce_46
    · have hf17 := ifn hf10 h15
      refine lv_aload_n hx hb d_H_inForce_25 rfl (lv_at hl 0 rfl) ?_
      refine va_get (D := D) (ci := 0) (v := .int (I0 5 0)) (C := R_H) (T := F_H) (N := 9) hx hb hts (fun w h => List.mem_cons_of_mem _ (uw_H w h)) hown hK hP13 0 rfl rfl 7 (by decide) (hts _ (List.mem_cons_of_mem _ tb_554)) (fun _ h => h) rfl d_H_inForce_26 ?_
      refine lv_aload_n hx hb d_H_inForce_29 rfl (lv_at hl 0 rfl) ?_
      refine va_get (D := D) (ci := 0) (v := .ref (ad 2)) (C := R_H) (T := F_H) (N := 9) hx hb hts (fun w h => List.mem_cons_of_mem _ (uw_H w h)) hown hK hP13 0 rfl rfl 1 (by decide) (hts _ (List.mem_cons_of_mem _ tb_537)) (fun _ h => h) rfl d_H_inForce_30 ?_
      refine lv_iload_n hx hb d_H_inForce_33 rfl (lv_at hl 1 rfl) ?_
      obtain ⟨hg18, hf19⟩ := grd_ex hf17
      refine va_bald hx hb hK hP13 2 0 rfl rfl (inB_in hg18) d_H_inForce_34 ?_
      obtain ⟨x20, hc21, hf22⟩ := ob1_ex hf19
      refine jd_ci (va_runSN (As := [.int (I0 5 0), .int (I0 1 p0.toNatClampNeg)]) (rest := []) cx (cm_K_holds l D ca ad hs hc21 H11.size) ⟨va_cnB 2 hts (jd_gB tb_132) rfl rfl rfl (hN _ nw_2) (hts _ (List.mem_cons_of_mem _ tb_43)) ⟨by decide, by decide, rfl⟩ (by rw [hR]; decide), hts _ (List.mem_cons_of_mem _ tb_131), trivial⟩ ⟨jd_blind nWc, (jd_pre (av := [.int (I0 5 0), .int (I0 1 p0.toNatClampNeg)]) hP13 hK (hD I0 J0) (fun U h => nWm h hN))⟩ rfl rfl hl.1 rfl (lv_room (Nat.le_of_ble_eq_true rfl)) d_H_inForce_35 ⟨Nat.zero_le _, Nat.zero_le _⟩) hS14 (hD I0 J0) hA (fun H23 L24 hP25 hS26 => ?_)
      refine lv_if_eq (tgt := 45) hx hb d_H_inForce_38 rfl (fun h27 => ?_) (fun h27 => ?_)
      · have hf28 := ifp hf22 h27
        refine lv_iconst (v := 0) hx hb d_H_inForce_45 (by decide) ?_
        cases hf28
        exact hend H23 L24 46 ls rfl hP25 hS26 d_H_inForce_46
      · have hf29 := ifn hf22 h27
        refine lv_iconst (v := 1) hx hb d_H_inForce_41 (by decide) ?_
        refine lv_goto (tgt := 46) hx hb d_H_inForce_42 rfl ?_
        cases hf29
        exact hend H23 L24 46 ls rfl hP25 hS26 d_H_inForce_46
theorem d_H_leadOn_0 : decode b_H_leadOn 0 = .ok (.iconst 0, 1) := by decide +kernel
theorem d_H_leadOn_1 : decode b_H_leadOn 1 = .ok (.istore_n 1, 1) := by decide +kernel
theorem d_H_leadOn_2 : decode b_H_leadOn 2 = .ok (.iload_n 1, 1) := by decide +kernel
theorem d_H_leadOn_3 : decode b_H_leadOn 3 = .ok (.bipush 16, 2) := by decide +kernel
theorem d_H_leadOn_5 : decode b_H_leadOn 5 = .ok (.if_icmp .ge 51, 3) := by decide +kernel
theorem d_H_leadOn_8 : decode b_H_leadOn 8 = .ok (.iconst 0, 1) := by decide +kernel
theorem d_H_leadOn_9 : decode b_H_leadOn 9 = .ok (.istore_n 2, 1) := by decide +kernel
theorem d_H_leadOn_10 : decode b_H_leadOn 10 = .ok (.iload_n 2, 1) := by decide +kernel
theorem d_H_leadOn_11 : decode b_H_leadOn 11 = .ok (.bipush 16, 2) := by decide +kernel
theorem d_H_leadOn_13 : decode b_H_leadOn 13 = .ok (.if_icmp .ge 37, 3) := by decide +kernel
theorem d_H_leadOn_16 : decode b_H_leadOn 16 = .ok (.aload_n 0, 1) := by decide +kernel
theorem d_H_leadOn_17 : decode b_H_leadOn 17 = .ok (.getfield 22, 3) := by decide +kernel
theorem d_H_leadOn_20 : decode b_H_leadOn 20 = .ok (.iload_n 2, 1) := by decide +kernel
theorem d_H_leadOn_21 : decode b_H_leadOn 21 = .ok (.iaload, 1) := by decide +kernel
theorem d_H_leadOn_22 : decode b_H_leadOn 22 = .ok (.iload_n 1, 1) := by decide +kernel
theorem d_H_leadOn_23 : decode b_H_leadOn 23 = .ok (.invokestatic 53, 3) := by decide +kernel
theorem d_H_leadOn_26 : decode b_H_leadOn 26 = .ok (.ifCond .eq 18, 3) := by decide +kernel
theorem d_H_leadOn_29 : decode b_H_leadOn 29 = .ok (.aload_n 0, 1) := by decide +kernel
theorem d_H_leadOn_30 : decode b_H_leadOn 30 = .ok (.getfield 22, 3) := by decide +kernel
theorem d_H_leadOn_33 : decode b_H_leadOn 33 = .ok (.iload_n 2, 1) := by decide +kernel
theorem d_H_leadOn_34 : decode b_H_leadOn 34 = .ok (.dup2, 1) := by decide +kernel
theorem d_H_leadOn_35 : decode b_H_leadOn 35 = .ok (.iaload, 1) := by decide +kernel
theorem d_H_leadOn_36 : decode b_H_leadOn 36 = .ok (.aload_n 0, 1) := by decide +kernel
theorem d_H_leadOn_37 : decode b_H_leadOn 37 = .ok (.getfield 22, 3) := by decide +kernel
theorem d_H_leadOn_40 : decode b_H_leadOn 40 = .ok (.iload_n 1, 1) := by decide +kernel
theorem d_H_leadOn_41 : decode b_H_leadOn 41 = .ok (.iaload, 1) := by decide +kernel
theorem d_H_leadOn_42 : decode b_H_leadOn 42 = .ok (.ior, 1) := by decide +kernel
theorem d_H_leadOn_43 : decode b_H_leadOn 43 = .ok (.iastore, 1) := by decide +kernel
theorem d_H_leadOn_44 : decode b_H_leadOn 44 = .ok (.iinc 2 1, 3) := by decide +kernel
theorem d_H_leadOn_47 : decode b_H_leadOn 47 = .ok (.goto (-37), 3) := by decide +kernel
theorem d_H_leadOn_50 : decode b_H_leadOn 50 = .ok (.iinc 1 1, 3) := by decide +kernel
theorem d_H_leadOn_53 : decode b_H_leadOn 53 = .ok (.goto (-51), 3) := by decide +kernel
theorem d_H_leadOn_56 : decode b_H_leadOn 56 = .ok (.return_, 1) := by decide +kernel
def fm_H_leadOn_B10 (x5 : Int32) (x23 : Int32) (I24 : IS) : Option (Nat × Int32 × IS) :=
  if (16 : Int32) ≤ x23 then some (1, x23, I24) else grd (inB x23 16) (ob1 (fm_K_holds (I24 3 x23.toNatClampNeg) x5) (fun x39 => if x39 = 0 then bnd (x23 + (1 : Int32)) (fun x49 => some (0, x49, I24)) else grd (inB x23 16) (grd (inB x5 16) (grd (inB x23 16) (bnd (sI I24 3 x23.toNatClampNeg ((I24 3 x23.toNatClampNeg) ||| (I24 3 x5.toNatClampNeg))) (fun I60 => bnd (x23 + (1 : Int32)) (fun x68 => some (0, x68, I60))))))))
def fm_H_leadOn_B2  (x5 : Int32) (I6 : IS) : Option (Nat × Int32 × IS) :=
  if (16 : Int32) ≤ x5 then some (1, x5, I6) else ob3 (iter (fun z : Int32 × IS => fm_H_leadOn_B10 x5 z.1 z.2) FU ((0 : Int32), I6)) (fun _ x74 I75 => bnd (x5 + (1 : Int32)) (fun x84 => some (0, x84, I75)))
def fm_H_leadOn (I0 : IS) : Option (IS) :=
  ob3 (iter (fun z : Int32 × IS => fm_H_leadOn_B2 z.1 z.2) FU ((0 : Int32), I0)) (fun _ x90 I91 => some I91)
set_option maxHeartbeats 4000000 in
set_option maxRecDepth 100000 in
theorem cm_H_leadOn (l : Launch) (D : va_G) (ca : Nat → ClassId) (ad : Nat → Nat) (hs : Nat → Option Nat) {I0 : IS} {J0 : JS} {r : IS} (hf : fm_H_leadOn I0 = some r) : CtV l y_H_leadOn (Cond.code y_H_leadOn b_H_leadOn 3 none :: TB) { frames := 1, cells := 0, slots := 0, locals := 21 } [.ref (ad 0)] D cls_all (tysC ca) NN (wC ca ad hs I0 J0) (wC ca ad hs r J0) := by
  refine jd_metV (cc := b_H_leadOn) (by decide) rfl (Nat.le_of_ble_eq_true rfl) (lv := [(0, .ref (ad 0))]) rfl ?_
  intro p e R s m args below meth c A Q ls cx hR hK hN hD0 hA hP hS hl hend
  have hx := cx.1
  have hb := cx.2.1
  have hml := cx.2.2.1
  have hown := cx.2.2.2.1
  have hts := cx.2.2.2.2
  have hD : ∀ I J, va_D A (wC ca ad hs I J) := fun I J => jd_Dc hD0 rfl
  unfold fm_H_leadOn at hf
  refine lv_iconst (v := 0) hx hb d_H_leadOn_0 (by decide) ?_
  refine lv_istore_n hx hb d_H_leadOn_1 rfl hl (by decide) (lv' := [(1, .int (0 : Int32)), (0, .ref (ad 0))]) rfl (fun ls1 hl2 => ?_)
  obtain ⟨tg89, x90, I91, ho92, hf93⟩ := ob3_ex hf
  have kx2_1 : ∀ (H94 : Heap) (L95 : List Loc) (ls96 : Array Slot), va_P D cls_all (wC ca ad hs I91 J0) H94 → va_S A s.heap H94 L95 → lv_has ls96 3 [] → W p l e R s m args below meth c H94 L95 0 0 Q (F0 m 56 ls96 []) := by
    intro H94 L95 ls96 hP97 hS98 hl99
    cases hf93
    exact hend H94 L95 56 ls96 hP97 hS98 d_H_leadOn_56
  refine iter_ind (C := fun z : Int32 × IS => ∀ (H7 : Heap) (L8 : List Loc) (ls9 : Array Slot), va_P D cls_all (wC ca ad hs z.2 J0) H7 → va_S A s.heap H7 L8 → lv_has ls9 3 [(0, .ref (ad 0)), (1, .int z.1)] → W p l e R s m args below meth c H7 L8 0 0 Q (F0 m 2 ls9 [])) (fun z o hz14 hc3 he4 => ?_) _ _ ho92 s.heap [] ls1 hP hS (lv_sub hl2 [1, 0] rfl)
  obtain ⟨x5, I6⟩ := z
  intro H7 L8 ls9 hP10 hS11 hl12
  have hf13 : fm_H_leadOn_B2 x5 I6 = some o := hz14
  unfold fm_H_leadOn_B2 at hf13
  refine lv_iload_n hx hb d_H_leadOn_2 rfl (lv_at hl12 1 rfl) ?_
  refine lv_bipush (v := 16) hx hb d_H_leadOn_3 (by decide) ?_
  refine lv_icmp_ge (tgt := 56) hx hb d_H_leadOn_5 rfl (fun h15 => ?_) (fun h15 => ?_)
  · have hf16 := ifp hf13 h15
    cases hf16
    have e18 := he4 (by show (1 : Nat) ≠ 0; decide)
    cases e18
    exact kx2_1 H7 L8 ls9 hP10 hS11 (lv_sub hl12 [] rfl)
  · have hf17 := ifn hf13 h15
    refine lv_iconst (v := 0) hx hb d_H_leadOn_8 (by decide) ?_
    refine lv_istore_n hx hb d_H_leadOn_9 rfl hl12 (by decide) (lv' := [(2, .int (0 : Int32)), (0, .ref (ad 0)), (1, .int x5)]) rfl (fun ls19 hl20 => ?_)
    obtain ⟨tg73, x74, I75, ho76, hf77⟩ := ob3_ex hf17
    have kx10_1 : ∀ (H78 : Heap) (L79 : List Loc) (ls80 : Array Slot), va_P D cls_all (wC ca ad hs I75 J0) H78 → va_S A s.heap H78 L79 → lv_has ls80 3 [(0, .ref (ad 0)), (1, .int x5)] → W p l e R s m args below meth c H78 L79 0 0 Q (F0 m 50 ls80 []) := by
      intro H78 L79 ls80 hP81 hS82 hl83
      obtain ⟨x84, e85, hf86⟩ := bnd_ex hf77
      refine lv_iinc hx hb d_H_leadOn_50 hl83 (k := 1) rfl (v := x84) (by rw [e85]; rfl) (by decide) (lv' := [(1, .int x84), (0, .ref (ad 0))]) rfl (fun ls87 hl88 => ?_)
      refine lv_goto (tgt := 2) hx hb d_H_leadOn_53 rfl ?_
      cases hf86
      exact hc3 rfl H78 L79 ls87 hP81 hS82 (lv_sub hl88 [1, 0] rfl)
    refine iter_ind (C := fun z : Int32 × IS => ∀ (H25 : Heap) (L26 : List Loc) (ls27 : Array Slot), va_P D cls_all (wC ca ad hs z.2 J0) H25 → va_S A s.heap H25 L26 → lv_has ls27 3 [(0, .ref (ad 0)), (1, .int x5), (2, .int z.1)] → W p l e R s m args below meth c H25 L26 0 0 Q (F0 m 10 ls27 [])) (fun z o hz32 hc21 he22 => ?_) _ _ ho76 H7 L8 ls19 hP10 hS11 (lv_sub hl20 [1, 2, 0] rfl)
    obtain ⟨x23, I24⟩ := z
    intro H25 L26 ls27 hP28 hS29 hl30
    have hf31 : fm_H_leadOn_B10 x5 x23 I24 = some o := hz32
    unfold fm_H_leadOn_B10 at hf31
    refine lv_iload_n hx hb d_H_leadOn_10 rfl (lv_at hl30 2 rfl) ?_
    refine lv_bipush (v := 16) hx hb d_H_leadOn_11 (by decide) ?_
    refine lv_icmp_ge (tgt := 50) hx hb d_H_leadOn_13 rfl (fun h33 => ?_) (fun h33 => ?_)
    · have hf34 := ifp hf31 h33
      cases hf34
      have e36 := he22 (by show (1 : Nat) ≠ 0; decide)
      cases e36
      exact kx10_1 H25 L26 ls27 hP28 hS29 (lv_sub hl30 [0, 1] rfl)
    · have hf35 := ifn hf31 h33
      refine lv_aload_n hx hb d_H_leadOn_16 rfl (lv_at hl30 0 rfl) ?_
      refine va_get (D := D) (ci := 0) (v := .ref (ad 4)) (C := R_H) (T := F_H) (N := 9) hx hb hts (fun w h => List.mem_cons_of_mem _ (uw_H w h)) hown hK hP28 0 rfl rfl 3 (by decide) (hts _ (List.mem_cons_of_mem _ tb_541)) (fun _ h => h) rfl d_H_leadOn_17 ?_
      refine lv_iload_n hx hb d_H_leadOn_20 rfl (lv_at hl30 2 rfl) ?_
      obtain ⟨hg37, hf38⟩ := grd_ex hf35
      refine va_iald hx hb hK hP28 4 2 rfl rfl (inB_in hg37) d_H_leadOn_21 ?_
      refine lv_iload_n hx hb d_H_leadOn_22 rfl (lv_at hl30 1 rfl) ?_
      obtain ⟨x39, hc40, hf41⟩ := ob1_ex hf38
      refine jd_ci (va_runSN (As := [.int (I24 3 x23.toNatClampNeg), .int x5]) (rest := []) cx (cm_K_holds l D ca ad hs hc40 H25.size) ⟨va_cnB 2 hts (jd_gB tb_132) rfl rfl rfl (hN _ nw_2) (hts _ (List.mem_cons_of_mem _ tb_43)) ⟨by decide, by decide, rfl⟩ (by rw [hR]; decide), hts _ (List.mem_cons_of_mem _ tb_131), trivial⟩ ⟨jd_blind nWc, (jd_pre (av := [.int (I24 3 x23.toNatClampNeg), .int x5]) hP28 hK (hD I24 J0) (fun U h => nWm h hN))⟩ rfl rfl hl30.1 rfl (lv_room (Nat.le_of_ble_eq_true rfl)) d_H_leadOn_23 ⟨Nat.zero_le _, Nat.zero_le _⟩) hS29 (hD I24 J0) hA (fun H42 L43 hP44 hS45 => ?_)
      refine lv_if_eq (tgt := 44) hx hb d_H_leadOn_26 rfl (fun h46 => ?_) (fun h46 => ?_)
      · have hf47 := ifp hf41 h46
        obtain ⟨x49, e50, hf51⟩ := bnd_ex hf47
        refine lv_iinc hx hb d_H_leadOn_44 hl30 (k := 2) rfl (v := x49) (by rw [e50]; rfl) (by decide) (lv' := [(2, .int x49), (0, .ref (ad 0)), (1, .int x5)]) rfl (fun ls52 hl53 => ?_)
        refine lv_goto (tgt := 10) hx hb d_H_leadOn_47 rfl ?_
        cases hf51
        exact hc21 rfl H42 L43 ls52 hP44 hS45 (lv_sub hl53 [1, 2, 0] rfl)
      · have hf48 := ifn hf41 h46
        refine lv_aload_n hx hb d_H_leadOn_29 rfl (lv_at hl30 0 rfl) ?_
        refine va_get (D := D) (ci := 0) (v := .ref (ad 4)) (C := R_H) (T := F_H) (N := 9) hx hb hts (fun w h => List.mem_cons_of_mem _ (uw_H w h)) hown hK hP44 0 rfl rfl 3 (by decide) (hts _ (List.mem_cons_of_mem _ tb_541)) (fun _ h => h) rfl d_H_leadOn_30 ?_
        refine lv_iload_n hx hb d_H_leadOn_33 rfl (lv_at hl30 2 rfl) ?_
        refine lv_dup2_11 hx hb d_H_leadOn_34 rfl rfl ?_
        obtain ⟨hg54, hf55⟩ := grd_ex hf48
        refine va_iald hx hb hK hP44 4 2 rfl rfl (inB_in hg54) d_H_leadOn_35 ?_
        refine lv_aload_n hx hb d_H_leadOn_36 rfl (lv_at hl30 0 rfl) ?_
        refine va_get (D := D) (ci := 0) (v := .ref (ad 4)) (C := R_H) (T := F_H) (N := 9) hx hb hts (fun w h => List.mem_cons_of_mem _ (uw_H w h)) hown hK hP44 0 rfl rfl 3 (by decide) (hts _ (List.mem_cons_of_mem _ tb_541)) (fun _ h => h) rfl d_H_leadOn_37 ?_
        refine lv_iload_n hx hb d_H_leadOn_40 rfl (lv_at hl30 1 rfl) ?_
        obtain ⟨hg56, hf57⟩ := grd_ex hf55
        refine va_iald hx hb hK hP44 4 2 rfl rfl (inB_in hg56) d_H_leadOn_41 ?_
        refine lv_ior hx hb d_H_leadOn_42 ?_
        obtain ⟨hg58, hf59⟩ := grd_ex hf57
        obtain ⟨I60, e61, hf62⟩ := bnd_ex hf59
        refine va_iast hx hb hK hP44 (hD I24 J0) hS45 4 2 rfl rfl (inB_in hg58) d_H_leadOn_43 (fun H63 L64 hp67 _ hS66 => ?_)
        have hP65 : va_P D cls_all (wC ca ad hs I60 J0) H63 := by rw [e61]; exact hp67
        obtain ⟨x68, e69, hf70⟩ := bnd_ex hf62
        refine lv_iinc hx hb d_H_leadOn_44 hl30 (k := 2) rfl (v := x68) (by rw [e69]; rfl) (by decide) (lv' := [(2, .int x68), (0, .ref (ad 0)), (1, .int x5)]) rfl (fun ls71 hl72 => ?_)
        refine lv_goto (tgt := 10) hx hb d_H_leadOn_47 rfl ?_
        cases hf70
        exact hc21 rfl H63 L64 ls71 hP65 hS66 (lv_sub hl72 [1, 2, 0] rfl)
