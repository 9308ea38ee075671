theorem d_H_has_0 : decode b_H_has 0 = .ok (.iload_n 1, 1) := by decide +kernel
theorem d_H_has_1 : decode b_H_has 1 = .ok (.ifCond .lt 24, 3) := by decide +kernel
theorem d_H_has_4 : decode b_H_has 4 = .ok (.iload_n 1, 1) := by decide +kernel
theorem d_H_has_5 : decode b_H_has 5 = .ok (.bipush 16, 2) := by decide +kernel
theorem d_H_has_7 : decode b_H_has 7 = .ok (.if_icmp .ge 18, 3) := by decide +kernel
theorem d_H_has_10 : decode b_H_has 10 = .ok (.aload_n 0, 1) := by decide +kernel
theorem d_H_has_11 : decode b_H_has 11 = .ok (.getfield 43, 3) := by decide +kernel
theorem d_H_has_14 : decode b_H_has 14 = .ok (.iload_n 1, 1) := by decide +kernel
theorem d_H_has_15 : decode b_H_has 15 = .ok (.invokestatic 53, 3) := by decide +kernel
theorem d_H_has_18 : decode b_H_has 18 = .ok (.ifCond .eq 7, 3) := by decide +kernel
theorem d_H_has_21 : decode b_H_has 21 = .ok (.iconst 1, 1) := by decide +kernel
theorem d_H_has_22 : decode b_H_has 22 = .ok (.goto 4, 3) := by decide +kernel
theorem d_H_has_25 : decode b_H_has 25 = .ok (.iconst 0, 1) := by decide +kernel
theorem d_H_has_26 : decode b_H_has 26 = .ok (.ireturn, 1) := by decide +kernel
def fm_H_has (p0 : Int32) (I0 : IS) : Option (Int32) :=
  if p0 < 0 then some (0 : Int32) else if (16 : Int32) ≤ p0 then some (0 : Int32) else ob1 (fm_K_holds (I0 5 0) p0) (fun x7 => if x7 = 0 then some (0 : Int32) else some (1 : Int32))
set_option maxHeartbeats 4000000 in
set_option maxRecDepth 100000 in
theorem cm_H_has (l : Launch) (D : va_G) (ca : Nat → ClassId) (ad : Nat → Nat) (hs : Nat → Option Nat) {p0 : Int32} {I0 : IS} {J0 : JS} {r : Int32} (hf : fm_H_has p0 I0 = some r) : CtI l y_H_has (Cond.code y_H_has b_H_has 2 (some .boolean) :: TB) { frames := 1, cells := 0, slots := 0, locals := 21 } [.ref (ad 0), .int p0] D cls_all (tysC ca) NN (wC ca ad hs I0 J0) (wC ca ad hs I0 J0) r := by
  refine jd_metZ (cc := b_H_has) (by decide) rfl (Nat.le_of_ble_eq_true rfl) (lv := [(0, .ref (ad 0)), (1, .int p0)]) rfl ?_
  intro p e R s m args below meth c A Q ls cx hR hK hN hD0 hA hP hS hl hend
  have hx := cx.1
  have hb := cx.2.1
  have hml := cx.2.2.1
  have hown := cx.2.2.2.1
  have hts := cx.2.2.2.2
  have hD : ∀ I J, va_D A (wC ca ad hs I J) := fun I J => jd_Dc hD0 rfl
  unfold fm_H_has at hf
  refine lv_iload_n hx hb d_H_has_0 rfl (lv_at hl 1 rfl) ?_
  refine lv_if_lt (tgt := 25) hx hb d_H_has_1 rfl (fun h1 => ?_) (fun h1 => ?_)
  · have hf2 := ifp hf h1
    refine lv_iconst (v := 0) hx hb d_H_has_25 (by decide) ?_
    cases hf2
    exact hend s.heap [] 26 ls (show narrow .boolean (.int (0 : Int32)) = .int (0 : Int32) from rfl) hP hS d_H_has_26
  · have hf3 := ifn hf h1
    refine lv_iload_n hx hb d_H_has_4 rfl (lv_at hl 1 rfl) ?_
    refine lv_bipush (v := 16) hx hb d_H_has_5 (by decide) ?_
    refine lv_icmp_ge (tgt := 25) hx hb d_H_has_7 rfl (fun h4 => ?_) (fun h4 => ?_)
    · have hf5 := ifp hf3 h4
      refine lv_iconst (v := 0) hx hb d_H_has_25 (by decide) ?_
      cases hf5
      exact hend s.heap [] 26 ls (show narrow .boolean (.int (0 : Int32)) = .int (0 : Int32) from rfl) hP hS d_H_has_26
    · have hf6 := ifn hf3 h4
      refine lv_aload_n hx hb d_H_has_10 rfl (lv_at hl 0 rfl) ?_
      refine va_get (D := D) (ci := 0) (v := .int (I0 5 0)) (C := R_H) (T := F_H) (N := 9) hx hb hts (fun w h => List.mem_cons_of_mem _ (uw_H w h)) hown hK hP 0 rfl rfl 7 (by decide) (hts _ (List.mem_cons_of_mem _ tb_554)) (fun _ h => h) rfl d_H_has_11 ?_
      refine lv_iload_n hx hb d_H_has_14 rfl (lv_at hl 1 rfl) ?_
      obtain ⟨x7, hc8, hf9⟩ := ob1_ex hf6
      refine jd_ci (va_runSN (As := [.int (I0 5 0), .int p0]) (rest := []) cx (cm_K_holds l D ca (wC ca ad hs I0 J0) (I0 := I0) (J0 := J0) hc8 s.heap.size) ⟨va_cnB 2 hts (jd_gB tb_132) rfl rfl rfl (hN _ nw_2) (hts _ (List.mem_cons_of_mem _ tb_43)) ⟨by decide, by decide, rfl⟩ (by rw [hR]; decide), hts _ (List.mem_cons_of_mem _ tb_131), trivial⟩ ⟨jd_blind nWc, (jd_pre (av := [.int (I0 5 0), .int p0]) hP hK (hD I0 J0) (fun U h => nWm h hN))⟩ rfl rfl hl.1 rfl (lv_room (Nat.le_of_ble_eq_true rfl)) d_H_has_15 ⟨Nat.zero_le _, Nat.zero_le _⟩) hS (hD I0 J0) hA (fun H10 L11 hP12 hS13 => ?_)
      refine lv_if_eq (tgt := 25) hx hb d_H_has_18 rfl (fun h14 => ?_) (fun h14 => ?_)
      · have hf15 := ifp hf9 h14
        refine lv_iconst (v := 0) hx hb d_H_has_25 (by decide) ?_
        cases hf15
        exact hend H10 L11 26 ls (show narrow .boolean (.int (0 : Int32)) = .int (0 : Int32) from rfl) hP12 hS13 d_H_has_26
      · have hf16 := ifn hf9 h14
        refine lv_iconst (v := 1) hx hb d_H_has_21 (by decide) ?_
        refine lv_goto (tgt := 26) hx hb d_H_has_22 rfl ?_
        cases hf16
        exact hend H10 L11 26 ls (show narrow .boolean (.int (1 : Int32)) = .int (1 : Int32) from rfl) hP12 hS13 d_H_has_26
theorem d_H_size_0 : decode b_H_size 0 = .ok (.aload_n 0, 1) := by decide +kernel
theorem d_H_size_1 : decode b_H_size 1 = .ok (.getfield 43, 3) := by decide +kernel
theorem d_H_size_4 : decode b_H_size 4 = .ok (.invokestatic 57, 3) := by decide +kernel
theorem d_H_size_7 : decode b_H_size 7 = .ok (.ireturn, 1) := by decide +kernel
def fm_H_size (I0 : IS) : Option (Int32) :=
  ob1 (fm_G_bitCount (I0 5 0)) (fun x1 => some x1)
set_option maxHeartbeats 4000000 in
set_option maxRecDepth 100000 in
theorem cm_H_size (l : Launch) (D : va_G) (ca : Nat → ClassId) (ad : Nat → Nat) (hs : Nat → Option Nat) {I0 : IS} {J0 : JS} {r : Int32} (hf : fm_H_size I0 = some r) : CtI l y_H_size (Cond.code y_H_size b_H_size 1 (some .int) :: TB) { frames := 1, cells := 0, slots := 0, locals := 20 } [.ref (ad 0)] D cls_all (tysC ca) NN (wC ca ad hs I0 J0) (wC ca ad hs I0 J0) r := by
  refine jd_metI (cc := b_H_size) (by decide) rfl (Nat.le_of_ble_eq_true rfl) (lv := [(0, .ref (ad 0))]) rfl ?_
  intro p e R s m args below meth c A Q ls cx hR hK hN hD0 hA hP hS hl hend
  have hx := cx.1
  have hb := cx.2.1
  have hml := cx.2.2.1
  have hown := cx.2.2.2.1
  have hts := cx.2.2.2.2
  have hD : ∀ I J, va_D A (wC ca ad hs I J) := fun I J => jd_Dc hD0 rfl
  unfold fm_H_size at hf
  refine lv_aload_n hx hb d_H_size_0 rfl (lv_at hl 0 rfl) ?_
  refine va_get (D := D) (ci := 0) (v := .int (I0 5 0)) (C := R_H) (T := F_H) (N := 9) hx hb hts (fun w h => List.mem_cons_of_mem _ (uw_H w h)) hown hK hP 0 rfl rfl 7 (by decide) (hts _ (List.mem_cons_of_mem _ tb_554)) (fun _ h => h) rfl d_H_size_1 ?_
  obtain ⟨x1, hc2, hf3⟩ := ob1_ex hf
  refine jd_ci (va_runS (As := [.int (I0 5 0)]) (rest := []) cx (cm_G_bitCount l D ca (wC ca ad hs I0 J0) (I0 := I0) (J0 := J0) hc2 s.heap.size) (va_cwS 1 hts (jd_gS2 tb_200 tb_201 tb_55 tb_202) rfl rfl rfl ⟨by decide, by decide, rfl⟩ (by rw [hR]; decide)) ⟨jd_blind nWc, (jd_pre (av := [.int (I0 5 0)]) hP hK (hD I0 J0) (fun U h => nWm h hN))⟩ rfl rfl hl.1 rfl (lv_room (Nat.le_of_ble_eq_true rfl)) d_H_size_4 ⟨Nat.zero_le _, Nat.zero_le _⟩) hS (hD I0 J0) hA (fun H4 L5 hP6 hS7 => ?_)
  cases hf3
  exact hend H4 L5 7 ls hP6 hS7 d_H_size_7
theorem d_H_isAbove_0 : decode b_H_isAbove 0 = .ok (.aload_n 0, 1) := by decide +kernel
theorem d_H_isAbove_1 : decode b_H_isAbove 1 = .ok (.iload_n 1, 1) := by decide +kernel
theorem d_H_isAbove_2 : decode b_H_isAbove 2 = .ok (.invokevirtual 63, 3) := by decide +kernel
theorem d_H_isAbove_5 : decode b_H_isAbove 5 = .ok (.ifCond .eq 28, 3) := by decide +kernel
theorem d_H_isAbove_8 : decode b_H_isAbove 8 = .ok (.aload_n 0, 1) := by decide +kernel
theorem d_H_isAbove_9 : decode b_H_isAbove 9 = .ok (.iload_n 2, 1) := by decide +kernel
theorem d_H_isAbove_10 : decode b_H_isAbove 10 = .ok (.invokevirtual 63, 3) := by decide +kernel
theorem d_H_isAbove_13 : decode b_H_isAbove 13 = .ok (.ifCond .eq 20, 3) := by decide +kernel
theorem d_H_isAbove_16 : decode b_H_isAbove 16 = .ok (.aload_n 0, 1) := by decide +kernel
theorem d_H_isAbove_17 : decode b_H_isAbove 17 = .ok (.getfield 22, 3) := by decide +kernel
theorem d_H_isAbove_20 : decode b_H_isAbove 20 = .ok (.iload_n 1, 1) := by decide +kernel
theorem d_H_isAbove_21 : decode b_H_isAbove 21 = .ok (.iaload, 1) := by decide +kernel
theorem d_H_isAbove_22 : decode b_H_isAbove 22 = .ok (.iload_n 2, 1) := by decide +kernel
theorem d_H_isAbove_23 : decode b_H_isAbove 23 = .ok (.invokestatic 53, 3) := by decide +kernel
theorem d_H_isAbove_26 : decode b_H_isAbove 26 = .ok (.ifCond .eq 7, 3) := by decide +kernel
theorem d_H_isAbove_29 : decode b_H_isAbove 29 = .ok (.iconst 1, 1) := by decide +kernel
theorem d_H_isAbove_30 : decode b_H_isAbove 30 = .ok (.goto 4, 3) := by decide +kernel
theorem d_H_isAbove_33 : decode b_H_isAbove 33 = .ok (.iconst 0, 1) := by decide +kernel
theorem d_H_isAbove_34 : decode b_H_isAbove 34 = .ok (.ireturn, 1) := by decide +kernel
def fm_H_isAbove (p0 : Int32) (p1 : Int32) (I0 : IS) : Option (Int32) :=
  ob1 (fm_H_has p0 I0) (fun x1 => if x1 = 0 then some (0 : Int32) else ob1 (fm_H_has p1 I0) (fun x11 => if x11 = 0 then some (0 : Int32) else grd (inB p0 16) (ob1 (fm_K_holds (I0 3 p0.toNatClampNeg) p1) (fun x23 => if x23 = 0 then some (0 : Int32) else some (1 : Int32)))))
set_option maxHeartbeats 4000000 in
set_option maxRecDepth 100000 in
theorem cm_H_isAbove (l : Launch) (D : va_G) (ca : Nat → ClassId) (ad : Nat → Nat) (hs : Nat → Option Nat) {p0 : Int32} {p1 : Int32} {I0 : IS} {J0 : JS} {r : Int32} (hf : fm_H_isAbove p0 p1 I0 = some r) : CtI l y_H_isAbove (Cond.code y_H_isAbove b_H_isAbove 3 (some .boolean) :: TB) { frames := 2, cells := 0, slots := 0, locals := 42 } [.ref (ad 0), .int p0, .int p1] D cls_all (tysC ca) NN (wC ca ad hs I0 J0) (wC ca ad hs I0 J0) r := by
  refine jd_metZ (cc := b_H_isAbove) (by decide) rfl (Nat.le_of_ble_eq_true rfl) (lv := [(0, .ref (ad 0)), (1, .int p0), (2, .int p1)]) rfl ?_
  intro p e R s m args below meth c A Q ls cx hR hK hN hD0 hA hP hS hl hend
  have hx := cx.1
  have hb := cx.2.1
  have hml := cx.2.2.1
  have hown := cx.2.2.2.1
  have hts := cx.2.2.2.2
  have hD : ∀ I J, va_D A (wC ca ad hs I J) := fun I J => jd_Dc hD0 rfl
  unfold fm_H_isAbove at hf
  refine lv_aload_n hx hb d_H_isAbove_0 rfl (lv_at hl 0 rfl) ?_
  refine lv_iload_n hx hb d_H_isAbove_1 rfl (lv_at hl 1 rfl) ?_
  obtain ⟨x1, hc2, hf3⟩ := ob1_ex hf
  refine jd_ci (va_runV (As := [.int p0]) (rest := []) cx (cm_H_has l D ca ad hs hc2 s.heap.size) (cwV 1 hts (jd_gV tb_137 tb_128 tb_129 tb_52 tb_130) rfl rfl rfl ⟨rfl, by decide, by decide, rfl⟩ (by rw [hR]; decide)) ⟨jd_blind nWc, (va_recv hK hP (ci := 0) (q0 := 0) rfl rfl), (jd_pre (av := [.ref (ad 0), .int p0]) hP hK (hD I0 J0) (fun U h => nWm h hN))⟩ rfl rfl hl.1 rfl (lv_room (Nat.le_of_ble_eq_true rfl)) d_H_isAbove_2 ⟨Nat.zero_le _, Nat.zero_le _⟩) hS (hD I0 J0) hA (fun H4 L5 hP6 hS7 => ?_)
  refine lv_if_eq (tgt := 33) hx hb d_H_isAbove_5 rfl (fun h8 => ?_) (fun h8 => ?_)
  · have hf9 := ifp hf3 h8
    refine lv_iconst (v := 0) hx hb d_H_isAbove_33 (by decide) ?_
    cases hf9
    exact hend H4 L5 34 ls (show narrow .boolean (.int (0 : Int32)) = .int (0 : Int32) from rfl) hP6 hS7 d_H_isAbove_34
  · have hf10 := ifn hf3 h8
    refine lv_aload_n hx hb d_H_isAbove_8 rfl (lv_at hl 0 rfl) ?_
    refine lv_iload_n hx hb d_H_isAbove_9 rfl (lv_at hl 2 rfl) ?_
    obtain ⟨x11, hc12, hf13⟩ := ob1_ex hf10
    refine jd_ci (va_runV (As := [.int p1]) (rest := []) cx (cm_H_has l D ca ad hs hc12 H4.size) (cwV 1 hts (jd_gV tb_137 tb_128 tb_129 tb_52 tb_130) rfl rfl rfl ⟨rfl, by decide, by decide, rfl⟩ (by rw [hR]; decide)) ⟨jd_blind nWc, (va_recv hK hP6 (ci := 0) (q0 := 0) rfl rfl), (jd_pre (av := [.ref (ad 0), .int p1]) hP6 hK (hD I0 J0) (fun U h => nWm h hN))⟩ rfl rfl hl.1 rfl (lv_room (Nat.le_of_ble_eq_true rfl)) d_H_isAbove_10 ⟨Nat.zero_le _, Nat.zero_le _⟩) hS7 (hD I0 J0) hA (fun H14 L15 hP16 hS17 => ?_)
    refine lv_if_eq (tgt := 33) hx hb d_H_isAbove_13 rfl (fun h18 => ?_) (fun h18 => ?_)
    · have hf19 := ifp hf13 h18
      refine lv_iconst (v := 0) hx hb d_H_isAbove_33 (by decide) ?_
      cases hf19
      exact hend H14 L15 34 ls (show narrow .boolean (.int (0 : Int32)) = .int (0 : Int32) from rfl) hP16 hS17 d_H_isAbove_34
    · have hf20 := ifn hf13 h18
      refine lv_aload_n hx hb d_H_isAbove_16 rfl (lv_at hl 0 rfl) ?_
      refine va_get (D := D) (ci := 0) (v := .ref (ad 4)) (C := R_H) (T := F_H) (N := 9) hx hb hts (fun w h => List.mem_cons_of_mem _ (uw_H w h)) hown hK hP16 0 rfl rfl 3 (by decide) (hts _ (List.mem_cons_of_mem _ tb_541)) (fun _ h => h) rfl d_H_isAbove_17 ?_
      refine lv_iload_n hx hb d_H_isAbove_20 rfl (lv_at hl 1 rfl) ?_
      obtain ⟨hg21, hf22⟩ := grd_ex hf20
      refine va_iald hx hb hK hP16 4 2 rfl rfl (inB_in hg21) d_H_isAbove_21 ?_
      refine lv_iload_n hx hb d_H_isAbove_22 rfl (lv_at hl 2 rfl) ?_
      obtain ⟨x23, hc24, hf25⟩ := ob1_ex hf22
      refine jd_ci (va_runSN (As := [.int (I0 3 p0.toNatClampNeg), .int p1]) (rest := []) cx (cm_K_holds l D ca (wC ca ad hs I0 J0) (I0 := I0) (J0 := J0) hc24 H14.size) ⟨va_cnB 2 hts (jd_gB tb_132) rfl rfl rfl (hN _ nw_2) (hts _ (List.mem_cons_of_mem _ tb_43)) ⟨by decide, by decide, rfl⟩ (by rw [hR]; decide), hts _ (List.mem_cons_of_mem _ tb_131), trivial⟩ ⟨jd_blind nWc, (jd_pre (av := [.int (I0 3 p0.toNatClampNeg), .int p1]) hP16 hK (hD I0 J0) (fun U h => nWm h hN))⟩ rfl rfl hl.1 rfl (lv_room (Nat.le_of_ble_eq_true rfl)) d_H_isAbove_23 ⟨Nat.zero_le _, Nat.zero_le _⟩) hS17 (hD I0 J0) hA (fun H26 L27 hP28 hS29 => ?_)
      refine lv_if_eq (tgt := 33) hx hb d_H_isAbove_26 rfl (fun h30 => ?_) (fun h30 => ?_)
      · have hf31 := ifp hf25 h30
        refine lv_iconst (v := 0) hx hb d_H_isAbove_33 (by decide) ?_
        cases hf31
        exact hend H26 L27 34 ls (show narrow .boolean (.int (0 : Int32)) = .int (0 : Int32) from rfl) hP28 hS29 d_H_isAbove_34
      · have hf32 := ifn hf25 h30
        refine lv_iconst (v := 1) hx hb d_H_isAbove_29 (by decide) ?_
        refine lv_goto (tgt := 34) hx hb d_H_isAbove_30 rfl ?_
        cases hf32
        exact hend H26 L27 34 ls (show narrow .boolean (.int (1 : Int32)) = .int (1 : Int32) from rfl) hP28 hS29 d_H_isAbove_34
theorem d_H_inForce_0 : decode b_H_inForce 0 = .ok (.aload_n 0, 1) := by decide +kernel
theorem d_H_inForce_1 : decode b_H_inForce 1 = .ok (.getfield 18, 3) := by decide +kernel
theorem d_H_inForce_4 : decode b_H_inForce 4 = .ok (.iload_n 1, 1) := by decide +kernel
theorem d_H_inForce_5 : decode b_H_inForce 5 = .ok (.baload, 1) := by decide +kernel
theorem d_H_inForce_6 : decode b_H_inForce 6 = .ok (.ifCond .ne 39, 3) := by decide +kernel
theorem d_H_inForce_9 : decode b_H_inForce 9 = .ok (.aload_n 0, 1) := by decide +kernel
theorem d_H_inForce_10 : decode b_H_inForce 10 = .ok (.getfield 43, 3) := by decide +kernel
theorem d_H_inForce_13 : decode b_H_inForce 13 = .ok (.aload_n 0, 1) := by decide +kernel
theorem d_H_inForce_14 : decode b_H_inForce 14 = .ok (.getfield 9, 3) := by decide +kernel
theorem d_H_inForce_17 : decode b_H_inForce 17 = .ok (.iload_n 1, 1) := by decide +kernel
theorem d_H_inForce_18 : decode b_H_inForce 18 = .ok (.baload, 1) := by decide +kernel
theorem d_H_inForce_19 : decode b_H_inForce 19 = .ok (.invokestatic 53, 3) := by decide +kernel
theorem d_H_inForce_22 : decode b_H_inForce 22 = .ok (.ifCond .eq 23, 3) := by decide +kernel
theorem d_H_inForce_25 : decode b_H_inForce 25 = .ok (.aload_n 0, 1) := by decide +kernel
theorem d_H_inForce_26 : decode b_H_inForce 26 = .ok (.getfield 43, 3) := by decide +kernel
theorem d_H_inForce_29 : decode b_H_inForce 29 = .ok (.aload_n 0, 1) := by decide +kernel
theorem d_H_inForce_30 : decode b_H_inForce 30 = .ok (.getfield 15, 3) := by decide +kernel
theorem d_H_inForce_33 : decode b_H_inForce 33 = .ok (.iload_n 1, 1) := by decide +kernel
theorem d_H_inForce_34 : decode b_H_inForce 34 = .ok (.baload, 1) := by decide +kernel
theorem d_H_inForce_35 : decode b_H_inForce 35 = .ok (.invokestatic 53, 3) := by decide +kernel
theorem d_H_inForce_38 : decode b_H_inForce 38 = .ok (.ifCond .eq 7, 3) := by decide +kernel
theorem d_H_inForce_41 : decode b_H_inForce 41 = .ok (.iconst 1, 1) := by decide +kernel
theorem d_H_inForce_42 : decode b_H_inForce 42 = .ok (.goto 4, 3) := by decide +kernel
theorem d_H_inForce_45 : decode b_H_inForce 45 = .ok (.iconst 0, 1) := by decide +kernel
theorem d_H_inForce_46 : decode b_H_inForce 46 = .ok (.ireturn, 1) := by decide +kernel
def fm_H_inForce (p0 : Int32) (I0 : IS) : Option (Int32) :=
  grd (inB p0 400) (if (I0 2 p0.toNatClampNeg) = 0 then grd (inB p0 400) (ob1 (fm_K_holds (I0 5 0) (I0 0 p0.toNatClampNeg)) (fun x8 => if x8 = 0 then some (0 : Int32) else grd (inB p0 400) (ob1 (fm_K_holds (I0 5 0) (I0 1 p0.toNatClampNeg)) (fun x20 => if x20 = 0 then some (0 : Int32) else some (1 : Int32))))) else some (0 : Int32))
set_option maxHeartbeats 4000000 in
set_option maxRecDepth 100000 in
theorem cm_H_inForce (l : Launch) (D : va_G) (ca : Nat → ClassId) (ad : Nat → Nat) (hs : Nat → Option Nat) {p0 : Int32} {I0 : IS} {J0 : JS} {r : Int32} (hf : fm_H_inForce p0 I0 = some r) : CtI l y_H_inForce (Cond.code y_H_inForce b_H_inForce 2 (some .boolean) :: TB) { frames := 1, cells := 0, slots := 0, locals := 21 } [.ref (ad 0), .int p0] D cls_all (tysC ca) NN (wC ca ad hs I0 J0) (wC ca ad hs I0 J0) r := by
  refine jd_metZ (cc := b_H_inForce) (by decide) rfl (Nat.le_of_ble_eq_true rfl) (lv := [(0, .ref (ad 0)), (1, .int p0)]) rfl ?_
  intro p e R s m args below meth c A Q ls cx hR hK hN hD0 hA hP hS hl hend
  have hx := cx.1
  have hb := cx.2.1
  have hml := cx.2.2.1
  have hown := cx.2.2.2.1
  have hts := cx.2.2.2.2
  have hD : ∀ I J, va_D A (wC ca ad hs I J) := fun I J => jd_Dc hD0 rfl
  unfold fm_H_inForce at hf
  refine lv_aload_n hx hb d_H_inForce_0 rfl (lv_at hl 0 rfl) ?_
  refine va_get (D := D) (ci := 0) (v := .ref (ad 3)) (C := R_H) (T := F_H) (N := 9) hx hb hts (fun w h => List.mem_cons_of_mem _ (uw_H w h)) hown hK hP 0 rfl rfl 2 (by decide) (hts _ (List.mem_cons_of_mem _ tb_539)) (fun _ h => h) rfl d_H_inForce_1 ?_
  refine lv_iload_n hx hb d_H_inForce_4 rfl (lv_at hl 1 rfl) ?_
  obtain ⟨hg1, hf2⟩ := grd_ex hf
  refine va_zald hx hb hK hP 3 1 rfl rfl (inB_in hg1) d_H_inForce_5 ?_
  refine lv_if_ne (tgt := 45) hx hb d_H_inForce_6 rfl (fun h3 => ?_) (fun h3 => ?_)
  · have hf4 := ifn hf2 h3
    refine lv_iconst (v := 0) hx hb d_H_inForce_45 (by decide) ?_
    cases hf4
    exact hend s.heap [] 46 ls (show narrow .boolean (.int (0 : Int32)) = .int (0 : Int32) from rfl) hP hS d_H_inForce_46
  · have hf5 := ifp hf2 h3
    refine lv_aload_n hx hb d_H_inForce_9 rfl (lv_at hl 0 rfl) ?_
    refine va_get (D := D) (ci := 0) (v := .int (I0 5 0)) (C := R_H) (T := F_H) (N := 9) hx hb hts (fun w h => List.mem_cons_of_mem _ (uw_H w h)) hown hK hP 0 rfl rfl 7 (by decide) (hts _ (List.mem_cons_of_mem _ tb_554)) (fun _ h => h) rfl d_H_inForce_10 ?_
    refine lv_aload_n hx hb d_H_inForce_13 rfl (lv_at hl 0 rfl) ?_
    refine va_get (D := D) (ci := 0) (v := .ref (ad 1)) (C := R_H) (T := F_H) (N := 9) hx hb hts (fun w h => List.mem_cons_of_mem _ (uw_H w h)) hown hK hP 0 rfl rfl 0 (by decide) (hts _ (List.mem_cons_of_mem _ tb_535)) (fun _ h => h) rfl d_H_inForce_14 ?_
    refine lv_iload_n hx hb d_H_inForce_17 rfl (lv_at hl 1 rfl) ?_
    obtain ⟨hg6, hf7⟩ := grd_ex hf5
    refine va_bald hx hb hK hP 1 0 rfl rfl (inB_in hg6) d_H_inForce_18 ?_
    obtain ⟨x8, hc9, hf10⟩ := ob1_ex hf7
    refine jd_ci (va_runSN (As := [.int (I0 5 0), .int (I0 0 p0.toNatClampNeg)]) (rest := []) cx (cm_K_holds l D ca (wC ca ad hs I0 J0) (I0 := I0) (J0 := J0) hc9 s.heap.size) ⟨va_cnB 2 hts (jd_gB tb_132) rfl rfl rfl (hN _ nw_2) (hts _ (List.mem_cons_of_mem _ tb_43)) ⟨by decide, by decide, rfl⟩ (by rw [hR]; decide), hts _ (List.mem_cons_of_mem _ tb_131), trivial⟩ ⟨jd_blind nWc, (jd_pre (av := [.int (I0 5 0), .int (I0 0 p0.toNatClampNeg)]) hP hK (hD I0 J0) (fun U h => nWm h hN))⟩ rfl rfl hl.1 rfl (lv_room (Nat.le_of_ble_eq_true rfl)) d_H_inForce_19 ⟨Nat.zero_le _, Nat.zero_le _⟩) hS (hD I0 J0) hA (fun H11 L12 hP13 hS14 => ?_)
    refine lv_if_eq (tgt := 45) hx hb d_H_inForce_22 rfl (fun h15 => ?_) (fun h15 => ?_)
    · have hf16 := ifp hf10 h15
      refine lv_iconst (v := 0) hx hb d_H_inForce_45 (by decide) ?_
      cases hf16
      exact hend H11 L12 46 ls (show narrow .boolean (.int (0 : Int32)) = .int (0 : Int32) from rfl) hP13 hS14 d_H_inForce_46
    · have hf17 := ifn hf10 h15
      refine lv_aload_n hx hb d_H_inForce_25 rfl (lv_at hl 0 rfl) ?_
      refine va_get (D := D) (ci := 0) (v := .int (I0 5 0)) (C := R_H) (T := F_H) (N := 9) hx hb hts (fun w h => List.mem_cons_of_mem _ (uw_H w h)) hown hK hP13 0 rfl rfl 7 (by decide) (hts _ (List.mem_cons_of_mem _ tb_554)) (fun _ h => h) rfl d_H_inForce_26 ?_
      refine lv_aload_n hx hb d_H_inForce_29 rfl (lv_at hl 0 rfl) ?_
      refine va_get (D := D) (ci := 0) (v := .ref (ad 2)) (C := R_H) (T := F_H) (N := 9) hx hb hts (fun w h => List.mem_cons_of_mem _ (uw_H w h)) hown hK hP13 0 rfl rfl 1 (by decide) (hts _ (List.mem_cons_of_mem _ tb_537)) (fun _ h => h) rfl d_H_inForce_30 ?_
      refine lv_iload_n hx hb d_H_inForce_33 rfl (lv_at hl 1 rfl) ?_
      obtain ⟨hg18, hf19⟩ := grd_ex hf17
      refine va_bald hx hb hK hP13 2 0 rfl rfl (inB_in hg18) d_H_inForce_34 ?_
      obtain ⟨x20, hc21, hf22⟩ := ob1_ex hf19
      refine jd_ci (va_runSN (As := [.int (I0 5 0), .int (I0 1 p0.toNatClampNeg)]) (rest := []) cx (cm_K_holds l D ca (wC ca ad hs I0 J0) (I0 := I0) (J0 := J0) hc21 H11.size) ⟨va_cnB 2 hts (jd_gB tb_132) rfl rfl rfl (hN _ nw_2) (hts _ (List.mem_cons_of_mem _ tb_43)) ⟨by decide, by decide, rfl⟩ (by rw [hR]; decide), hts _ (List.mem_cons_of_mem _ tb_131), trivial⟩ ⟨jd_blind nWc, (jd_pre (av := [.int (I0 5 0), .int (I0 1 p0.toNatClampNeg)]) hP13 hK (hD I0 J0) (fun U h => nWm h hN))⟩ rfl rfl hl.1 rfl (lv_room (Nat.le_of_ble_eq_true rfl)) d_H_inForce_35 ⟨Nat.zero_le _, Nat.zero_le _⟩) hS14 (hD I0 J0) hA (fun H23 L24 hP25 hS26 => ?_)
      refine lv_if_eq (tgt := 45) hx hb d_H_inForce_38 rfl (fun h27 => ?_) (fun h27 => ?_)
      · have hf28 := ifp hf22 h27
        refine lv_iconst (v := 0) hx hb d_H_inForce_45 (by decide) ?_
        cases hf28
        exact hend H23 L24 46 ls (show narrow .boolean (.int (0 : Int32)) = .int (0 : Int32) from rfl) hP25 hS26 d_H_inForce_46
      · have hf29 := ifn hf22 h27
        refine lv_iconst (v := 1) hx hb d_H_inForce_41 (by decide) ?_
        refine lv_goto (tgt := 46) hx hb d_H_inForce_42 rfl ?_
        cases hf29
        exact hend H23 L24 46 ls (show narrow .boolean (.int (1 : Int32)) = .int (1 : Int32) from rfl) hP25 hS26 d_H_inForce_46
theorem d_H_verdictsInForce_0 : decode b_H_verdictsInForce 0 = .ok (.iconst 0, 1) := by decide +kernel
theorem d_H_verdictsInForce_1 : decode b_H_verdictsInForce 1 = .ok (.istore_n 1, 1) := by decide +kernel
theorem d_H_verdictsInForce_2 : decode b_H_verdictsInForce 2 = .ok (.iconst 0, 1) := by decide +kernel
theorem d_H_verdictsInForce_3 : decode b_H_verdictsInForce 3 = .ok (.istore_n 2, 1) := by decide +kernel
theorem d_H_verdictsInForce_4 : decode b_H_verdictsInForce 4 = .ok (.iload_n 2, 1) := by decide +kernel
theorem d_H_verdictsInForce_5 : decode b_H_verdictsInForce 5 = .ok (.aload_n 0, 1) := by decide +kernel
theorem d_H_verdictsInForce_6 : decode b_H_verdictsInForce 6 = .ok (.getfield 47, 3) := by decide +kernel
theorem d_H_verdictsInForce_9 : decode b_H_verdictsInForce 9 = .ok (.if_icmp .ge 25, 3) := by decide +kernel
theorem d_H_verdictsInForce_12 : decode b_H_verdictsInForce 12 = .ok (.iload_n 1, 1) := by decide +kernel
theorem d_H_verdictsInForce_13 : decode b_H_verdictsInForce 13 = .ok (.aload_n 0, 1) := by decide +kernel
theorem d_H_verdictsInForce_14 : decode b_H_verdictsInForce 14 = .ok (.iload_n 2, 1) := by decide +kernel
theorem d_H_verdictsInForce_15 : decode b_H_verdictsInForce 15 = .ok (.invokevirtual 67, 3) := by decide +kernel
theorem d_H_verdictsInForce_18 : decode b_H_verdictsInForce 18 = .ok (.ifCond .eq 7, 3) := by decide +kernel
theorem d_H_verdictsInForce_21 : decode b_H_verdictsInForce 21 = .ok (.iconst 1, 1) := by decide +kernel
theorem d_H_verdictsInForce_22 : decode b_H_verdictsInForce 22 = .ok (.goto 4, 3) := by decide +kernel
theorem d_H_verdictsInForce_25 : decode b_H_verdictsInForce 25 = .ok (.iconst 0, 1) := by decide +kernel
theorem d_H_verdictsInForce_26 : decode b_H_verdictsInForce 26 = .ok (.iadd, 1) := by decide +kernel
theorem d_H_verdictsInForce_27 : decode b_H_verdictsInForce 27 = .ok (.istore_n 1, 1) := by decide +kernel
theorem d_H_verdictsInForce_28 : decode b_H_verdictsInForce 28 = .ok (.iinc 2 1, 3) := by decide +kernel
theorem d_H_verdictsInForce_31 : decode b_H_verdictsInForce 31 = .ok (.goto (-27), 3) := by decide +kernel
theorem d_H_verdictsInForce_34 : decode b_H_verdictsInForce 34 = .ok (.iload_n 1, 1) := by decide +kernel
theorem d_H_verdictsInForce_35 : decode b_H_verdictsInForce 35 = .ok (.ireturn, 1) := by decide +kernel
def fm_H_verdictsInForce_B4 (I0 : IS) (x9 : Int32) (x10 : Int32) : Option (Nat × Int32 × Int32) :=
  if (I0 6 0) ≤ x10 then some (1, x9, x10) else ob1 (fm_H_inForce x10 I0) (fun x23 => if x23 = 0 then bnd (x9 + (0 : Int32)) (fun x33 => bnd (x10 + (1 : Int32)) (fun x38 => some (0, x33, x38))) else bnd (x9 + (1 : Int32)) (fun x43 => bnd (x10 + (1 : Int32)) (fun x48 => some (0, x43, x48))))
def fm_H_verdictsInForce (I0 : IS) : Option (Int32) :=
  ob3 (iter (fun z : Int32 × Int32 => fm_H_verdictsInForce_B4 I0 z.1 z.2) FU ((0 : Int32), (0 : Int32))) (fun _ x54 x55 => some x54)
set_option maxHeartbeats 4000000 in
set_option maxRecDepth 100000 in
theorem cm_H_verdictsInForce (l : Launch) (D : va_G) (ca : Nat → ClassId) (ad : Nat → Nat) (hs : Nat → Option Nat) {I0 : IS} {J0 : JS} {r : Int32} (hf : fm_H_verdictsInForce I0 = some r) : CtI l y_H_verdictsInForce (Cond.code y_H_verdictsInForce b_H_verdictsInForce 3 (some .int) :: TB) { frames := 2, cells := 0, slots := 0, locals := 42 } [.ref (ad 0)] D cls_all (tysC ca) NN (wC ca ad hs I0 J0) (wC ca ad hs I0 J0) r := by
  refine jd_metI (cc := b_H_verdictsInForce) (by decide) rfl (Nat.le_of_ble_eq_true rfl) (lv := [(0, .ref (ad 0))]) rfl ?_
  intro p e R s m args below meth c A Q ls cx hR hK hN hD0 hA hP hS hl hend
  have hx := cx.1
  have hb := cx.2.1
  have hml := cx.2.2.1
  have hown := cx.2.2.2.1
  have hts := cx.2.2.2.2
  have hD : ∀ I J, va_D A (wC ca ad hs I J) := fun I J => jd_Dc hD0 rfl
  unfold fm_H_verdictsInForce at hf
  refine lv_iconst (v := 0) hx hb d_H_verdictsInForce_0 (by decide) ?_
  refine lv_istore_n hx hb d_H_verdictsInForce_1 rfl hl (by decide) (lv' := [(1, .int (0 : Int32)), (0, .ref (ad 0))]) rfl (fun ls1 hl2 => ?_)
  refine lv_iconst (v := 0) hx hb d_H_verdictsInForce_2 (by decide) ?_
  refine lv_istore_n hx hb d_H_verdictsInForce_3 rfl hl2 (by decide) (lv' := [(2, .int (0 : Int32)), (1, .int (0 : Int32)), (0, .ref (ad 0))]) rfl (fun ls3 hl4 => ?_)
  obtain ⟨tg53, x54, x55, ho56, hf57⟩ := ob3_ex hf
  have kx4_1 : ∀ (H58 : Heap) (L59 : List Loc) (ls60 : Array Slot), va_P D cls_all (wC ca ad hs I0 J0) H58 → va_S A s.heap H58 L59 → lv_has ls60 3 [(1, .int x54)] → W p l e R s m args below meth c H58 L59 0 0 Q (F0 m 34 ls60 []) := by
    intro H58 L59 ls60 hP61 hS62 hl63
    refine lv_iload_n hx hb d_H_verdictsInForce_34 rfl (lv_at hl63 0 rfl) ?_
    cases hf57
    exact hend H58 L59 35 ls60 hP61 hS62 d_H_verdictsInForce_35
  refine iter_ind (C := fun z : Int32 × Int32 => ∀ (H11 : Heap) (L12 : List Loc) (ls13 : Array Slot), va_P D cls_all (wC ca ad hs I0 J0) H11 → va_S A s.heap H11 L12 → lv_has ls13 3 [(0, .ref (ad 0)), (1, .int z.1), (2, .int z.2)] → W p l e R s m args below meth c H11 L12 0 0 Q (F0 m 4 ls13 [])) (fun z8 o7 hz18 hc5 he6 => ?_) _ _ ho56 s.heap [] ls3 hP hS (lv_sub hl4 [2, 1, 0] rfl)
  obtain ⟨x9, x10⟩ := z8
  intro H11 L12 ls13 hP14 hS15 hl16
  have hf17 : fm_H_verdictsInForce_B4 I0 x9 x10 = some o7 := hz18
  unfold fm_H_verdictsInForce_B4 at hf17
  refine lv_iload_n hx hb d_H_verdictsInForce_4 rfl (lv_at hl16 2 rfl) ?_
  refine lv_aload_n hx hb d_H_verdictsInForce_5 rfl (lv_at hl16 0 rfl) ?_
  refine va_get (D := D) (ci := 0) (v := .int (I0 6 0)) (C := R_H) (T := F_H) (N := 9) hx hb hts (fun w h => List.mem_cons_of_mem _ (uw_H w h)) hown hK hP14 0 rfl rfl 8 (by decide) (hts _ (List.mem_cons_of_mem _ tb_556)) (fun _ h => h) rfl d_H_verdictsInForce_6 ?_
  refine lv_icmp_ge (tgt := 34) hx hb d_H_verdictsInForce_9 rfl (fun h19 => ?_) (fun h19 => ?_)
  · have hf20 := ifp hf17 h19
    cases hf20
    have e22 := he6 (by show (1 : Nat) ≠ 0; decide)
    cases e22
    exact kx4_1 H11 L12 ls13 hP14 hS15 (lv_sub hl16 [1] rfl)
  · have hf21 := ifn hf17 h19
    refine lv_iload_n hx hb d_H_verdictsInForce_12 rfl (lv_at hl16 1 rfl) ?_
    refine lv_aload_n hx hb d_H_verdictsInForce_13 rfl (lv_at hl16 0 rfl) ?_
    refine lv_iload_n hx hb d_H_verdictsInForce_14 rfl (lv_at hl16 2 rfl) ?_
    obtain ⟨x23, hc24, hf25⟩ := ob1_ex hf21
    refine jd_ci (va_runV (As := [.int x10]) (rest := [.int x9]) cx (cm_H_inForce l D ca ad hs hc24 H11.size) (cwV 1 hts (jd_gV tb_162 tb_147 tb_148 tb_52 tb_149) rfl rfl rfl ⟨rfl, by decide, by decide, rfl⟩ (by rw [hR]; decide)) ⟨jd_blind nWc, (va_recv hK hP14 (ci := 0) (q0 := 0) rfl rfl), (jd_pre (av := [.ref (ad 0), .int x10]) hP14 hK (hD I0 J0) (fun U h => nWm h hN))⟩ rfl rfl hl16.1 rfl (lv_room (Nat.le_of_ble_eq_true rfl)) d_H_verdictsInForce_15 ⟨Nat.zero_le _, Nat.zero_le _⟩) hS15 (hD I0 J0) hA (fun H26 L27 hP28 hS29 => ?_)
    refine lv_if_eq (tgt := 25) hx hb d_H_verdictsInForce_18 rfl (fun h30 => ?_) (fun h30 => ?_)
    · have hf31 := ifp hf25 h30
      refine lv_iconst (v := 0) hx hb d_H_verdictsInForce_25 (by decide) ?_
      refine lv_iadd hx hb d_H_verdictsInForce_26 ?_
      obtain ⟨x33, e34, hf35⟩ := bnd_ex hf31
      refine jd_tni e34 ?_
      refine lv_istore_n hx hb d_H_verdictsInForce_27 rfl hl16 (by decide) (lv' := [(1, .int x33), (0, .ref (ad 0)), (2, .int x10)]) rfl (fun ls36 hl37 => ?_)
      obtain ⟨x38, e39, hf40⟩ := bnd_ex hf35
      refine lv_iinc hx hb d_H_verdictsInForce_28 hl37 (k := 2) rfl (v := x38) (by rw [e39]; rfl) (by decide) (lv' := [(2, .int x38), (1, .int x33), (0, .ref (ad 0))]) rfl (fun ls41 hl42 => ?_)
      refine lv_goto (tgt := 4) hx hb d_H_verdictsInForce_31 rfl ?_
      cases hf40
      exact hc5 rfl H26 L27 ls41 hP28 hS29 (lv_sub hl42 [2, 1, 0] rfl)
    · have hf32 := ifn hf25 h30
      refine lv_iconst (v := 1) hx hb d_H_verdictsInForce_21 (by decide) ?_
      refine lv_goto (tgt := 26) hx hb d_H_verdictsInForce_22 rfl ?_
      refine lv_iadd hx hb d_H_verdictsInForce_26 ?_
      obtain ⟨x43, e44, hf45⟩ := bnd_ex hf32
      refine jd_tni e44 ?_
      refine lv_istore_n hx hb d_H_verdictsInForce_27 rfl hl16 (by decide) (lv' := [(1, .int x43), (0, .ref (ad 0)), (2, .int x10)]) rfl (fun ls46 hl47 => ?_)
      obtain ⟨x48, e49, hf50⟩ := bnd_ex hf45
      refine lv_iinc hx hb d_H_verdictsInForce_28 hl47 (k := 2) rfl (v := x48) (by rw [e49]; rfl) (by decide) (lv' := [(2, .int x48), (1, .int x43), (0, .ref (ad 0))]) rfl (fun ls51 hl52 => ?_)
      refine lv_goto (tgt := 4) hx hb d_H_verdictsInForce_31 rfl ?_
      cases hf50
      exact hc5 rfl H26 L27 ls51 hP28 hS29 (lv_sub hl52 [2, 1, 0] rfl)
theorem d_H_settledPairs_0 : decode b_H_settledPairs 0 = .ok (.iconst 0, 1) := by decide +kernel
theorem d_H_settledPairs_1 : decode b_H_settledPairs 1 = .ok (.istore_n 1, 1) := by decide +kernel
theorem d_H_settledPairs_2 : decode b_H_settledPairs 2 = .ok (.iconst 0, 1) := by decide +kernel
theorem d_H_settledPairs_3 : decode b_H_settledPairs 3 = .ok (.istore_n 2, 1) := by decide +kernel
theorem d_H_settledPairs_4 : decode b_H_settledPairs 4 = .ok (.iload_n 2, 1) := by decide +kernel
theorem d_H_settledPairs_5 : decode b_H_settledPairs 5 = .ok (.bipush 16, 2) := by decide +kernel
theorem d_H_settledPairs_7 : decode b_H_settledPairs 7 = .ok (.if_icmp .ge 21, 3) := by decide +kernel
theorem d_H_settledPairs_10 : decode b_H_settledPairs 10 = .ok (.iload_n 1, 1) := by decide +kernel
theorem d_H_settledPairs_11 : decode b_H_settledPairs 11 = .ok (.aload_n 0, 1) := by decide +kernel
theorem d_H_settledPairs_12 : decode b_H_settledPairs 12 = .ok (.getfield 22, 3) := by decide +kernel
theorem d_H_settledPairs_15 : decode b_H_settledPairs 15 = .ok (.iload_n 2, 1) := by decide +kernel
theorem d_H_settledPairs_16 : decode b_H_settledPairs 16 = .ok (.iaload, 1) := by decide +kernel
theorem d_H_settledPairs_17 : decode b_H_settledPairs 17 = .ok (.invokestatic 57, 3) := by decide +kernel
theorem d_H_settledPairs_20 : decode b_H_settledPairs 20 = .ok (.iadd, 1) := by decide +kernel
theorem d_H_settledPairs_21 : decode b_H_settledPairs 21 = .ok (.istore_n 1, 1) := by decide +kernel
theorem d_H_settledPairs_22 : decode b_H_settledPairs 22 = .ok (.iinc 2 1, 3) := by decide +kernel
theorem d_H_settledPairs_25 : decode b_H_settledPairs 25 = .ok (.goto (-21), 3) := by decide +kernel
theorem d_H_settledPairs_28 : decode b_H_settledPairs 28 = .ok (.iload_n 1, 1) := by decide +kernel
theorem d_H_settledPairs_29 : decode b_H_settledPairs 29 = .ok (.ireturn, 1) := by decide +kernel
def fm_H_settledPairs_B4 (I0 : IS) (x9 : Int32) (x10 : Int32) : Option (Nat × Int32 × Int32) :=
  if (16 : Int32) ≤ x10 then some (1, x9, x10) else grd (inB x10 16) (ob1 (fm_G_bitCount (I0 3 x10.toNatClampNeg)) (fun x25 => bnd (x9 + x25) (fun x32 => bnd (x10 + (1 : Int32)) (fun x37 => some (0, x32, x37)))))
def fm_H_settledPairs (I0 : IS) : Option (Int32) :=
  ob3 (iter (fun z : Int32 × Int32 => fm_H_settledPairs_B4 I0 z.1 z.2) FU ((0 : Int32), (0 : Int32))) (fun _ x43 x44 => some x43)
set_option maxHeartbeats 4000000 in
set_option maxRecDepth 100000 in
theorem cm_H_settledPairs (l : Launch) (D : va_G) (ca : Nat → ClassId) (ad : Nat → Nat) (hs : Nat → Option Nat) {I0 : IS} {J0 : JS} {r : Int32} (hf : fm_H_settledPairs I0 = some r) : CtI l y_H_settledPairs (Cond.code y_H_settledPairs b_H_settledPairs 3 (some .int) :: TB) { frames := 1, cells := 0, slots := 0, locals := 20 } [.ref (ad 0)] D cls_all (tysC ca) NN (wC ca ad hs I0 J0) (wC ca ad hs I0 J0) r := by
  refine jd_metI (cc := b_H_settledPairs) (by decide) rfl (Nat.le_of_ble_eq_true rfl) (lv := [(0, .ref (ad 0))]) rfl ?_
  intro p e R s m args below meth c A Q ls cx hR hK hN hD0 hA hP hS hl hend
  have hx := cx.1
  have hb := cx.2.1
  have hml := cx.2.2.1
  have hown := cx.2.2.2.1
  have hts := cx.2.2.2.2
  have hD : ∀ I J, va_D A (wC ca ad hs I J) := fun I J => jd_Dc hD0 rfl
  unfold fm_H_settledPairs at hf
  refine lv_iconst (v := 0) hx hb d_H_settledPairs_0 (by decide) ?_
  refine lv_istore_n hx hb d_H_settledPairs_1 rfl hl (by decide) (lv' := [(1, .int (0 : Int32)), (0, .ref (ad 0))]) rfl (fun ls1 hl2 => ?_)
  refine lv_iconst (v := 0) hx hb d_H_settledPairs_2 (by decide) ?_
  refine lv_istore_n hx hb d_H_settledPairs_3 rfl hl2 (by decide) (lv' := [(2, .int (0 : Int32)), (1, .int (0 : Int32)), (0, .ref (ad 0))]) rfl (fun ls3 hl4 => ?_)
  obtain ⟨tg42, x43, x44, ho45, hf46⟩ := ob3_ex hf
  have kx4_1 : ∀ (H47 : Heap) (L48 : List Loc) (ls49 : Array Slot), va_P D cls_all (wC ca ad hs I0 J0) H47 → va_S A s.heap H47 L48 → lv_has ls49 3 [(1, .int x43)] → W p l e R s m args below meth c H47 L48 0 0 Q (F0 m 28 ls49 []) := by
    intro H47 L48 ls49 hP50 hS51 hl52
    refine lv_iload_n hx hb d_H_settledPairs_28 rfl (lv_at hl52 0 rfl) ?_
    cases hf46
    exact hend H47 L48 29 ls49 hP50 hS51 d_H_settledPairs_29
  refine iter_ind (C := fun z : Int32 × Int32 => ∀ (H11 : Heap) (L12 : List Loc) (ls13 : Array Slot), va_P D cls_all (wC ca ad hs I0 J0) H11 → va_S A s.heap H11 L12 → lv_has ls13 3 [(0, .ref (ad 0)), (1, .int z.1), (2, .int z.2)] → W p l e R s m args below meth c H11 L12 0 0 Q (F0 m 4 ls13 [])) (fun z8 o7 hz18 hc5 he6 => ?_) _ _ ho45 s.heap [] ls3 hP hS (lv_sub hl4 [2, 1, 0] rfl)
  obtain ⟨x9, x10⟩ := z8
  intro H11 L12 ls13 hP14 hS15 hl16
  have hf17 : fm_H_settledPairs_B4 I0 x9 x10 = some o7 := hz18
  unfold fm_H_settledPairs_B4 at hf17
  refine lv_iload_n hx hb d_H_settledPairs_4 rfl (lv_at hl16 2 rfl) ?_
  refine lv_bipush (v := 16) hx hb d_H_settledPairs_5 (by decide) ?_
  refine lv_icmp_ge (tgt := 28) hx hb d_H_settledPairs_7 rfl (fun h19 => ?_) (fun h19 => ?_)
  · have hf20 := ifp hf17 h19
    cases hf20
    have e22 := he6 (by show (1 : Nat) ≠ 0; decide)
    cases e22
    exact kx4_1 H11 L12 ls13 hP14 hS15 (lv_sub hl16 [1] rfl)
  · have hf21 := ifn hf17 h19
    refine lv_iload_n hx hb d_H_settledPairs_10 rfl (lv_at hl16 1 rfl) ?_
    refine lv_aload_n hx hb d_H_settledPairs_11 rfl (lv_at hl16 0 rfl) ?_
    refine va_get (D := D) (ci := 0) (v := .ref (ad 4)) (C := R_H) (T := F_H) (N := 9) hx hb hts (fun w h => List.mem_cons_of_mem _ (uw_H w h)) hown hK hP14 0 rfl rfl 3 (by decide) (hts _ (List.mem_cons_of_mem _ tb_541)) (fun _ h => h) rfl d_H_settledPairs_12 ?_
    refine lv_iload_n hx hb d_H_settledPairs_15 rfl (lv_at hl16 2 rfl) ?_
    obtain ⟨hg23, hf24⟩ := grd_ex hf21
    refine va_iald hx hb hK hP14 4 2 rfl rfl (inB_in hg23) d_H_settledPairs_16 ?_
    obtain ⟨x25, hc26, hf27⟩ := ob1_ex hf24
    refine jd_ci (va_runS (As := [.int (I0 3 x10.toNatClampNeg)]) (rest := [.int x9]) cx (cm_G_bitCount l D ca (wC ca ad hs I0 J0) (I0 := I0) (J0 := J0) hc26 H11.size) (va_cwS 1 hts (jd_gS2 tb_200 tb_201 tb_55 tb_202) rfl rfl rfl ⟨by decide, by decide, rfl⟩ (by rw [hR]; decide)) ⟨jd_blind nWc, (jd_pre (av := [.int (I0 3 x10.toNatClampNeg)]) hP14 hK (hD I0 J0) (fun U h => nWm h hN))⟩ rfl rfl hl16.1 rfl (lv_room (Nat.le_of_ble_eq_true rfl)) d_H_settledPairs_17 ⟨Nat.zero_le _, Nat.zero_le _⟩) hS15 (hD I0 J0) hA (fun H28 L29 hP30 hS31 => ?_)
    refine lv_iadd hx hb d_H_settledPairs_20 ?_
    obtain ⟨x32, e33, hf34⟩ := bnd_ex hf27
    refine jd_tni e33 ?_
    refine lv_istore_n hx hb d_H_settledPairs_21 rfl hl16 (by decide) (lv' := [(1, .int x32), (0, .ref (ad 0)), (2, .int x10)]) rfl (fun ls35 hl36 => ?_)
    obtain ⟨x37, e38, hf39⟩ := bnd_ex hf34
    refine lv_iinc hx hb d_H_settledPairs_22 hl36 (k := 2) rfl (v := x37) (by rw [e38]; rfl) (by decide) (lv' := [(2, .int x37), (1, .int x32), (0, .ref (ad 0))]) rfl (fun ls40 hl41 => ?_)
    refine lv_goto (tgt := 4) hx hb d_H_settledPairs_25 rfl ?_
    cases hf39
    exact hc5 rfl H28 L29 ls40 hP30 hS31 (lv_sub hl41 [2, 1, 0] rfl)
theorem d_H_mayCome_0 : decode b_H_mayCome 0 = .ok (.aload_n 0, 1) := by decide +kernel
theorem d_H_mayCome_1 : decode b_H_mayCome 1 = .ok (.getfield 43, 3) := by decide +kernel
theorem d_H_mayCome_4 : decode b_H_mayCome 4 = .ok (.iload_n 2, 1) := by decide +kernel
theorem d_H_mayCome_5 : decode b_H_mayCome 5 = .ok (.iconst (-1), 1) := by decide +kernel
theorem d_H_mayCome_6 : decode b_H_mayCome 6 = .ok (.ixor, 1) := by decide +kernel
theorem d_H_mayCome_7 : decode b_H_mayCome 7 = .ok (.iand, 1) := by decide +kernel
theorem d_H_mayCome_8 : decode b_H_mayCome 8 = .ok (.iload_n 1, 1) := by decide +kernel
theorem d_H_mayCome_9 : decode b_H_mayCome 9 = .ok (.invokestatic 53, 3) := by decide +kernel
theorem d_H_mayCome_12 : decode b_H_mayCome 12 = .ok (.ifCond .eq 20, 3) := by decide +kernel
theorem d_H_mayCome_15 : decode b_H_mayCome 15 = .ok (.aload_n 0, 1) := by decide +kernel
theorem d_H_mayCome_16 : decode b_H_mayCome 16 = .ok (.getfield 26, 3) := by decide +kernel
theorem d_H_mayCome_19 : decode b_H_mayCome 19 = .ok (.iload_n 1, 1) := by decide +kernel
theorem d_H_mayCome_20 : decode b_H_mayCome 20 = .ok (.iaload, 1) := by decide +kernel
theorem d_H_mayCome_21 : decode b_H_mayCome 21 = .ok (.iload_n 2, 1) := by decide +kernel
theorem d_H_mayCome_22 : decode b_H_mayCome 22 = .ok (.iconst (-1), 1) := by decide +kernel
theorem d_H_mayCome_23 : decode b_H_mayCome 23 = .ok (.ixor, 1) := by decide +kernel
theorem d_H_mayCome_24 : decode b_H_mayCome 24 = .ok (.iand, 1) := by decide +kernel
theorem d_H_mayCome_25 : decode b_H_mayCome 25 = .ok (.ifCond .ne 7, 3) := by decide +kernel
theorem d_H_mayCome_28 : decode b_H_mayCome 28 = .ok (.iconst 1, 1) := by decide +kernel
theorem d_H_mayCome_29 : decode b_H_mayCome 29 = .ok (.goto 4, 3) := by decide +kernel
theorem d_H_mayCome_32 : decode b_H_mayCome 32 = .ok (.iconst 0, 1) := by decide +kernel
theorem d_H_mayCome_33 : decode b_H_mayCome 33 = .ok (.ireturn, 1) := by decide +kernel
def fm_H_mayCome (p0 : Int32) (p1 : Int32) (I0 : IS) : Option (Int32) :=
  ob1 (fm_K_holds ((I0 5 0) &&& (p1 ^^^ (-1 : Int32))) p0) (fun x1 => if x1 = 0 then some (0 : Int32) else grd (inB p0 16) (if ((I0 4 p0.toNatClampNeg) &&& (p1 ^^^ (-1 : Int32))) = 0 then some (1 : Int32) else some (0 : Int32)))
set_option maxHeartbeats 4000000 in
set_option maxRecDepth 100000 in
theorem cm_H_mayCome (l : Launch) (D : va_G) (ca : Nat → ClassId) (ad : Nat → Nat) (hs : Nat → Option Nat) {p0 : Int32} {p1 : Int32} {I0 : IS} {J0 : JS} {r : Int32} (hf : fm_H_mayCome p0 p1 I0 = some r) : CtI l y_H_mayCome (Cond.code y_H_mayCome b_H_mayCome 3 (some .boolean) :: TB) { frames := 1, cells := 0, slots := 0, locals := 21 } [.ref (ad 0), .int p0, .int p1] D cls_all (tysC ca) NN (wC ca ad hs I0 J0) (wC ca ad hs I0 J0) r := by
  refine jd_metZ (cc := b_H_mayCome) (by decide) rfl (Nat.le_of_ble_eq_true rfl) (lv := [(0, .ref (ad 0)), (1, .int p0), (2, .int p1)]) rfl ?_
  intro p e R s m args below meth c A Q ls cx hR hK hN hD0 hA hP hS hl hend
  have hx := cx.1
  have hb := cx.2.1
  have hml := cx.2.2.1
  have hown := cx.2.2.2.1
  have hts := cx.2.2.2.2
  have hD : ∀ I J, va_D A (wC ca ad hs I J) := fun I J => jd_Dc hD0 rfl
  unfold fm_H_mayCome at hf
  refine lv_aload_n hx hb d_H_mayCome_0 rfl (lv_at hl 0 rfl) ?_
  refine va_get (D := D) (ci := 0) (v := .int (I0 5 0)) (C := R_H) (T := F_H) (N := 9) hx hb hts (fun w h => List.mem_cons_of_mem _ (uw_H w h)) hown hK hP 0 rfl rfl 7 (by decide) (hts _ (List.mem_cons_of_mem _ tb_554)) (fun _ h => h) rfl d_H_mayCome_1 ?_
  refine lv_iload_n hx hb d_H_mayCome_4 rfl (lv_at hl 2 rfl) ?_
  refine lv_iconst (v := -1) hx hb d_H_mayCome_5 (by decide) ?_
  refine lv_ixor hx hb d_H_mayCome_6 ?_
  refine lv_iand hx hb d_H_mayCome_7 ?_
  refine lv_iload_n hx hb d_H_mayCome_8 rfl (lv_at hl 1 rfl) ?_
  obtain ⟨x1, hc2, hf3⟩ := ob1_ex hf
  refine jd_ci (va_runSN (As := [.int ((I0 5 0) &&& (p1 ^^^ (-1 : Int32))), .int p0]) (rest := []) cx (cm_K_holds l D ca (wC ca ad hs I0 J0) (I0 := I0) (J0 := J0) hc2 s.heap.size) ⟨va_cnB 2 hts (jd_gB tb_132) rfl rfl rfl (hN _ nw_2) (hts _ (List.mem_cons_of_mem _ tb_43)) ⟨by decide, by decide, rfl⟩ (by rw [hR]; decide), hts _ (List.mem_cons_of_mem _ tb_131), trivial⟩ ⟨jd_blind nWc, (jd_pre (av := [.int ((I0 5 0) &&& (p1 ^^^ (-1 : Int32))), .int p0]) hP hK (hD I0 J0) (fun U h => nWm h hN))⟩ rfl rfl hl.1 rfl (lv_room (Nat.le_of_ble_eq_true rfl)) d_H_mayCome_9 ⟨Nat.zero_le _, Nat.zero_le _⟩) hS (hD I0 J0) hA (fun H4 L5 hP6 hS7 => ?_)
  refine lv_if_eq (tgt := 32) hx hb d_H_mayCome_12 rfl (fun h8 => ?_) (fun h8 => ?_)
  · have hf9 := ifp hf3 h8
    refine lv_iconst (v := 0) hx hb d_H_mayCome_32 (by decide) ?_
    cases hf9
    exact hend H4 L5 33 ls (show narrow .boolean (.int (0 : Int32)) = .int (0 : Int32) from rfl) hP6 hS7 d_H_mayCome_33
  · have hf10 := ifn hf3 h8
    refine lv_aload_n hx hb d_H_mayCome_15 rfl (lv_at hl 0 rfl) ?_
    refine va_get (D := D) (ci := 0) (v := .ref (ad 5)) (C := R_H) (T := F_H) (N := 9) hx hb hts (fun w h => List.mem_cons_of_mem _ (uw_H w h)) hown hK hP6 0 rfl rfl 4 (by decide) (hts _ (List.mem_cons_of_mem _ tb_545)) (fun _ h => h) rfl d_H_mayCome_16 ?_
    refine lv_iload_n hx hb d_H_mayCome_19 rfl (lv_at hl 1 rfl) ?_
    obtain ⟨hg11, hf12⟩ := grd_ex hf10
    refine va_iald hx hb hK hP6 5 2 rfl rfl (inB_in hg11) d_H_mayCome_20 ?_
    refine lv_iload_n hx hb d_H_mayCome_21 rfl (lv_at hl 2 rfl) ?_
    refine lv_iconst (v := -1) hx hb d_H_mayCome_22 (by decide) ?_
    refine lv_ixor hx hb d_H_mayCome_23 ?_
    refine lv_iand hx hb d_H_mayCome_24 ?_
    refine lv_if_ne (tgt := 32) hx hb d_H_mayCome_25 rfl (fun h13 => ?_) (fun h13 => ?_)
    · have hf14 := ifn hf12 h13
      refine lv_iconst (v := 0) hx hb d_H_mayCome_32 (by decide) ?_
      cases hf14
      exact hend H4 L5 33 ls (show narrow .boolean (.int (0 : Int32)) = .int (0 : Int32) from rfl) hP6 hS7 d_H_mayCome_33
    · have hf15 := ifp hf12 h13
      refine lv_iconst (v := 1) hx hb d_H_mayCome_28 (by decide) ?_
      refine lv_goto (tgt := 33) hx hb d_H_mayCome_29 rfl ?_
      cases hf15
      exact hend H4 L5 33 ls (show narrow .boolean (.int (1 : Int32)) = .int (1 : Int32) from rfl) hP6 hS7 d_H_mayCome_33
theorem d_H_allows_0 : decode b_H_allows 0 = .ok (.iconst 0, 1) := by decide +kernel
theorem d_H_allows_1 : decode b_H_allows 1 = .ok (.istore_n 2, 1) := by decide +kernel
theorem d_H_allows_2 : decode b_H_allows 2 = .ok (.iconst 0, 1) := by decide +kernel
theorem d_H_allows_3 : decode b_H_allows 3 = .ok (.istore_n 3, 1) := by decide +kernel
theorem d_H_allows_4 : decode b_H_allows 4 = .ok (.iload_n 3, 1) := by decide +kernel
theorem d_H_allows_5 : decode b_H_allows 5 = .ok (.aload_n 0, 1) := by decide +kernel
theorem d_H_allows_6 : decode b_H_allows 6 = .ok (.invokevirtual 70, 3) := by decide +kernel
theorem d_H_allows_9 : decode b_H_allows 9 = .ok (.if_icmp .ge 45, 3) := by decide +kernel
theorem d_H_allows_12 : decode b_H_allows 12 = .ok (.aload_n 1, 1) := by decide +kernel
theorem d_H_allows_13 : decode b_H_allows 13 = .ok (.iload_n 3, 1) := by decide +kernel
theorem d_H_allows_14 : decode b_H_allows 14 = .ok (.iaload, 1) := by decide +kernel
theorem d_H_allows_15 : decode b_H_allows 15 = .ok (.istore 4, 2) := by decide +kernel
theorem d_H_allows_17 : decode b_H_allows 17 = .ok (.iload 4, 2) := by decide +kernel
theorem d_H_allows_19 : decode b_H_allows 19 = .ok (.ifCond .lt 20, 3) := by decide +kernel
theorem d_H_allows_22 : decode b_H_allows 22 = .ok (.iload 4, 2) := by decide +kernel
theorem d_H_allows_24 : decode b_H_allows 24 = .ok (.bipush 16, 2) := by decide +kernel
theorem d_H_allows_26 : decode b_H_allows 26 = .ok (.if_icmp .ge 13, 3) := by decide +kernel
theorem d_H_allows_29 : decode b_H_allows 29 = .ok (.aload_n 0, 1) := by decide +kernel
theorem d_H_allows_30 : decode b_H_allows 30 = .ok (.iload 4, 2) := by decide +kernel
theorem d_H_allows_32 : decode b_H_allows 32 = .ok (.iload_n 2, 1) := by decide +kernel
theorem d_H_allows_33 : decode b_H_allows 33 = .ok (.invokevirtual 74, 3) := by decide +kernel
theorem d_H_allows_36 : decode b_H_allows 36 = .ok (.ifCond .ne 5, 3) := by decide +kernel
theorem d_H_allows_39 : decode b_H_allows 39 = .ok (.iconst 0, 1) := by decide +kernel
theorem d_H_allows_40 : decode b_H_allows 40 = .ok (.ireturn, 1) := by decide +kernel
theorem d_H_allows_41 : decode b_H_allows 41 = .ok (.iload_n 2, 1) := by decide +kernel
theorem d_H_allows_42 : decode b_H_allows 42 = .ok (.iconst 1, 1) := by decide +kernel
theorem d_H_allows_43 : decode b_H_allows 43 = .ok (.iload 4, 2) := by decide +kernel
theorem d_H_allows_45 : decode b_H_allows 45 = .ok (.ishl, 1) := by decide +kernel
theorem d_H_allows_46 : decode b_H_allows 46 = .ok (.ior, 1) := by decide +kernel
theorem d_H_allows_47 : decode b_H_allows 47 = .ok (.istore_n 2, 1) := by decide +kernel
theorem d_H_allows_48 : decode b_H_allows 48 = .ok (.iinc 3 1, 3) := by decide +kernel
theorem d_H_allows_51 : decode b_H_allows 51 = .ok (.goto (-47), 3) := by decide +kernel
theorem d_H_allows_54 : decode b_H_allows 54 = .ok (.iconst 1, 1) := by decide +kernel
theorem d_H_allows_55 : decode b_H_allows 55 = .ok (.ireturn, 1) := by decide +kernel
def fm_H_allows_B4 (I0 : IS) (x9 : Int32) (x10 : Int32) : Option (Nat × Int32 × Int32) :=
  ob1 (fm_H_size I0) (fun x19 => if x19 ≤ x10 then some (1, x9, x10) else grd (inB x10 16) (bnd (I0 16 x10.toNatClampNeg) (fun x32 => if x32 < 0 then some (2, x9, x10) else if (16 : Int32) ≤ x32 then some (2, x9, x10) else ob1 (fm_H_mayCome x32 x9 I0) (fun x45 => if x45 = 0 then some (2, x9, x10) else bnd (x9 ||| ((1 : Int32) <<< (x32 &&& 31))) (fun x55 => bnd (x10 + (1 : Int32)) (fun x60 => some (0, x55, x60)))))))
def fm_H_allows (I0 : IS) : Option (Int32) :=
  ob3 (iter (fun z : Int32 × Int32 => fm_H_allows_B4 I0 z.1 z.2) FU ((0 : Int32), (0 : Int32))) (fun tg66 x67 x68 => if tg66 = 1 then some (1 : Int32) else some (0 : Int32))
set_option maxHeartbeats 4000000 in
set_option maxRecDepth 100000 in
theorem cm_H_allows (l : Launch) (D : va_G) (ca : Nat → ClassId) (ad : Nat → Nat) (hs : Nat → Option Nat) {I0 : IS} {J0 : JS} {r : Int32} (hf : fm_H_allows I0 = some r) : CtI l y_H_allows (Cond.code y_H_allows b_H_allows 5 (some .boolean) :: TB) { frames := 2, cells := 0, slots := 0, locals := 43 } [.ref (ad 0), .ref (ad 17)] D cls_all (tysC ca) NN (wC ca ad hs I0 J0) (wC ca ad hs I0 J0) r := by
  refine jd_metZ (cc := b_H_allows) (by decide) rfl (Nat.le_of_ble_eq_true rfl) (lv := [(0, .ref (ad 0)), (1, .ref (ad 17))]) rfl ?_
  intro p e R s m args below meth c A Q ls cx hR hK hN hD0 hA hP hS hl hend
  have hx := cx.1
  have hb := cx.2.1
  have hml := cx.2.2.1
  have hown := cx.2.2.2.1
  have hts := cx.2.2.2.2
  have hD : ∀ I J, va_D A (wC ca ad hs I J) := fun I J => jd_Dc hD0 rfl
  unfold fm_H_allows at hf
  refine lv_iconst (v := 0) hx hb d_H_allows_0 (by decide) ?_
  refine lv_istore_n hx hb d_H_allows_1 rfl hl (by decide) (lv' := [(2, .int (0 : Int32)), (0, .ref (ad 0)), (1, .ref (ad 17))]) rfl (fun ls1 hl2 => ?_)
  refine lv_iconst (v := 0) hx hb d_H_allows_2 (by decide) ?_
  refine lv_istore_n hx hb d_H_allows_3 rfl hl2 (by decide) (lv' := [(3, .int (0 : Int32)), (2, .int (0 : Int32)), (0, .ref (ad 0)), (1, .ref (ad 17))]) rfl (fun ls3 hl4 => ?_)
  obtain ⟨tg66, x67, x68, ho69, hf70⟩ := ob3_ex hf
  have kx4_1 : tg66 = 1 → ∀ (H71 : Heap) (L72 : List Loc) (ls73 : Array Slot), va_P D cls_all (wC ca ad hs I0 J0) H71 → va_S A s.heap H71 L72 → lv_has ls73 5 [] → W p l e R s m args below meth c H71 L72 0 0 Q (F0 m 54 ls73 []) := by
    intro ht78 H71 L72 ls73 hP74 hS75 hl76
    have hf77 := ifp hf70 ht78
    refine lv_iconst (v := 1) hx hb d_H_allows_54 (by decide) ?_
    cases hf77
    exact hend H71 L72 55 ls73 (show narrow .boolean (.int (1 : Int32)) = .int (1 : Int32) from rfl) hP74 hS75 d_H_allows_55
  have kx4_2 : tg66 = 2 → ∀ (H79 : Heap) (L80 : List Loc) (ls81 : Array Slot), va_P D cls_all (wC ca ad hs I0 J0) H79 → va_S A s.heap H79 L80 → lv_has ls81 5 [] → W p l e R s m args below meth c H79 L80 0 0 Q (F0 m 39 ls81 []) := by
    intro ht86 H79 L80 ls81 hP82 hS83 hl84
    have hf87 := ifn hf70 (by rw [ht86]; decide)
    have hf85 := hf87
    refine lv_iconst (v := 0) hx hb d_H_allows_39 (by decide) ?_
    cases hf85
    exact hend H79 L80 40 ls81 (show narrow .boolean (.int (0 : Int32)) = .int (0 : Int32) from rfl) hP82 hS83 d_H_allows_40
  refine iter_ind (C := fun z : Int32 × Int32 => ∀ (H11 : Heap) (L12 : List Loc) (ls13 : Array Slot), va_P D cls_all (wC ca ad hs I0 J0) H11 → va_S A s.heap H11 L12 → lv_has ls13 5 [(0, .ref (ad 0)), (1, .ref (ad 17)), (2, .int z.1), (3, .int z.2)] → W p l e R s m args below meth c H11 L12 0 0 Q (F0 m 4 ls13 [])) (fun z8 o7 hz18 hc5 he6 => ?_) _ _ ho69 s.heap [] ls3 hP hS (lv_sub hl4 [2, 3, 1, 0] rfl)
  obtain ⟨x9, x10⟩ := z8
  intro H11 L12 ls13 hP14 hS15 hl16
  have hf17 : fm_H_allows_B4 I0 x9 x10 = some o7 := hz18
  unfold fm_H_allows_B4 at hf17
  refine lv_iload_n hx hb d_H_allows_4 rfl (lv_at hl16 3 rfl) ?_
  refine lv_aload_n hx hb d_H_allows_5 rfl (lv_at hl16 0 rfl) ?_
  obtain ⟨x19, hc20, hf21⟩ := ob1_ex hf17
  refine jd_ci (va_runV (As := []) (rest := [.int x10]) cx (cm_H_size l D ca ad hs hc20 H11.size) (cwV 0 hts (jd_gV tb_334 tb_197 tb_198 tb_52 tb_199) rfl rfl rfl ⟨rfl, by decide, by decide, rfl⟩ (by rw [hR]; decide)) ⟨jd_blind nWc, (va_recv hK hP14 (ci := 0) (q0 := 0) rfl rfl), (jd_pre (av := [.ref (ad 0)]) hP14 hK (hD I0 J0) (fun U h => nWm h hN))⟩ rfl rfl hl16.1 rfl (lv_room (Nat.le_of_ble_eq_true rfl)) d_H_allows_6 ⟨Nat.zero_le _, Nat.zero_le _⟩) hS15 (hD I0 J0) hA (fun H22 L23 hP24 hS25 => ?_)
  refine lv_icmp_ge (tgt := 54) hx hb d_H_allows_9 rfl (fun h26 => ?_) (fun h26 => ?_)
  · have hf27 := ifp hf21 h26
    cases hf27
    have e29 := he6 (by show (1 : Nat) ≠ 0; decide)
    cases e29
    exact kx4_1 rfl H22 L23 ls13 hP24 hS25 (lv_sub hl16 [] rfl)
  · have hf28 := ifn hf21 h26
    refine lv_aload_n hx hb d_H_allows_12 rfl (lv_at hl16 1 rfl) ?_
    refine lv_iload_n hx hb d_H_allows_13 rfl (lv_at hl16 3 rfl) ?_
    obtain ⟨hg30, hf31⟩ := grd_ex hf28
    refine va_iald hx hb hK hP24 17 2 rfl rfl (inB_in hg30) d_H_allows_14 ?_
    obtain ⟨x32, e33, hf34⟩ := bnd_ex hf31
    refine jd_tni e33 ?_
    refine lv_istore hx hb d_H_allows_15 hl16 (by decide) (lv' := [(4, .int x32), (0, .ref (ad 0)), (1, .ref (ad 17)), (2, .int x9), (3, .int x10)]) rfl (fun ls35 hl36 => ?_)
    refine lv_iload hx hb d_H_allows_17 (lv_at hl36 0 rfl) ?_
    refine lv_if_lt (tgt := 39) hx hb d_H_allows_19 rfl (fun h37 => ?_) (fun h37 => ?_)
    · have hf38 := ifp hf34 h37
      cases hf38
      have e40 := he6 (by show (2 : Nat) ≠ 0; decide)
      cases e40
      exact kx4_2 rfl H22 L23 ls35 hP24 hS25 (lv_sub hl36 [] rfl)
    · have hf39 := ifn hf34 h37
      refine lv_iload hx hb d_H_allows_22 (lv_at hl36 0 rfl) ?_
      refine lv_bipush (v := 16) hx hb d_H_allows_24 (by decide) ?_
      refine lv_icmp_ge (tgt := 39) hx hb d_H_allows_26 rfl (fun h41 => ?_) (fun h41 => ?_)
      · have hf42 := ifp hf39 h41
        cases hf42
        have e44 := he6 (by show (2 : Nat) ≠ 0; decide)
        cases e44
        exact kx4_2 rfl H22 L23 ls35 hP24 hS25 (lv_sub hl36 [] rfl)
      · have hf43 := ifn hf39 h41
        refine lv_aload_n hx hb d_H_allows_29 rfl (lv_at hl36 1 rfl) ?_
        refine lv_iload hx hb d_H_allows_30 (lv_at hl36 0 rfl) ?_
        refine lv_iload_n hx hb d_H_allows_32 rfl (lv_at hl36 3 rfl) ?_
        obtain ⟨x45, hc46, hf47⟩ := ob1_ex hf43
        refine jd_ci (va_runV (As := [.int x32, .int x9]) (rest := []) cx (cm_H_mayCome l D ca ad hs hc46 H22.size) (cwV 2 hts (jd_gV tb_335 tb_323 tb_324 tb_52 tb_325) rfl rfl rfl ⟨rfl, by decide, by decide, rfl⟩ (by rw [hR]; decide)) ⟨jd_blind nWc, (va_recv hK hP24 (ci := 0) (q0 := 0) rfl rfl), (jd_pre (av := [.ref (ad 0), .int x32, .int x9]) hP24 hK (hD I0 J0) (fun U h => nWm h hN))⟩ rfl rfl hl36.1 rfl (lv_room (Nat.le_of_ble_eq_true rfl)) d_H_allows_33 ⟨Nat.zero_le _, Nat.zero_le _⟩) hS25 (hD I0 J0) hA (fun H48 L49 hP50 hS51 => ?_)
        refine lv_if_ne (tgt := 41) hx hb d_H_allows_36 rfl (fun h52 => ?_) (fun h52 => ?_)
        · have hf53 := ifn hf47 h52
          refine lv_iload_n hx hb d_H_allows_41 rfl (lv_at hl36 3 rfl) ?_
          refine lv_iconst (v := 1) hx hb d_H_allows_42 (by decide) ?_
          refine lv_iload hx hb d_H_allows_43 (lv_at hl36 0 rfl) ?_
          refine lv_ishl hx hb d_H_allows_45 ?_
          refine lv_ior hx hb d_H_allows_46 ?_
          obtain ⟨x55, e56, hf57⟩ := bnd_ex hf53
          refine jd_tni e56 ?_
          refine lv_istore_n hx hb d_H_allows_47 rfl hl36 (by decide) (lv' := [(2, .int x55), (4, .int x32), (0, .ref (ad 0)), (1, .ref (ad 17)), (3, .int x10)]) rfl (fun ls58 hl59 => ?_)
          obtain ⟨x60, e61, hf62⟩ := bnd_ex hf57
          refine lv_iinc hx hb d_H_allows_48 hl59 (k := 4) rfl (v := x60) (by rw [e61]; rfl) (by decide) (lv' := [(3, .int x60), (2, .int x55), (4, .int x32), (0, .ref (ad 0)), (1, .ref (ad 17))]) rfl (fun ls63 hl64 => ?_)
          refine lv_goto (tgt := 4) hx hb d_H_allows_51 rfl ?_
          cases hf62
          exact hc5 rfl H48 L49 ls63 hP50 hS51 (lv_sub hl64 [3, 4, 1, 0] rfl)
        · have hf54 := ifp hf47 h52
          cases hf54
          have e65 := he6 (by show (2 : Nat) ≠ 0; decide)
          cases e65
          exact kx4_2 rfl H48 L49 ls35 hP50 hS51 (lv_sub hl36 [] rfl)
theorem d_H_leadOn_0 : decode b_H_leadOn 0 = .ok (.iconst 0, 1) := by decide +kernel
theorem d_H_leadOn_1 : decode b_H_leadOn 1 = .ok (.istore_n 1, 1) := by decide +kernel
theorem d_H_leadOn_2 : decode b_H_leadOn 2 = .ok (.iload_n 1, 1) := by decide +kernel
theorem d_H_leadOn_3 : decode b_H_leadOn 3 = .ok (.bipush 16, 2) := by decide +kernel
theorem d_H_leadOn_5 : decode b_H_leadOn 5 = .ok (.if_icmp .ge 51, 3) := by decide +kernel
theorem d_H_leadOn_8 : decode b_H_leadOn 8 = .ok (.iconst 0, 1) := by decide +kernel
theorem d_H_leadOn_9 : decode b_H_leadOn 9 = .ok (.istore_n 2, 1) := by decide +kernel
theorem d_H_leadOn_10 : decode b_H_leadOn 10 = .ok (.iload_n 2, 1) := by decide +kernel
theorem d_H_leadOn_11 : decode b_H_leadOn 11 = .ok (.bipush 16, 2) := by decide +kernel
theorem d_H_leadOn_13 : decode b_H_leadOn 13 = .ok (.if_icmp .ge 37, 3) := by decide +kernel
theorem d_H_leadOn_16 : decode b_H_leadOn 16 = .ok (.aload_n 0, 1) := by decide +kernel
theorem d_H_leadOn_17 : decode b_H_leadOn 17 = .ok (.getfield 22, 3) := by decide +kernel
theorem d_H_leadOn_20 : decode b_H_leadOn 20 = .ok (.iload_n 2, 1) := by decide +kernel
theorem d_H_leadOn_21 : decode b_H_leadOn 21 = .ok (.iaload, 1) := by decide +kernel
theorem d_H_leadOn_22 : decode b_H_leadOn 22 = .ok (.iload_n 1, 1) := by decide +kernel
theorem d_H_leadOn_23 : decode b_H_leadOn 23 = .ok (.invokestatic 53, 3) := by decide +kernel
theorem d_H_leadOn_26 : decode b_H_leadOn 26 = .ok (.ifCond .eq 18, 3) := by decide +kernel
theorem d_H_leadOn_29 : decode b_H_leadOn 29 = .ok (.aload_n 0, 1) := by decide +kernel
theorem d_H_leadOn_30 : decode b_H_leadOn 30 = .ok (.getfield 22, 3) := by decide +kernel
theorem d_H_leadOn_33 : decode b_H_leadOn 33 = .ok (.iload_n 2, 1) := by decide +kernel
theorem d_H_leadOn_34 : decode b_H_leadOn 34 = .ok (.dup2, 1) := by decide +kernel
theorem d_H_leadOn_35 : decode b_H_leadOn 35 = .ok (.iaload, 1) := by decide +kernel
theorem d_H_leadOn_36 : decode b_H_leadOn 36 = .ok (.aload_n 0, 1) := by decide +kernel
theorem d_H_leadOn_37 : decode b_H_leadOn 37 = .ok (.getfield 22, 3) := by decide +kernel
theorem d_H_leadOn_40 : decode b_H_leadOn 40 = .ok (.iload_n 1, 1) := by decide +kernel
theorem d_H_leadOn_41 : decode b_H_leadOn 41 = .ok (.iaload, 1) := by decide +kernel
theorem d_H_leadOn_42 : decode b_H_leadOn 42 = .ok (.ior, 1) := by decide +kernel
theorem d_H_leadOn_43 : decode b_H_leadOn 43 = .ok (.iastore, 1) := by decide +kernel
theorem d_H_leadOn_44 : decode b_H_leadOn 44 = .ok (.iinc 2 1, 3) := by decide +kernel
theorem d_H_leadOn_47 : decode b_H_leadOn 47 = .ok (.goto (-37), 3) := by decide +kernel
theorem d_H_leadOn_50 : decode b_H_leadOn 50 = .ok (.iinc 1 1, 3) := by decide +kernel
theorem d_H_leadOn_53 : decode b_H_leadOn 53 = .ok (.goto (-51), 3) := by decide +kernel
theorem d_H_leadOn_56 : decode b_H_leadOn 56 = .ok (.return_, 1) := by decide +kernel
def fm_H_leadOn_B10 (x7 : Int32) (x27 : Int32) (I28 : IS) : Option (Nat × Int32 × IS) :=
  if (16 : Int32) ≤ x27 then some (1, x27, I28) else grd (inB x27 16) (ob1 (fm_K_holds (I28 3 x27.toNatClampNeg) x7) (fun x43 => if x43 = 0 then bnd (x27 + (1 : Int32)) (fun x53 => some (0, x53, I28)) else grd (inB x27 16) (grd (inB x7 16) (grd (inB x27 16) (bnd (sI I28 3 x27.toNatClampNeg ((I28 3 x27.toNatClampNeg) ||| (I28 3 x7.toNatClampNeg))) (fun I64 => bnd (x27 + (1 : Int32)) (fun x72 => some (0, x72, I64))))))))
def fm_H_leadOn_B2  (x7 : Int32) (I8 : IS) : Option (Nat × Int32 × IS) :=
  if (16 : Int32) ≤ x7 then some (1, x7, I8) else ob3 (iter (fun z : Int32 × IS => fm_H_leadOn_B10 x7 z.1 z.2) FU ((0 : Int32), I8)) (fun _ x78 I79 => bnd (x7 + (1 : Int32)) (fun x88 => some (0, x88, I79)))
def fm_H_leadOn (I0 : IS) : Option (IS) :=
  ob3 (iter (fun z : Int32 × IS => fm_H_leadOn_B2 z.1 z.2) FU ((0 : Int32), I0)) (fun _ x94 I95 => some I95)
set_option maxHeartbeats 4000000 in
set_option maxRecDepth 100000 in
theorem cm_H_leadOn (l : Launch) (D : va_G) (ca : Nat → ClassId) (ad : Nat → Nat) (hs : Nat → Option Nat) {I0 : IS} {J0 : JS} {r : IS} (hf : fm_H_leadOn I0 = some r) : CtV l y_H_leadOn (Cond.code y_H_leadOn b_H_leadOn 3 none :: TB) { frames := 1, cells := 0, slots := 0, locals := 21 } [.ref (ad 0)] D cls_all (tysC ca) NN (wC ca ad hs I0 J0) (wC ca ad hs r J0) := by
  refine jd_metV (cc := b_H_leadOn) (by decide) rfl (Nat.le_of_ble_eq_true rfl) (lv := [(0, .ref (ad 0))]) rfl ?_
  intro p e R s m args below meth c A Q ls cx hR hK hN hD0 hA hP hS hl hend
  have hx := cx.1
  have hb := cx.2.1
  have hml := cx.2.2.1
  have hown := cx.2.2.2.1
  have hts := cx.2.2.2.2
  have hD : ∀ I J, va_D A (wC ca ad hs I J) := fun I J => jd_Dc hD0 rfl
  unfold fm_H_leadOn at hf
  refine lv_iconst (v := 0) hx hb d_H_leadOn_0 (by decide) ?_
  refine lv_istore_n hx hb d_H_leadOn_1 rfl hl (by decide) (lv' := [(1, .int (0 : Int32)), (0, .ref (ad 0))]) rfl (fun ls1 hl2 => ?_)
  obtain ⟨tg93, x94, I95, ho96, hf97⟩ := ob3_ex hf
  have kx2_1 : ∀ (H98 : Heap) (L99 : List Loc) (ls100 : Array Slot), va_P D cls_all (wC ca ad hs I95 J0) H98 → va_S A s.heap H98 L99 → lv_has ls100 3 [] → W p l e R s m args below meth c H98 L99 0 0 Q (F0 m 56 ls100 []) := by
    intro H98 L99 ls100 hP101 hS102 hl103
    cases hf97
    exact hend H98 L99 56 ls100 hP101 hS102 d_H_leadOn_56
  refine iter_ind (C := fun z : Int32 × IS => ∀ (H9 : Heap) (L10 : List Loc) (ls11 : Array Slot), va_P D cls_all (wC ca ad hs z.2 J0) H9 → va_S A s.heap H9 L10 → lv_has ls11 3 [(0, .ref (ad 0)), (1, .int z.1)] → W p l e R s m args below meth c H9 L10 0 0 Q (F0 m 2 ls11 [])) (fun z6 o5 hz16 hc3 he4 => ?_) _ _ ho96 s.heap [] ls1 hP hS (lv_sub hl2 [1, 0] rfl)
  obtain ⟨x7, I8⟩ := z6
  intro H9 L10 ls11 hP12 hS13 hl14
  have hf15 : fm_H_leadOn_B2 x7 I8 = some o5 := hz16
  unfold fm_H_leadOn_B2 at hf15
  refine lv_iload_n hx hb d_H_leadOn_2 rfl (lv_at hl14 1 rfl) ?_
  refine lv_bipush (v := 16) hx hb d_H_leadOn_3 (by decide) ?_
  refine lv_icmp_ge (tgt := 56) hx hb d_H_leadOn_5 rfl (fun h17 => ?_) (fun h17 => ?_)
  · have hf18 := ifp hf15 h17
    cases hf18
    have e20 := he4 (by show (1 : Nat) ≠ 0; decide)
    cases e20
    exact kx2_1 H9 L10 ls11 hP12 hS13 (lv_sub hl14 [] rfl)
  · have hf19 := ifn hf15 h17
    refine lv_iconst (v := 0) hx hb d_H_leadOn_8 (by decide) ?_
    refine lv_istore_n hx hb d_H_leadOn_9 rfl hl14 (by decide) (lv' := [(2, .int (0 : Int32)), (0, .ref (ad 0)), (1, .int x7)]) rfl (fun ls21 hl22 => ?_)
    obtain ⟨tg77, x78, I79, ho80, hf81⟩ := ob3_ex hf19
    have kx10_1 : ∀ (H82 : Heap) (L83 : List Loc) (ls84 : Array Slot), va_P D cls_all (wC ca ad hs I79 J0) H82 → va_S A s.heap H82 L83 → lv_has ls84 3 [(0, .ref (ad 0)), (1, .int x7)] → W p l e R s m args below meth c H82 L83 0 0 Q (F0 m 50 ls84 []) := by
      intro H82 L83 ls84 hP85 hS86 hl87
      obtain ⟨x88, e89, hf90⟩ := bnd_ex hf81
      refine lv_iinc hx hb d_H_leadOn_50 hl87 (k := 1) rfl (v := x88) (by rw [e89]; rfl) (by decide) (lv' := [(1, .int x88), (0, .ref (ad 0))]) rfl (fun ls91 hl92 => ?_)
      refine lv_goto (tgt := 2) hx hb d_H_leadOn_53 rfl ?_
      cases hf90
      exact hc3 rfl H82 L83 ls91 hP85 hS86 (lv_sub hl92 [1, 0] rfl)
    refine iter_ind (C := fun z : Int32 × IS => ∀ (H29 : Heap) (L30 : List Loc) (ls31 : Array Slot), va_P D cls_all (wC ca ad hs z.2 J0) H29 → va_S A s.heap H29 L30 → lv_has ls31 3 [(0, .ref (ad 0)), (1, .int x7), (2, .int z.1)] → W p l e R s m args below meth c H29 L30 0 0 Q (F0 m 10 ls31 [])) (fun z26 o25 hz36 hc23 he24 => ?_) _ _ ho80 H9 L10 ls21 hP12 hS13 (lv_sub hl22 [1, 2, 0] rfl)
    obtain ⟨x27, I28⟩ := z26
    intro H29 L30 ls31 hP32 hS33 hl34
    have hf35 : fm_H_leadOn_B10 x7 x27 I28 = some o25 := hz36
    unfold fm_H_leadOn_B10 at hf35
    refine lv_iload_n hx hb d_H_leadOn_10 rfl (lv_at hl34 2 rfl) ?_
    refine lv_bipush (v := 16) hx hb d_H_leadOn_11 (by decide) ?_
    refine lv_icmp_ge (tgt := 50) hx hb d_H_leadOn_13 rfl (fun h37 => ?_) (fun h37 => ?_)
    · have hf38 := ifp hf35 h37
      cases hf38
      have e40 := he24 (by show (1 : Nat) ≠ 0; decide)
      cases e40
      exact kx10_1 H29 L30 ls31 hP32 hS33 (lv_sub hl34 [0, 1] rfl)
    · have hf39 := ifn hf35 h37
      refine lv_aload_n hx hb d_H_leadOn_16 rfl (lv_at hl34 0 rfl) ?_
      refine va_get (D := D) (ci := 0) (v := .ref (ad 4)) (C := R_H) (T := F_H) (N := 9) hx hb hts (fun w h => List.mem_cons_of_mem _ (uw_H w h)) hown hK hP32 0 rfl rfl 3 (by decide) (hts _ (List.mem_cons_of_mem _ tb_541)) (fun _ h => h) rfl d_H_leadOn_17 ?_
      refine lv_iload_n hx hb d_H_leadOn_20 rfl (lv_at hl34 2 rfl) ?_
      obtain ⟨hg41, hf42⟩ := grd_ex hf39
      refine va_iald hx hb hK hP32 4 2 rfl rfl (inB_in hg41) d_H_leadOn_21 ?_
      refine lv_iload_n hx hb d_H_leadOn_22 rfl (lv_at hl34 1 rfl) ?_
      obtain ⟨x43, hc44, hf45⟩ := ob1_ex hf42
      refine jd_ci (va_runSN (As := [.int (I28 3 x27.toNatClampNeg), .int x7]) (rest := []) cx (cm_K_holds l D ca (wC ca ad hs I28 J0) (I0 := I28) (J0 := J0) hc44 H29.size) ⟨va_cnB 2 hts (jd_gB tb_132) rfl rfl rfl (hN _ nw_2) (hts _ (List.mem_cons_of_mem _ tb_43)) ⟨by decide, by decide, rfl⟩ (by rw [hR]; decide), hts _ (List.mem_cons_of_mem _ tb_131), trivial⟩ ⟨jd_blind nWc, (jd_pre (av := [.int (I28 3 x27.toNatClampNeg), .int x7]) hP32 hK (hD I28 J0) (fun U h => nWm h hN))⟩ rfl rfl hl34.1 rfl (lv_room (Nat.le_of_ble_eq_true rfl)) d_H_leadOn_23 ⟨Nat.zero_le _, Nat.zero_le _⟩) hS33 (hD I28 J0) hA (fun H46 L47 hP48 hS49 => ?_)
      refine lv_if_eq (tgt := 44) hx hb d_H_leadOn_26 rfl (fun h50 => ?_) (fun h50 => ?_)
      · have hf51 := ifp hf45 h50
        obtain ⟨x53, e54, hf55⟩ := bnd_ex hf51
        refine lv_iinc hx hb d_H_leadOn_44 hl34 (k := 2) rfl (v := x53) (by rw [e54]; rfl) (by decide) (lv' := [(2, .int x53), (0, .ref (ad 0)), (1, .int x7)]) rfl (fun ls56 hl57 => ?_)
        refine lv_goto (tgt := 10) hx hb d_H_leadOn_47 rfl ?_
        cases hf55
        exact hc23 rfl H46 L47 ls56 hP48 hS49 (lv_sub hl57 [1, 2, 0] rfl)
      · have hf52 := ifn hf45 h50
        refine lv_aload_n hx hb d_H_leadOn_29 rfl (lv_at hl34 0 rfl) ?_
        refine va_get (D := D) (ci := 0) (v := .ref (ad 4)) (C := R_H) (T := F_H) (N := 9) hx hb hts (fun w h => List.mem_cons_of_mem _ (uw_H w h)) hown hK hP48 0 rfl rfl 3 (by decide) (hts _ (List.mem_cons_of_mem _ tb_541)) (fun _ h => h) rfl d_H_leadOn_30 ?_
        refine lv_iload_n hx hb d_H_leadOn_33 rfl (lv_at hl34 2 rfl) ?_
        refine lv_dup2_11 hx hb d_H_leadOn_34 rfl rfl ?_
        obtain ⟨hg58, hf59⟩ := grd_ex hf52
        refine va_iald hx hb hK hP48 4 2 rfl rfl (inB_in hg58) d_H_leadOn_35 ?_
        refine lv_aload_n hx hb d_H_leadOn_36 rfl (lv_at hl34 0 rfl) ?_
        refine va_get (D := D) (ci := 0) (v := .ref (ad 4)) (C := R_H) (T := F_H) (N := 9) hx hb hts (fun w h => List.mem_cons_of_mem _ (uw_H w h)) hown hK hP48 0 rfl rfl 3 (by decide) (hts _ (List.mem_cons_of_mem _ tb_541)) (fun _ h => h) rfl d_H_leadOn_37 ?_
        refine lv_iload_n hx hb d_H_leadOn_40 rfl (lv_at hl34 1 rfl) ?_
        obtain ⟨hg60, hf61⟩ := grd_ex hf59
        refine va_iald hx hb hK hP48 4 2 rfl rfl (inB_in hg60) d_H_leadOn_41 ?_
        refine lv_ior hx hb d_H_leadOn_42 ?_
        obtain ⟨hg62, hf63⟩ := grd_ex hf61
        obtain ⟨I64, e65, hf66⟩ := bnd_ex hf63
        refine va_iast hx hb hK hP48 (hD I28 J0) hS49 4 2 rfl rfl (inB_in hg62) d_H_leadOn_43 (fun H67 L68 hp71 _ hS70 => ?_)
        have hP69 : va_P D cls_all (wC ca ad hs I64 J0) H67 := by rw [e65]; exact hp71
        obtain ⟨x72, e73, hf74⟩ := bnd_ex hf66
        refine lv_iinc hx hb d_H_leadOn_44 hl34 (k := 2) rfl (v := x72) (by rw [e73]; rfl) (by decide) (lv' := [(2, .int x72), (0, .ref (ad 0)), (1, .int x7)]) rfl (fun ls75 hl76 => ?_)
        refine lv_goto (tgt := 10) hx hb d_H_leadOn_47 rfl ?_
        cases hf74
        exact hc23 rfl H67 L68 ls75 hP69 hS70 (lv_sub hl76 [1, 2, 0] rfl)
theorem d_H_turn_0 : decode b_H_turn 0 = .ok (.iconst 0, 1) := by decide +kernel
theorem d_H_turn_1 : decode b_H_turn 1 = .ok (.istore_n 1, 1) := by decide +kernel
theorem d_H_turn_2 : decode b_H_turn 2 = .ok (.iload_n 1, 1) := by decide +kernel
theorem d_H_turn_3 : decode b_H_turn 3 = .ok (.bipush 16, 2) := by decide +kernel
theorem d_H_turn_5 : decode b_H_turn 5 = .ok (.if_icmp .ge 48, 3) := by decide +kernel
theorem d_H_turn_8 : decode b_H_turn 8 = .ok (.iconst 0, 1) := by decide +kernel
theorem d_H_turn_9 : decode b_H_turn 9 = .ok (.istore_n 2, 1) := by decide +kernel
theorem d_H_turn_10 : decode b_H_turn 10 = .ok (.iload_n 2, 1) := by decide +kernel
theorem d_H_turn_11 : decode b_H_turn 11 = .ok (.bipush 16, 2) := by decide +kernel
theorem d_H_turn_13 : decode b_H_turn 13 = .ok (.if_icmp .ge 34, 3) := by decide +kernel
theorem d_H_turn_16 : decode b_H_turn 16 = .ok (.aload_n 0, 1) := by decide +kernel
theorem d_H_turn_17 : decode b_H_turn 17 = .ok (.getfield 22, 3) := by decide +kernel
theorem d_H_turn_20 : decode b_H_turn 20 = .ok (.iload_n 1, 1) := by decide +kernel
theorem d_H_turn_21 : decode b_H_turn 21 = .ok (.iaload, 1) := by decide +kernel
theorem d_H_turn_22 : decode b_H_turn 22 = .ok (.iload_n 2, 1) := by decide +kernel
theorem d_H_turn_23 : decode b_H_turn 23 = .ok (.invokestatic 53, 3) := by decide +kernel
theorem d_H_turn_26 : decode b_H_turn 26 = .ok (.ifCond .eq 15, 3) := by decide +kernel
theorem d_H_turn_29 : decode b_H_turn 29 = .ok (.aload_n 0, 1) := by decide +kernel
theorem d_H_turn_30 : decode b_H_turn 30 = .ok (.getfield 26, 3) := by decide +kernel
theorem d_H_turn_33 : decode b_H_turn 33 = .ok (.iload_n 2, 1) := by decide +kernel
theorem d_H_turn_34 : decode b_H_turn 34 = .ok (.dup2, 1) := by decide +kernel
theorem d_H_turn_35 : decode b_H_turn 35 = .ok (.iaload, 1) := by decide +kernel
theorem d_H_turn_36 : decode b_H_turn 36 = .ok (.iconst 1, 1) := by decide +kernel
theorem d_H_turn_37 : decode b_H_turn 37 = .ok (.iload_n 1, 1) := by decide +kernel
theorem d_H_turn_38 : decode b_H_turn 38 = .ok (.ishl, 1) := by decide +kernel
theorem d_H_turn_39 : decode b_H_turn 39 = .ok (.ior, 1) := by decide +kernel
theorem d_H_turn_40 : decode b_H_turn 40 = .ok (.iastore, 1) := by decide +kernel
theorem d_H_turn_41 : decode b_H_turn 41 = .ok (.iinc 2 1, 3) := by decide +kernel
theorem d_H_turn_44 : decode b_H_turn 44 = .ok (.goto (-34), 3) := by decide +kernel
theorem d_H_turn_47 : decode b_H_turn 47 = .ok (.iinc 1 1, 3) := by decide +kernel
theorem d_H_turn_50 : decode b_H_turn 50 = .ok (.goto (-48), 3) := by decide +kernel
theorem d_H_turn_53 : decode b_H_turn 53 = .ok (.return_, 1) := by decide +kernel
def fm_H_turn_B10 (x7 : Int32) (x27 : Int32) (I28 : IS) : Option (Nat × Int32 × IS) :=
  if (16 : Int32) ≤ x27 then some (1, x27, I28) else grd (inB x7 16) (ob1 (fm_K_holds (I28 3 x7.toNatClampNeg) x27) (fun x43 => if x43 = 0 then bnd (x27 + (1 : Int32)) (fun x53 => some (0, x53, I28)) else grd (inB x27 16) (grd (inB x27 16) (bnd (sI I28 4 x27.toNatClampNeg ((I28 4 x27.toNatClampNeg) ||| ((1 : Int32) <<< (x7 &&& 31)))) (fun I62 => bnd (x27 + (1 : Int32)) (fun x70 => some (0, x70, I62)))))))
def fm_H_turn_B2  (x7 : Int32) (I8 : IS) : Option (Nat × Int32 × IS) :=
  if (16 : Int32) ≤ x7 then some (1, x7, I8) else ob3 (iter (fun z : Int32 × IS => fm_H_turn_B10 x7 z.1 z.2) FU ((0 : Int32), I8)) (fun _ x76 I77 => bnd (x7 + (1 : Int32)) (fun x86 => some (0, x86, I77)))
def fm_H_turn (I0 : IS) : Option (IS) :=
  ob3 (iter (fun z : Int32 × IS => fm_H_turn_B2 z.1 z.2) FU ((0 : Int32), I0)) (fun _ x92 I93 => some I93)
set_option maxHeartbeats 4000000 in
set_option maxRecDepth 100000 in
theorem cm_H_turn (l : Launch) (D : va_G) (ca : Nat → ClassId) (ad : Nat → Nat) (hs : Nat → Option Nat) {I0 : IS} {J0 : JS} {r : IS} (hf : fm_H_turn I0 = some r) : CtV l y_H_turn (Cond.code y_H_turn b_H_turn 3 none :: TB) { frames := 1, cells := 0, slots := 0, locals := 21 } [.ref (ad 0)] D cls_all (tysC ca) NN (wC ca ad hs I0 J0) (wC ca ad hs r J0) := by
  refine jd_metV (cc := b_H_turn) (by decide) rfl (Nat.le_of_ble_eq_true rfl) (lv := [(0, .ref (ad 0))]) rfl ?_
  intro p e R s m args below meth c A Q ls cx hR hK hN hD0 hA hP hS hl hend
  have hx := cx.1
  have hb := cx.2.1
  have hml := cx.2.2.1
  have hown := cx.2.2.2.1
  have hts := cx.2.2.2.2
  have hD : ∀ I J, va_D A (wC ca ad hs I J) := fun I J => jd_Dc hD0 rfl
  unfold fm_H_turn at hf
  refine lv_iconst (v := 0) hx hb d_H_turn_0 (by decide) ?_
  refine lv_istore_n hx hb d_H_turn_1 rfl hl (by decide) (lv' := [(1, .int (0 : Int32)), (0, .ref (ad 0))]) rfl (fun ls1 hl2 => ?_)
  obtain ⟨tg91, x92, I93, ho94, hf95⟩ := ob3_ex hf
  have kx2_1 : ∀ (H96 : Heap) (L97 : List Loc) (ls98 : Array Slot), va_P D cls_all (wC ca ad hs I93 J0) H96 → va_S A s.heap H96 L97 → lv_has ls98 3 [] → W p l e R s m args below meth c H96 L97 0 0 Q (F0 m 53 ls98 []) := by
    intro H96 L97 ls98 hP99 hS100 hl101
    cases hf95
    exact hend H96 L97 53 ls98 hP99 hS100 d_H_turn_53
  refine iter_ind (C := fun z : Int32 × IS => ∀ (H9 : Heap) (L10 : List Loc) (ls11 : Array Slot), va_P D cls_all (wC ca ad hs z.2 J0) H9 → va_S A s.heap H9 L10 → lv_has ls11 3 [(0, .ref (ad 0)), (1, .int z.1)] → W p l e R s m args below meth c H9 L10 0 0 Q (F0 m 2 ls11 [])) (fun z6 o5 hz16 hc3 he4 => ?_) _ _ ho94 s.heap [] ls1 hP hS (lv_sub hl2 [1, 0] rfl)
  obtain ⟨x7, I8⟩ := z6
  intro H9 L10 ls11 hP12 hS13 hl14
  have hf15 : fm_H_turn_B2 x7 I8 = some o5 := hz16
  unfold fm_H_turn_B2 at hf15
  refine lv_iload_n hx hb d_H_turn_2 rfl (lv_at hl14 1 rfl) ?_
  refine lv_bipush (v := 16) hx hb d_H_turn_3 (by decide) ?_
  refine lv_icmp_ge (tgt := 53) hx hb d_H_turn_5 rfl (fun h17 => ?_) (fun h17 => ?_)
  · have hf18 := ifp hf15 h17
    cases hf18
    have e20 := he4 (by show (1 : Nat) ≠ 0; decide)
    cases e20
    exact kx2_1 H9 L10 ls11 hP12 hS13 (lv_sub hl14 [] rfl)
  · have hf19 := ifn hf15 h17
    refine lv_iconst (v := 0) hx hb d_H_turn_8 (by decide) ?_
    refine lv_istore_n hx hb d_H_turn_9 rfl hl14 (by decide) (lv' := [(2, .int (0 : Int32)), (0, .ref (ad 0)), (1, .int x7)]) rfl (fun ls21 hl22 => ?_)
    obtain ⟨tg75, x76, I77, ho78, hf79⟩ := ob3_ex hf19
    have kx10_1 : ∀ (H80 : Heap) (L81 : List Loc) (ls82 : Array Slot), va_P D cls_all (wC ca ad hs I77 J0) H80 → va_S A s.heap H80 L81 → lv_has ls82 3 [(0, .ref (ad 0)), (1, .int x7)] → W p l e R s m args below meth c H80 L81 0 0 Q (F0 m 47 ls82 []) := by
      intro H80 L81 ls82 hP83 hS84 hl85
      obtain ⟨x86, e87, hf88⟩ := bnd_ex hf79
      refine lv_iinc hx hb d_H_turn_47 hl85 (k := 1) rfl (v := x86) (by rw [e87]; rfl) (by decide) (lv' := [(1, .int x86), (0, .ref (ad 0))]) rfl (fun ls89 hl90 => ?_)
      refine lv_goto (tgt := 2) hx hb d_H_turn_50 rfl ?_
      cases hf88
      exact hc3 rfl H80 L81 ls89 hP83 hS84 (lv_sub hl90 [1, 0] rfl)
    refine iter_ind (C := fun z : Int32 × IS => ∀ (H29 : Heap) (L30 : List Loc) (ls31 : Array Slot), va_P D cls_all (wC ca ad hs z.2 J0) H29 → va_S A s.heap H29 L30 → lv_has ls31 3 [(0, .ref (ad 0)), (1, .int x7), (2, .int z.1)] → W p l e R s m args below meth c H29 L30 0 0 Q (F0 m 10 ls31 [])) (fun z26 o25 hz36 hc23 he24 => ?_) _ _ ho78 H9 L10 ls21 hP12 hS13 (lv_sub hl22 [1, 2, 0] rfl)
    obtain ⟨x27, I28⟩ := z26
    intro H29 L30 ls31 hP32 hS33 hl34
    have hf35 : fm_H_turn_B10 x7 x27 I28 = some o25 := hz36
    unfold fm_H_turn_B10 at hf35
    refine lv_iload_n hx hb d_H_turn_10 rfl (lv_at hl34 2 rfl) ?_
    refine lv_bipush (v := 16) hx hb d_H_turn_11 (by decide) ?_
    refine lv_icmp_ge (tgt := 47) hx hb d_H_turn_13 rfl (fun h37 => ?_) (fun h37 => ?_)
    · have hf38 := ifp hf35 h37
      cases hf38
      have e40 := he24 (by show (1 : Nat) ≠ 0; decide)
      cases e40
      exact kx10_1 H29 L30 ls31 hP32 hS33 (lv_sub hl34 [0, 1] rfl)
    · have hf39 := ifn hf35 h37
      refine lv_aload_n hx hb d_H_turn_16 rfl (lv_at hl34 0 rfl) ?_
      refine va_get (D := D) (ci := 0) (v := .ref (ad 4)) (C := R_H) (T := F_H) (N := 9) hx hb hts (fun w h => List.mem_cons_of_mem _ (uw_H w h)) hown hK hP32 0 rfl rfl 3 (by decide) (hts _ (List.mem_cons_of_mem _ tb_541)) (fun _ h => h) rfl d_H_turn_17 ?_
      refine lv_iload_n hx hb d_H_turn_20 rfl (lv_at hl34 1 rfl) ?_
      obtain ⟨hg41, hf42⟩ := grd_ex hf39
      refine va_iald hx hb hK hP32 4 2 rfl rfl (inB_in hg41) d_H_turn_21 ?_
      refine lv_iload_n hx hb d_H_turn_22 rfl (lv_at hl34 2 rfl) ?_
      obtain ⟨x43, hc44, hf45⟩ := ob1_ex hf42
      refine jd_ci (va_runSN (As := [.int (I28 3 x7.toNatClampNeg), .int x27]) (rest := []) cx (cm_K_holds l D ca (wC ca ad hs I28 J0) (I0 := I28) (J0 := J0) hc44 H29.size) ⟨va_cnB 2 hts (jd_gB tb_132) rfl rfl rfl (hN _ nw_2) (hts _ (List.mem_cons_of_mem _ tb_43)) ⟨by decide, by decide, rfl⟩ (by rw [hR]; decide), hts _ (List.mem_cons_of_mem _ tb_131), trivial⟩ ⟨jd_blind nWc, (jd_pre (av := [.int (I28 3 x7.toNatClampNeg), .int x27]) hP32 hK (hD I28 J0) (fun U h => nWm h hN))⟩ rfl rfl hl34.1 rfl (lv_room (Nat.le_of_ble_eq_true rfl)) d_H_turn_23 ⟨Nat.zero_le _, Nat.zero_le _⟩) hS33 (hD I28 J0) hA (fun H46 L47 hP48 hS49 => ?_)
      refine lv_if_eq (tgt := 41) hx hb d_H_turn_26 rfl (fun h50 => ?_) (fun h50 => ?_)
      · have hf51 := ifp hf45 h50
        obtain ⟨x53, e54, hf55⟩ := bnd_ex hf51
        refine lv_iinc hx hb d_H_turn_41 hl34 (k := 2) rfl (v := x53) (by rw [e54]; rfl) (by decide) (lv' := [(2, .int x53), (0, .ref (ad 0)), (1, .int x7)]) rfl (fun ls56 hl57 => ?_)
        refine lv_goto (tgt := 10) hx hb d_H_turn_44 rfl ?_
        cases hf55
        exact hc23 rfl H46 L47 ls56 hP48 hS49 (lv_sub hl57 [1, 2, 0] rfl)
      · have hf52 := ifn hf45 h50
        refine lv_aload_n hx hb d_H_turn_29 rfl (lv_at hl34 0 rfl) ?_
        refine va_get (D := D) (ci := 0) (v := .ref (ad 5)) (C := R_H) (T := F_H) (N := 9) hx hb hts (fun w h => List.mem_cons_of_mem _ (uw_H w h)) hown hK hP48 0 rfl rfl 4 (by decide) (hts _ (List.mem_cons_of_mem _ tb_545)) (fun _ h => h) rfl d_H_turn_30 ?_
        refine lv_iload_n hx hb d_H_turn_33 rfl (lv_at hl34 2 rfl) ?_
        refine lv_dup2_11 hx hb d_H_turn_34 rfl rfl ?_
        obtain ⟨hg58, hf59⟩ := grd_ex hf52
        refine va_iald hx hb hK hP48 5 2 rfl rfl (inB_in hg58) d_H_turn_35 ?_
        refine lv_iconst (v := 1) hx hb d_H_turn_36 (by decide) ?_
        refine lv_iload_n hx hb d_H_turn_37 rfl (lv_at hl34 1 rfl) ?_
        refine lv_ishl hx hb d_H_turn_38 ?_
        refine lv_ior hx hb d_H_turn_39 ?_
        obtain ⟨hg60, hf61⟩ := grd_ex hf59
        obtain ⟨I62, e63, hf64⟩ := bnd_ex hf61
        refine va_iast hx hb hK hP48 (hD I28 J0) hS49 5 2 rfl rfl (inB_in hg60) d_H_turn_40 (fun H65 L66 hp69 _ hS68 => ?_)
        have hP67 : va_P D cls_all (wC ca ad hs I62 J0) H65 := by rw [e63]; exact hp69
        obtain ⟨x70, e71, hf72⟩ := bnd_ex hf64
        refine lv_iinc hx hb d_H_turn_41 hl34 (k := 2) rfl (v := x70) (by rw [e71]; rfl) (by decide) (lv' := [(2, .int x70), (0, .ref (ad 0)), (1, .int x7)]) rfl (fun ls73 hl74 => ?_)
        refine lv_goto (tgt := 10) hx hb d_H_turn_44 rfl ?_
        cases hf72
        exact hc23 rfl H65 L66 ls73 hP67 hS68 (lv_sub hl74 [1, 2, 0] rfl)
theorem d_T_forget_0 : decode b_T_forget 0 = .ok (.aload_n 0, 1) := by decide +kernel
theorem d_T_forget_1 : decode b_T_forget 1 = .ok (.iconst 0, 1) := by decide +kernel
theorem d_T_forget_2 : decode b_T_forget 2 = .ok (.putfield 18, 3) := by decide +kernel
theorem d_T_forget_5 : decode b_T_forget 5 = .ok (.aload_n 0, 1) := by decide +kernel
theorem d_T_forget_6 : decode b_T_forget 6 = .ok (.lconst 0, 1) := by decide +kernel
theorem d_T_forget_7 : decode b_T_forget 7 = .ok (.putfield 22, 3) := by decide +kernel
theorem d_T_forget_10 : decode b_T_forget 10 = .ok (.return_, 1) := by decide +kernel
def fm_T_forget (I0 : IS) (J0 : JS) : Option (IS × JS) :=
  bnd (sV I0 7 (0 : Int32)) (fun I1 => bnd (sL J0 0 (0 : Int64)) (fun J9 => some (I1, J9)))
set_option maxHeartbeats 4000000 in
set_option maxRecDepth 100000 in
theorem cm_T_forget (l : Launch) (D : va_G) (ca : Nat → ClassId) (ad : Nat → Nat) (hs : Nat → Option Nat) {I0 : IS} {J0 : JS} {r : IS × JS} (hf : fm_T_forget I0 J0 = some r) : CtV l y_T_forget (Cond.code y_T_forget b_T_forget 1 none :: TB) { frames := 0, cells := 0, slots := 0, locals := 0 } [.ref (ad 6)] D cls_all (tysC ca) NN (wC ca ad hs I0 J0) (wC ca ad hs r.1 r.2) := by
  refine jd_metV (cc := b_T_forget) (by decide) rfl (Nat.le_of_ble_eq_true rfl) (lv := [(0, .ref (ad 6))]) rfl ?_
  intro p e R s m args below meth c A Q ls cx hR hK hN hD0 hA hP hS hl hend
  have hx := cx.1
  have hb := cx.2.1
  have hml := cx.2.2.1
  have hown := cx.2.2.2.1
  have hts := cx.2.2.2.2
  have hD : ∀ I J, va_D A (wC ca ad hs I J) := fun I J => jd_Dc hD0 rfl
  unfold fm_T_forget at hf
  refine lv_aload_n hx hb d_T_forget_0 rfl (lv_at hl 0 rfl) ?_
  refine lv_iconst (v := 0) hx hb d_T_forget_1 (by decide) ?_
  obtain ⟨I1, e2, hf3⟩ := bnd_ex hf
  refine va_put (D := D) (ci := 1) (v := .int (0 : Int32)) (ty := .boolean) (C := R_T) (T := F_T) (N := 4) hx hb hts (fun w h => List.mem_cons_of_mem _ (uw_T w h)) ft_T tk_T n_T hown hK hP (hD I0 J0) hS 6 rfl rfl 0 (by decide) (hts _ (List.mem_cons_of_mem _ tb_485)) (fun _ h => h) rfl (by decide +kernel) rfl rfl (Nat.le_of_ble_eq_true rfl) d_T_forget_2 (fun H4 L5 hp8 _ hS7 => ?_)
  have hP6 : va_P D cls_all (wC ca ad hs I1 J0) H4 := by rw [e2]; exact hp8
  refine lv_aload_n hx hb d_T_forget_5 rfl (lv_at hl 0 rfl) ?_
  refine lv_lconst (v := 0) hx hb d_T_forget_6 (by decide) ?_
  obtain ⟨J9, e10, hf11⟩ := bnd_ex hf3
  refine va_put (D := D) (ci := 1) (v := .long (0 : Int64)) (ty := .long) (C := R_T) (T := F_T) (N := 4) hx hb hts (fun w h => List.mem_cons_of_mem _ (uw_T w h)) ft_T tk_T n_T hown hK hP6 (hD I1 J0) hS7 6 rfl rfl 1 (by decide) (hts _ (List.mem_cons_of_mem _ tb_487)) (fun _ h => h) rfl (by decide +kernel) rfl rfl (Nat.le_of_ble_eq_true rfl) d_T_forget_7 (fun H12 L13 hp16 _ hS15 => ?_)
  have hP14 : va_P D cls_all (wC ca ad hs I1 J9) H12 := by rw [e10]; exact hp16
  cases hf11
  exact hend H12 L13 10 ls hP14 hS15 d_T_forget_10
theorem d_H_settle_0 : decode b_H_settle 0 = .ok (.aload_n 0, 1) := by decide +kernel
theorem d_H_settle_1 : decode b_H_settle 1 = .ok (.getfield 22, 3) := by decide +kernel
theorem d_H_settle_4 : decode b_H_settle 4 = .ok (.iconst 0, 1) := by decide +kernel
theorem d_H_settle_5 : decode b_H_settle 5 = .ok (.invokestatic 77, 3) := by decide +kernel
theorem d_H_settle_8 : decode b_H_settle 8 = .ok (.aload_n 0, 1) := by decide +kernel
theorem d_H_settle_9 : decode b_H_settle 9 = .ok (.getfield 26, 3) := by decide +kernel
theorem d_H_settle_12 : decode b_H_settle 12 = .ok (.iconst 0, 1) := by decide +kernel
theorem d_H_settle_13 : decode b_H_settle 13 = .ok (.invokestatic 77, 3) := by decide +kernel
theorem d_H_settle_16 : decode b_H_settle 16 = .ok (.iconst 0, 1) := by decide +kernel
theorem d_H_settle_17 : decode b_H_settle 17 = .ok (.istore_n 1, 1) := by decide +kernel
theorem d_H_settle_18 : decode b_H_settle 18 = .ok (.iload_n 1, 1) := by decide +kernel
theorem d_H_settle_19 : decode b_H_settle 19 = .ok (.aload_n 0, 1) := by decide +kernel
theorem d_H_settle_20 : decode b_H_settle 20 = .ok (.getfield 47, 3) := by decide +kernel
theorem d_H_settle_23 : decode b_H_settle 23 = .ok (.if_icmp .ge 39, 3) := by decide +kernel
theorem d_H_settle_26 : decode b_H_settle 26 = .ok (.aload_n 0, 1) := by decide +kernel
theorem d_H_settle_27 : decode b_H_settle 27 = .ok (.iload_n 1, 1) := by decide +kernel
theorem d_H_settle_28 : decode b_H_settle 28 = .ok (.invokevirtual 67, 3) := by decide +kernel
theorem d_H_settle_31 : decode b_H_settle 31 = .ok (.ifCond .eq 25, 3) := by decide +kernel
theorem d_H_settle_34 : decode b_H_settle 34 = .ok (.aload_n 0, 1) := by decide +kernel
theorem d_H_settle_35 : decode b_H_settle 35 = .ok (.getfield 22, 3) := by decide +kernel
theorem d_H_settle_38 : decode b_H_settle 38 = .ok (.aload_n 0, 1) := by decide +kernel
theorem d_H_settle_39 : decode b_H_settle 39 = .ok (.getfield 9, 3) := by decide +kernel
theorem d_H_settle_42 : decode b_H_settle 42 = .ok (.iload_n 1, 1) := by decide +kernel
theorem d_H_settle_43 : decode b_H_settle 43 = .ok (.baload, 1) := by decide +kernel
theorem d_H_settle_44 : decode b_H_settle 44 = .ok (.dup2, 1) := by decide +kernel
theorem d_H_settle_45 : decode b_H_settle 45 = .ok (.iaload, 1) := by decide +kernel
theorem d_H_settle_46 : decode b_H_settle 46 = .ok (.iconst 1, 1) := by decide +kernel
theorem d_H_settle_47 : decode b_H_settle 47 = .ok (.aload_n 0, 1) := by decide +kernel
theorem d_H_settle_48 : decode b_H_settle 48 = .ok (.getfield 15, 3) := by decide +kernel
theorem d_H_settle_51 : decode b_H_settle 51 = .ok (.iload_n 1, 1) := by decide +kernel
theorem d_H_settle_52 : decode b_H_settle 52 = .ok (.baload, 1) := by decide +kernel
theorem d_H_settle_53 : decode b_H_settle 53 = .ok (.ishl, 1) := by decide +kernel
theorem d_H_settle_54 : decode b_H_settle 54 = .ok (.ior, 1) := by decide +kernel
theorem d_H_settle_55 : decode b_H_settle 55 = .ok (.iastore, 1) := by decide +kernel
theorem d_H_settle_56 : decode b_H_settle 56 = .ok (.iinc 1 1, 3) := by decide +kernel
theorem d_H_settle_59 : decode b_H_settle 59 = .ok (.goto (-41), 3) := by decide +kernel
theorem d_H_settle_62 : decode b_H_settle 62 = .ok (.aload_n 0, 1) := by decide +kernel
theorem d_H_settle_63 : decode b_H_settle 63 = .ok (.invokevirtual 83, 3) := by decide +kernel
theorem d_H_settle_66 : decode b_H_settle 66 = .ok (.aload_n 0, 1) := by decide +kernel
theorem d_H_settle_67 : decode b_H_settle 67 = .ok (.invokevirtual 86, 3) := by decide +kernel
theorem d_H_settle_70 : decode b_H_settle 70 = .ok (.aload_n 0, 1) := by decide +kernel
theorem d_H_settle_71 : decode b_H_settle 71 = .ok (.getfield 32, 3) := by decide +kernel
theorem d_H_settle_74 : decode b_H_settle 74 = .ok (.invokevirtual 89, 3) := by decide +kernel
theorem d_H_settle_77 : decode b_H_settle 77 = .ok (.aload_n 0, 1) := by decide +kernel
theorem d_H_settle_78 : decode b_H_settle 78 = .ok (.getfield 39, 3) := by decide +kernel
theorem d_H_settle_81 : decode b_H_settle 81 = .ok (.iconst 0, 1) := by decide +kernel
theorem d_H_settle_82 : decode b_H_settle 82 = .ok (.putfield 92, 3) := by decide +kernel
theorem d_H_settle_85 : decode b_H_settle 85 = .ok (.return_, 1) := by decide +kernel
def fm_H_settle_B18  (x21 : Int32) (I22 : IS) : Option (Nat × Int32 × IS) :=
  if (I22 6 0) ≤ x21 then some (1, x21, I22) else ob1 (fm_H_inForce x21 I22) (fun x35 => if x35 = 0 then bnd (x21 + (1 : Int32)) (fun x45 => some (0, x45, I22)) else grd (inB x21 400) (grd (inB (I22 0 x21.toNatClampNeg) 16) (grd (inB x21 400) (grd (inB (I22 0 x21.toNatClampNeg) 16) (bnd (sI I22 3 (I22 0 x21.toNatClampNeg).toNatClampNeg ((I22 3 (I22 0 x21.toNatClampNeg).toNatClampNeg) ||| ((1 : Int32) <<< ((I22 1 x21.toNatClampNeg) &&& 31)))) (fun I58 => bnd (x21 + (1 : Int32)) (fun x66 => some (0, x66, I58))))))))
def fm_H_settle (I0 : IS) (J0 : JS) : Option (IS × JS) :=
  ob1 (fm_A_fillI 3 16 (0 : Int32) I0) (fun I1 => ob1 (fm_A_fillI 4 16 (0 : Int32) I1) (fun I8 => ob3 (iter (fun z : Int32 × IS => fm_H_settle_B18 z.1 z.2) FU ((0 : Int32), I8)) (fun _ x72 I73 => ob1 (fm_H_leadOn I73) (fun I82 => ob1 (fm_H_turn I82) (fun I89 => ob2 (fm_T_forget I89 J0) (fun I96 J97 => bnd (sV I96 8 (0 : Int32)) (fun I104 => some (I104, J97))))))))
set_option maxHeartbeats 4000000 in
set_option maxRecDepth 100000 in
theorem cm_H_settle (l : Launch) (D : va_G) (ca : Nat → ClassId) (ad : Nat → Nat) (hs : Nat → Option Nat) {I0 : IS} {J0 : JS} {r : IS × JS} (hf : fm_H_settle I0 J0 = some r) : CtV l y_H_settle (Cond.code y_H_settle b_H_settle 2 none :: TB) { frames := 2, cells := 0, slots := 0, locals := 43 } [.ref (ad 0)] D cls_all (tysC ca) NN (wC ca ad hs I0 J0) (wC ca ad hs r.1 r.2) := by
  refine jd_metV (cc := b_H_settle) (by decide) rfl (Nat.le_of_ble_eq_true rfl) (lv := [(0, .ref (ad 0))]) rfl ?_
  intro p e R s m args below meth c A Q ls cx hR hK hN hD0 hA hP hS hl hend
  have hx := cx.1
  have hb := cx.2.1
  have hml := cx.2.2.1
  have hown := cx.2.2.2.1
  have hts := cx.2.2.2.2
  have hD : ∀ I J, va_D A (wC ca ad hs I J) := fun I J => jd_Dc hD0 rfl
  unfold fm_H_settle at hf
  refine lv_aload_n hx hb d_H_settle_0 rfl (lv_at hl 0 rfl) ?_
  refine va_get (D := D) (ci := 0) (v := .ref (ad 4)) (C := R_H) (T := F_H) (N := 9) hx hb hts (fun w h => List.mem_cons_of_mem _ (uw_H w h)) hown hK hP 0 rfl rfl 3 (by decide) (hts _ (List.mem_cons_of_mem _ tb_541)) (fun _ h => h) rfl d_H_settle_1 ?_
  refine lv_iconst (v := 0) hx hb d_H_settle_4 (by decide) ?_
  obtain ⟨I1, hc2, hf3⟩ := ob1_ex hf
  refine jd_cv (va_runS (As := [.ref (ad 4), .int (0 : Int32)]) (rest := []) cx (cm_A_fillI l D ca (wC ca ad hs) (ad 4) (fun _ _ _ _ => rfl) (k := 3) (n := 16) (q := 4) (fun _ _ => rfl) (fun _ _ _ _ => rfl) hc2 s.heap.size) (va_cwS 2 hts (jd_gS2 tb_161 tb_103 tb_46 tb_104) rfl rfl rfl ⟨by decide, by decide, rfl⟩ (by rw [hR]; decide)) ⟨jd_blind nWc, (jd_pre (av := [.ref (ad 4), .int (0 : Int32)]) hP hK (hD I0 J0) (fun U h => nWm h hN))⟩ rfl rfl hl.1 rfl (lv_room (Nat.le_of_ble_eq_true rfl)) d_H_settle_5 ⟨Nat.zero_le _, Nat.zero_le _⟩) hS (hD I0 J0) hA (fun H4 L5 hP6 hS7 => ?_)
  refine lv_aload_n hx hb d_H_settle_8 rfl (lv_at hl 0 rfl) ?_
  refine va_get (D := D) (ci := 0) (v := .ref (ad 5)) (C := R_H) (T := F_H) (N := 9) hx hb hts (fun w h => List.mem_cons_of_mem _ (uw_H w h)) hown hK hP6 0 rfl rfl 4 (by decide) (hts _ (List.mem_cons_of_mem _ tb_545)) (fun _ h => h) rfl d_H_settle_9 ?_
  refine lv_iconst (v := 0) hx hb d_H_settle_12 (by decide) ?_
  obtain ⟨I8, hc9, hf10⟩ := ob1_ex hf3
  refine jd_cv (va_runS (As := [.ref (ad 5), .int (0 : Int32)]) (rest := []) cx (cm_A_fillI l D ca (wC ca ad hs) (ad 5) (fun _ _ _ _ => rfl) (k := 4) (n := 16) (q := 5) (fun _ _ => rfl) (fun _ _ _ _ => rfl) hc9 H4.size) (va_cwS 2 hts (jd_gS2 tb_161 tb_103 tb_46 tb_104) rfl rfl rfl ⟨by decide, by decide, rfl⟩ (by rw [hR]; decide)) ⟨jd_blind nWc, (jd_pre (av := [.ref (ad 5), .int (0 : Int32)]) hP6 hK (hD I1 J0) (fun U h => nWm h hN))⟩ rfl rfl hl.1 rfl (lv_room (Nat.le_of_ble_eq_true rfl)) d_H_settle_13 ⟨Nat.zero_le _, Nat.zero_le _⟩) hS7 (hD I1 J0) hA (fun H11 L12 hP13 hS14 => ?_)
  refine lv_iconst (v := 0) hx hb d_H_settle_16 (by decide) ?_
  refine lv_istore_n hx hb d_H_settle_17 rfl hl (by decide) (lv' := [(1, .int (0 : Int32)), (0, .ref (ad 0))]) rfl (fun ls15 hl16 => ?_)
  obtain ⟨tg71, x72, I73, ho74, hf75⟩ := ob3_ex hf10
  have kx18_1 : ∀ (H76 : Heap) (L77 : List Loc) (ls78 : Array Slot), va_P D cls_all (wC ca ad hs I73 J0) H76 → va_S A s.heap H76 L77 → lv_has ls78 2 [(0, .ref (ad 0))] → W p l e R s m args below meth c H76 L77 0 0 Q (F0 m 62 ls78 []) := by
    intro H76 L77 ls78 hP79 hS80 hl81
    refine lv_aload_n hx hb d_H_settle_62 rfl (lv_at hl81 0 rfl) ?_
    obtain ⟨I82, hc83, hf84⟩ := ob1_ex hf75
    refine jd_cv (va_runV (As := []) (rest := []) cx (cm_H_leadOn l D ca ad hs hc83 H76.size) (cwV 0 hts (jd_gV tb_163 tb_164 tb_4 tb_52 tb_165) rfl rfl rfl ⟨rfl, by decide, by decide, rfl⟩ (by rw [hR]; decide)) ⟨jd_blind nWc, (va_recv hK hP79 (ci := 0) (q0 := 0) rfl rfl), (jd_pre (av := [.ref (ad 0)]) hP79 hK (hD I73 J0) (fun U h => nWm h hN))⟩ rfl rfl hl81.1 rfl (lv_room (Nat.le_of_ble_eq_true rfl)) d_H_settle_63 ⟨Nat.zero_le _, Nat.zero_le _⟩) hS80 (hD I73 J0) hA (fun H85 L86 hP87 hS88 => ?_)
    refine lv_aload_n hx hb d_H_settle_66 rfl (lv_at hl81 0 rfl) ?_
    obtain ⟨I89, hc90, hf91⟩ := ob1_ex hf84
    refine jd_cv (va_runV (As := []) (rest := []) cx (cm_H_turn l D ca ad hs hc90 H85.size) (cwV 0 hts (jd_gV tb_166 tb_167 tb_5 tb_52 tb_168) rfl rfl rfl ⟨rfl, by decide, by decide, rfl⟩ (by rw [hR]; decide)) ⟨jd_blind nWc, (va_recv hK hP87 (ci := 0) (q0 := 0) rfl rfl), (jd_pre (av := [.ref (ad 0)]) hP87 hK (hD I82 J0) (fun U h => nWm h hN))⟩ rfl rfl hl81.1 rfl (lv_room (Nat.le_of_ble_eq_true rfl)) d_H_settle_67 ⟨Nat.zero_le _, Nat.zero_le _⟩) hS88 (hD I82 J0) hA (fun H92 L93 hP94 hS95 => ?_)
    refine lv_aload_n hx hb d_H_settle_70 rfl (lv_at hl81 0 rfl) ?_
    refine va_get (D := D) (ci := 0) (v := .ref (ad 6)) (C := R_H) (T := F_H) (N := 9) hx hb hts (fun w h => List.mem_cons_of_mem _ (uw_H w h)) hown hK hP94 0 rfl rfl 5 (by decide) (hts _ (List.mem_cons_of_mem _ tb_548)) (fun _ h => h) rfl d_H_settle_71 ?_
    obtain ⟨I96, J97, hc98, hf99⟩ := ob2_ex hf91
    refine jd_cv (va_runV (As := []) (rest := []) cx (cm_T_forget l D ca ad hs hc98 H92.size) (cwV 0 hts (jd_gV tb_169 tb_170 tb_171 tb_53 tb_172) rfl rfl rfl ⟨rfl, by decide, by decide, rfl⟩ (by rw [hR]; decide)) ⟨jd_blind nWc, (va_recv hK hP94 (ci := 1) (q0 := 6) rfl rfl), (jd_pre (av := [.ref (ad 6)]) hP94 hK (hD I89 J0) (fun U h => nWm h hN))⟩ rfl rfl hl81.1 rfl (lv_room (Nat.le_of_ble_eq_true rfl)) d_H_settle_74 ⟨Nat.zero_le _, Nat.zero_le _⟩) hS95 (hD I89 J0) hA (fun H100 L101 hP102 hS103 => ?_)
    refine lv_aload_n hx hb d_H_settle_77 rfl (lv_at hl81 0 rfl) ?_
    refine va_get (D := D) (ci := 0) (v := .ref (ad 9)) (C := R_H) (T := F_H) (N := 9) hx hb hts (fun w h => List.mem_cons_of_mem _ (uw_H w h)) hown hK hP102 0 rfl rfl 6 (by decide) (hts _ (List.mem_cons_of_mem _ tb_551)) (fun _ h => h) rfl d_H_settle_78 ?_
    refine lv_iconst (v := 0) hx hb d_H_settle_81 (by decide) ?_
    obtain ⟨I104, e105, hf106⟩ := bnd_ex hf99
    refine va_put (D := D) (ci := 2) (v := .int (0 : Int32)) (ty := .boolean) (C := R_R) (T := F_R) (N := 8) hx hb hts (fun w h => List.mem_cons_of_mem _ (uw_R w h)) ft_R tk_R n_R hown hK hP102 (hD I96 J97) hS103 9 rfl rfl 0 (by decide) (hts _ (List.mem_cons_of_mem _ tb_508)) (fun _ h => h) rfl (by decide +kernel) rfl rfl (Nat.le_of_ble_eq_true rfl) d_H_settle_82 (fun H107 L108 hp111 _ hS110 => ?_)
    have hP109 : va_P D cls_all (wC ca ad hs I104 J97) H107 := by rw [e105]; exact hp111
    cases hf106
    exact hend H107 L108 85 ls78 hP109 hS110 d_H_settle_85
  refine iter_ind (C := fun z : Int32 × IS => ∀ (H23 : Heap) (L24 : List Loc) (ls25 : Array Slot), va_P D cls_all (wC ca ad hs z.2 J0) H23 → va_S A s.heap H23 L24 → lv_has ls25 2 [(0, .ref (ad 0)), (1, .int z.1)] → W p l e R s m args below meth c H23 L24 0 0 Q (F0 m 18 ls25 [])) (fun z20 o19 hz30 hc17 he18 => ?_) _ _ ho74 H11 L12 ls15 hP13 hS14 (lv_sub hl16 [1, 0] rfl)
  obtain ⟨x21, I22⟩ := z20
  intro H23 L24 ls25 hP26 hS27 hl28
  have hf29 : fm_H_settle_B18 x21 I22 = some o19 := hz30
  unfold fm_H_settle_B18 at hf29
  refine lv_iload_n hx hb d_H_settle_18 rfl (lv_at hl28 1 rfl) ?_
  refine lv_aload_n hx hb d_H_settle_19 rfl (lv_at hl28 0 rfl) ?_
  refine va_get (D := D) (ci := 0) (v := .int (I22 6 0)) (C := R_H) (T := F_H) (N := 9) hx hb hts (fun w h => List.mem_cons_of_mem _ (uw_H w h)) hown hK hP26 0 rfl rfl 8 (by decide) (hts _ (List.mem_cons_of_mem _ tb_556)) (fun _ h => h) rfl d_H_settle_20 ?_
  refine lv_icmp_ge (tgt := 62) hx hb d_H_settle_23 rfl (fun h31 => ?_) (fun h31 => ?_)
  · have hf32 := ifp hf29 h31
    cases hf32
    have e34 := he18 (by show (1 : Nat) ≠ 0; decide)
    cases e34
    exact kx18_1 H23 L24 ls25 hP26 hS27 (lv_sub hl28 [0] rfl)
  · have hf33 := ifn hf29 h31
    refine lv_aload_n hx hb d_H_settle_26 rfl (lv_at hl28 0 rfl) ?_
    refine lv_iload_n hx hb d_H_settle_27 rfl (lv_at hl28 1 rfl) ?_
    obtain ⟨x35, hc36, hf37⟩ := ob1_ex hf33
    refine jd_ci (va_runV (As := [.int x21]) (rest := []) cx (cm_H_inForce l D ca ad hs hc36 H23.size) (cwV 1 hts (jd_gV tb_162 tb_147 tb_148 tb_52 tb_149) rfl rfl rfl ⟨rfl, by decide, by decide, rfl⟩ (by rw [hR]; decide)) ⟨jd_blind nWc, (va_recv hK hP26 (ci := 0) (q0 := 0) rfl rfl), (jd_pre (av := [.ref (ad 0), .int x21]) hP26 hK (hD I22 J0) (fun U h => nWm h hN))⟩ rfl rfl hl28.1 rfl (lv_room (Nat.le_of_ble_eq_true rfl)) d_H_settle_28 ⟨Nat.zero_le _, Nat.zero_le _⟩) hS27 (hD I22 J0) hA (fun H38 L39 hP40 hS41 => ?_)
    refine lv_if_eq (tgt := 56) hx hb d_H_settle_31 rfl (fun h42 => ?_) (fun h42 => ?_)
    · have hf43 := ifp hf37 h42
      obtain ⟨x45, e46, hf47⟩ := bnd_ex hf43
      refine lv_iinc hx hb d_H_settle_56 hl28 (k := 1) rfl (v := x45) (by rw [e46]; rfl) (by decide) (lv' := [(1, .int x45), (0, .ref (ad 0))]) rfl (fun ls48 hl49 => ?_)
      refine lv_goto (tgt := 18) hx hb d_H_settle_59 rfl ?_
      cases hf47
      exact hc17 rfl H38 L39 ls48 hP40 hS41 (lv_sub hl49 [1, 0] rfl)
    · have hf44 := ifn hf37 h42
      refine lv_aload_n hx hb d_H_settle_34 rfl (lv_at hl28 0 rfl) ?_
      refine va_get (D := D) (ci := 0) (v := .ref (ad 4)) (C := R_H) (T := F_H) (N := 9) hx hb hts (fun w h => List.mem_cons_of_mem _ (uw_H w h)) hown hK hP40 0 rfl rfl 3 (by decide) (hts _ (List.mem_cons_of_mem _ tb_541)) (fun _ h => h) rfl d_H_settle_35 ?_
      refine lv_aload_n hx hb d_H_settle_38 rfl (lv_at hl28 0 rfl) ?_
      refine va_get (D := D) (ci := 0) (v := .ref (ad 1)) (C := R_H) (T := F_H) (N := 9) hx hb hts (fun w h => List.mem_cons_of_mem _ (uw_H w h)) hown hK hP40 0 rfl rfl 0 (by decide) (hts _ (List.mem_cons_of_mem _ tb_535)) (fun _ h => h) rfl d_H_settle_39 ?_
      refine lv_iload_n hx hb d_H_settle_42 rfl (lv_at hl28 1 rfl) ?_
      obtain ⟨hg50, hf51⟩ := grd_ex hf44
      refine va_bald hx hb hK hP40 1 0 rfl rfl (inB_in hg50) d_H_settle_43 ?_
      refine lv_dup2_11 hx hb d_H_settle_44 rfl rfl ?_
      obtain ⟨hg52, hf53⟩ := grd_ex hf51
      refine va_iald hx hb hK hP40 4 2 rfl rfl (inB_in hg52) d_H_settle_45 ?_
      refine lv_iconst (v := 1) hx hb d_H_settle_46 (by decide) ?_
      refine lv_aload_n hx hb d_H_settle_47 rfl (lv_at hl28 0 rfl) ?_
      refine va_get (D := D) (ci := 0) (v := .ref (ad 2)) (C := R_H) (T := F_H) (N := 9) hx hb hts (fun w h => List.mem_cons_of_mem _ (uw_H w h)) hown hK hP40 0 rfl rfl 1 (by decide) (hts _ (List.mem_cons_of_mem _ tb_537)) (fun _ h => h) rfl d_H_settle_48 ?_
      refine lv_iload_n hx hb d_H_settle_51 rfl (lv_at hl28 1 rfl) ?_
      obtain ⟨hg54, hf55⟩ := grd_ex hf53
      refine va_bald hx hb hK hP40 2 0 rfl rfl (inB_in hg54) d_H_settle_52 ?_
      refine lv_ishl hx hb d_H_settle_53 ?_
      refine lv_ior hx hb d_H_settle_54 ?_
      obtain ⟨hg56, hf57⟩ := grd_ex hf55
      obtain ⟨I58, e59, hf60⟩ := bnd_ex hf57
      refine va_iast hx hb hK hP40 (hD I22 J0) hS41 4 2 rfl rfl (inB_in hg56) d_H_settle_55 (fun H61 L62 hp65 _ hS64 => ?_)
      have hP63 : va_P D cls_all (wC ca ad hs I58 J0) H61 := by rw [e59]; exact hp65
      obtain ⟨x66, e67, hf68⟩ := bnd_ex hf60
      refine lv_iinc hx hb d_H_settle_56 hl28 (k := 1) rfl (v := x66) (by rw [e67]; rfl) (by decide) (lv' := [(1, .int x66), (0, .ref (ad 0))]) rfl (fun ls69 hl70 => ?_)
      refine lv_goto (tgt := 18) hx hb d_H_settle_59 rfl ?_
      cases hf68
      exact hc17 rfl H61 L62 ls69 hP63 hS64 (lv_sub hl70 [1, 0] rfl)
theorem d_H_begin_0 : decode b_H_begin 0 = .ok (.aload_n 0, 1) := by decide +kernel
theorem d_H_begin_1 : decode b_H_begin 1 = .ok (.iconst 1, 1) := by decide +kernel
theorem d_H_begin_2 : decode b_H_begin 2 = .ok (.iload_n 1, 1) := by decide +kernel
theorem d_H_begin_3 : decode b_H_begin 3 = .ok (.ishl, 1) := by decide +kernel
theorem d_H_begin_4 : decode b_H_begin 4 = .ok (.iconst 1, 1) := by decide +kernel
theorem d_H_begin_5 : decode b_H_begin 5 = .ok (.isub, 1) := by decide +kernel
theorem d_H_begin_6 : decode b_H_begin 6 = .ok (.putfield 43, 3) := by decide +kernel
theorem d_H_begin_9 : decode b_H_begin 9 = .ok (.aload_n 0, 1) := by decide +kernel
theorem d_H_begin_10 : decode b_H_begin 10 = .ok (.iconst 0, 1) := by decide +kernel
theorem d_H_begin_11 : decode b_H_begin 11 = .ok (.putfield 47, 3) := by decide +kernel
theorem d_H_begin_14 : decode b_H_begin 14 = .ok (.aload_n 0, 1) := by decide +kernel
theorem d_H_begin_15 : decode b_H_begin 15 = .ok (.invokevirtual 50, 3) := by decide +kernel
theorem d_H_begin_18 : decode b_H_begin 18 = .ok (.return_, 1) := by decide +kernel
def fm_H_begin (p0 : Int32) (I0 : IS) (J0 : JS) : Option (IS × JS) :=
  bnd (sV I0 5 (((1 : Int32) <<< (p0 &&& 31)) - (1 : Int32))) (fun I1 => bnd (sV I1 6 (0 : Int32)) (fun I9 => ob2 (fm_H_settle I9 J0) (fun I17 J18 => some (I17, J18))))
set_option maxHeartbeats 4000000 in
set_option maxRecDepth 100000 in
theorem cm_H_begin (l : Launch) (D : va_G) (ca : Nat → ClassId) (ad : Nat → Nat) (hs : Nat → Option Nat) {p0 : Int32} {I0 : IS} {J0 : JS} {r : IS × JS} (hf : fm_H_begin p0 I0 J0 = some r) : CtV l y_H_begin (Cond.code y_H_begin b_H_begin 2 none :: TB) { frames := 3, cells := 0, slots := 0, locals := 64 } [.ref (ad 0), .int p0] D cls_all (tysC ca) NN (wC ca ad hs I0 J0) (wC ca ad hs r.1 r.2) := by
  refine jd_metV (cc := b_H_begin) (by decide) rfl (Nat.le_of_ble_eq_true rfl) (lv := [(0, .ref (ad 0)), (1, .int p0)]) rfl ?_
  intro p e R s m args below meth c A Q ls cx hR hK hN hD0 hA hP hS hl hend
  have hx := cx.1
  have hb := cx.2.1
  have hml := cx.2.2.1
  have hown := cx.2.2.2.1
  have hts := cx.2.2.2.2
  have hD : ∀ I J, va_D A (wC ca ad hs I J) := fun I J => jd_Dc hD0 rfl
  unfold fm_H_begin at hf
  refine lv_aload_n hx hb d_H_begin_0 rfl (lv_at hl 0 rfl) ?_
  refine lv_iconst (v := 1) hx hb d_H_begin_1 (by decide) ?_
  refine lv_iload_n hx hb d_H_begin_2 rfl (lv_at hl 1 rfl) ?_
  refine lv_ishl hx hb d_H_begin_3 ?_
  refine lv_iconst (v := 1) hx hb d_H_begin_4 (by decide) ?_
  refine lv_isub hx hb d_H_begin_5 ?_
  obtain ⟨I1, e2, hf3⟩ := bnd_ex hf
  refine va_put (D := D) (ci := 0) (v := .int (((1 : Int32) <<< (p0 &&& 31)) - (1 : Int32))) (ty := .int) (C := R_H) (T := F_H) (N := 9) hx hb hts (fun w h => List.mem_cons_of_mem _ (uw_H w h)) ft_H tk_H n_H hown hK hP (hD I0 J0) hS 0 rfl rfl 7 (by decide) (hts _ (List.mem_cons_of_mem _ tb_554)) (fun _ h => h) rfl (by decide +kernel) rfl rfl (Nat.le_of_ble_eq_true rfl) d_H_begin_6 (fun H4 L5 hp8 _ hS7 => ?_)
  have hP6 : va_P D cls_all (wC ca ad hs I1 J0) H4 := by rw [e2]; exact hp8
  refine lv_aload_n hx hb d_H_begin_9 rfl (lv_at hl 0 rfl) ?_
  refine lv_iconst (v := 0) hx hb d_H_begin_10 (by decide) ?_
  obtain ⟨I9, e10, hf11⟩ := bnd_ex hf3
  refine va_put (D := D) (ci := 0) (v := .int (0 : Int32)) (ty := .int) (C := R_H) (T := F_H) (N := 9) hx hb hts (fun w h => List.mem_cons_of_mem _ (uw_H w h)) ft_H tk_H n_H hown hK hP6 (hD I1 J0) hS7 0 rfl rfl 8 (by decide) (hts _ (List.mem_cons_of_mem _ tb_556)) (fun _ h => h) rfl (by decide +kernel) rfl rfl (Nat.le_of_ble_eq_true rfl) d_H_begin_11 (fun H12 L13 hp16 _ hS15 => ?_)
  have hP14 : va_P D cls_all (wC ca ad hs I9 J0) H12 := by rw [e10]; exact hp16
  refine lv_aload_n hx hb d_H_begin_14 rfl (lv_at hl 0 rfl) ?_
  obtain ⟨I17, J18, hc19, hf20⟩ := ob2_ex hf11
  refine jd_cv (va_runV (As := []) (rest := []) cx (cm_H_settle l D ca ad hs hc19 H12.size) (cwV 0 hts (jd_gV tb_157 tb_158 tb_3 tb_52 tb_160) rfl rfl rfl ⟨rfl, by decide, by decide, rfl⟩ (by rw [hR]; decide)) ⟨jd_blind nWc, (va_recv hK hP14 (ci := 0) (q0 := 0) rfl rfl), (jd_pre (av := [.ref (ad 0)]) hP14 hK (hD I9 J0) (fun U h => nWm h hN))⟩ rfl rfl hl.1 rfl (lv_room (Nat.le_of_ble_eq_true rfl)) d_H_begin_15 ⟨Nat.zero_le _, Nat.zero_le _⟩) hS15 (hD I9 J0) hA (fun H21 L22 hP23 hS24 => ?_)
  cases hf20
  exact hend H21 L22 18 ls hP23 hS24 d_H_begin_18
theorem d_H_write_0 : decode b_H_write 0 = .ok (.aload_n 0, 1) := by decide +kernel
theorem d_H_write_1 : decode b_H_write 1 = .ok (.getfield 9, 3) := by decide +kernel
theorem d_H_write_4 : decode b_H_write 4 = .ok (.aload_n 0, 1) := by decide +kernel
theorem d_H_write_5 : decode b_H_write 5 = .ok (.getfield 47, 3) := by decide +kernel
theorem d_H_write_8 : decode b_H_write 8 = .ok (.iload_n 1, 1) := by decide +kernel
theorem d_H_write_9 : decode b_H_write 9 = .ok (.i2b, 1) := by decide +kernel
theorem d_H_write_10 : decode b_H_write 10 = .ok (.bastore, 1) := by decide +kernel
theorem d_H_write_11 : decode b_H_write 11 = .ok (.aload_n 0, 1) := by decide +kernel
theorem d_H_write_12 : decode b_H_write 12 = .ok (.getfield 15, 3) := by decide +kernel
theorem d_H_write_15 : decode b_H_write 15 = .ok (.aload_n 0, 1) := by decide +kernel
theorem d_H_write_16 : decode b_H_write 16 = .ok (.getfield 47, 3) := by decide +kernel
theorem d_H_write_19 : decode b_H_write 19 = .ok (.iload_n 2, 1) := by decide +kernel
theorem d_H_write_20 : decode b_H_write 20 = .ok (.i2b, 1) := by decide +kernel
theorem d_H_write_21 : decode b_H_write 21 = .ok (.bastore, 1) := by decide +kernel
theorem d_H_write_22 : decode b_H_write 22 = .ok (.aload_n 0, 1) := by decide +kernel
theorem d_H_write_23 : decode b_H_write 23 = .ok (.getfield 18, 3) := by decide +kernel
theorem d_H_write_26 : decode b_H_write 26 = .ok (.aload_n 0, 1) := by decide +kernel
theorem d_H_write_27 : decode b_H_write 27 = .ok (.getfield 47, 3) := by decide +kernel
theorem d_H_write_30 : decode b_H_write 30 = .ok (.iconst 0, 1) := by decide +kernel
theorem d_H_write_31 : decode b_H_write 31 = .ok (.bastore, 1) := by decide +kernel
theorem d_H_write_32 : decode b_H_write 32 = .ok (.aload_n 0, 1) := by decide +kernel
theorem d_H_write_33 : decode b_H_write 33 = .ok (.dup, 1) := by decide +kernel
theorem d_H_write_34 : decode b_H_write 34 = .ok (.getfield 47, 3) := by decide +kernel
theorem d_H_write_37 : decode b_H_write 37 = .ok (.iconst 1, 1) := by decide +kernel
theorem d_H_write_38 : decode b_H_write 38 = .ok (.iadd, 1) := by decide +kernel
theorem d_H_write_39 : decode b_H_write 39 = .ok (.putfield 47, 3) := by decide +kernel
theorem d_H_write_42 : decode b_H_write 42 = .ok (.aload_n 0, 1) := by decide +kernel
theorem d_H_write_43 : decode b_H_write 43 = .ok (.invokevirtual 50, 3) := by decide +kernel
theorem d_H_write_46 : decode b_H_write 46 = .ok (.return_, 1) := by decide +kernel
def fm_H_write (p0 : Int32) (p1 : Int32) (I0 : IS) (J0 : JS) : Option (IS × JS) :=
  grd (inB (I0 6 0) 400) (bnd (sI I0 0 (I0 6 0).toNatClampNeg (vp_nar .byte p0.toInt8.toInt32)) (fun I3 => grd (inB (I3 6 0) 400) (bnd (sI I3 1 (I3 6 0).toNatClampNeg (vp_nar .byte p1.toInt8.toInt32)) (fun I13 => grd (inB (I13 6 0) 400) (bnd (sI I13 2 (I13 6 0).toNatClampNeg (vp_nar .boolean (0 : Int32))) (fun I23 => bnd (sV I23 6 ((I23 6 0) + (1 : Int32))) (fun I31 => ob2 (fm_H_settle I31 J0) (fun I39 J40 => some (I39, J40)))))))))
set_option maxHeartbeats 4000000 in
set_option maxRecDepth 100000 in
theorem cm_H_write (l : Launch) (D : va_G) (ca : Nat → ClassId) (ad : Nat → Nat) (hs : Nat → Option Nat) {p0 : Int32} {p1 : Int32} {I0 : IS} {J0 : JS} {r : IS × JS} (hf : fm_H_write p0 p1 I0 J0 = some r) : CtV l y_H_write (Cond.code y_H_write b_H_write 3 none :: TB) { frames := 3, cells := 0, slots := 0, locals := 64 } [.ref (ad 0), .int p0, .int p1] D cls_all (tysC ca) NN (wC ca ad hs I0 J0) (wC ca ad hs r.1 r.2) := by
  refine jd_metV (cc := b_H_write) (by decide) rfl (Nat.le_of_ble_eq_true rfl) (lv := [(0, .ref (ad 0)), (1, .int p0), (2, .int p1)]) rfl ?_
  intro p e R s m args below meth c A Q ls cx hR hK hN hD0 hA hP hS hl hend
  have hx := cx.1
  have hb := cx.2.1
  have hml := cx.2.2.1
  have hown := cx.2.2.2.1
  have hts := cx.2.2.2.2
  have hD : ∀ I J, va_D A (wC ca ad hs I J) := fun I J => jd_Dc hD0 rfl
  unfold fm_H_write at hf
  refine lv_aload_n hx hb d_H_write_0 rfl (lv_at hl 0 rfl) ?_
  refine va_get (D := D) (ci := 0) (v := .ref (ad 1)) (C := R_H) (T := F_H) (N := 9) hx hb hts (fun w h => List.mem_cons_of_mem _ (uw_H w h)) hown hK hP 0 rfl rfl 0 (by decide) (hts _ (List.mem_cons_of_mem _ tb_535)) (fun _ h => h) rfl d_H_write_1 ?_
  refine lv_aload_n hx hb d_H_write_4 rfl (lv_at hl 0 rfl) ?_
  refine va_get (D := D) (ci := 0) (v := .int (I0 6 0)) (C := R_H) (T := F_H) (N := 9) hx hb hts (fun w h => List.mem_cons_of_mem _ (uw_H w h)) hown hK hP 0 rfl rfl 8 (by decide) (hts _ (List.mem_cons_of_mem _ tb_556)) (fun _ h => h) rfl d_H_write_5 ?_
  refine lv_iload_n hx hb d_H_write_8 rfl (lv_at hl 1 rfl) ?_
  refine lv_i2b hx hb d_H_write_9 rfl ?_
  obtain ⟨hg1, hf2⟩ := grd_ex hf
  obtain ⟨I3, e4, hf5⟩ := bnd_ex hf2
  refine va_bast hx hb hK hP (hD I0 J0) hS 1 0 rfl rfl (inB_in hg1) d_H_write_10 (fun H6 L7 hp10 _ hS9 => ?_)
  have hP8 : va_P D cls_all (wC ca ad hs I3 J0) H6 := by rw [e4]; exact hp10
  refine lv_aload_n hx hb d_H_write_11 rfl (lv_at hl 0 rfl) ?_
  refine va_get (D := D) (ci := 0) (v := .ref (ad 2)) (C := R_H) (T := F_H) (N := 9) hx hb hts (fun w h => List.mem_cons_of_mem _ (uw_H w h)) hown hK hP8 0 rfl rfl 1 (by decide) (hts _ (List.mem_cons_of_mem _ tb_537)) (fun _ h => h) rfl d_H_write_12 ?_
  refine lv_aload_n hx hb d_H_write_15 rfl (lv_at hl 0 rfl) ?_
  refine va_get (D := D) (ci := 0) (v := .int (I3 6 0)) (C := R_H) (T := F_H) (N := 9) hx hb hts (fun w h => List.mem_cons_of_mem _ (uw_H w h)) hown hK hP8 0 rfl rfl 8 (by decide) (hts _ (List.mem_cons_of_mem _ tb_556)) (fun _ h => h) rfl d_H_write_16 ?_
  refine lv_iload_n hx hb d_H_write_19 rfl (lv_at hl 2 rfl) ?_
  refine lv_i2b hx hb d_H_write_20 rfl ?_
  obtain ⟨hg11, hf12⟩ := grd_ex hf5
  obtain ⟨I13, e14, hf15⟩ := bnd_ex hf12
  refine va_bast hx hb hK hP8 (hD I3 J0) hS9 2 0 rfl rfl (inB_in hg11) d_H_write_21 (fun H16 L17 hp20 _ hS19 => ?_)
  have hP18 : va_P D cls_all (wC ca ad hs I13 J0) H16 := by rw [e14]; exact hp20
  refine lv_aload_n hx hb d_H_write_22 rfl (lv_at hl 0 rfl) ?_
  refine va_get (D := D) (ci := 0) (v := .ref (ad 3)) (C := R_H) (T := F_H) (N := 9) hx hb hts (fun w h => List.mem_cons_of_mem _ (uw_H w h)) hown hK hP18 0 rfl rfl 2 (by decide) (hts _ (List.mem_cons_of_mem _ tb_539)) (fun _ h => h) rfl d_H_write_23 ?_
  refine lv_aload_n hx hb d_H_write_26 rfl (lv_at hl 0 rfl) ?_
  refine va_get (D := D) (ci := 0) (v := .int (I13 6 0)) (C := R_H) (T := F_H) (N := 9) hx hb hts (fun w h => List.mem_cons_of_mem _ (uw_H w h)) hown hK hP18 0 rfl rfl 8 (by decide) (hts _ (List.mem_cons_of_mem _ tb_556)) (fun _ h => h) rfl d_H_write_27 ?_
  refine lv_iconst (v := 0) hx hb d_H_write_30 (by decide) ?_
  obtain ⟨hg21, hf22⟩ := grd_ex hf15
  obtain ⟨I23, e24, hf25⟩ := bnd_ex hf22
  refine va_zast hx hb hK hP18 (hD I13 J0) hS19 3 1 rfl rfl (inB_in hg21) d_H_write_31 (fun H26 L27 hp30 _ hS29 => ?_)
  have hP28 : va_P D cls_all (wC ca ad hs I23 J0) H26 := by rw [e24]; exact hp30
  refine lv_aload_n hx hb d_H_write_32 rfl (lv_at hl 0 rfl) ?_
  refine lv_dup hx hb d_H_write_33 rfl ?_
  refine va_get (D := D) (ci := 0) (v := .int (I23 6 0)) (C := R_H) (T := F_H) (N := 9) hx hb hts (fun w h => List.mem_cons_of_mem _ (uw_H w h)) hown hK hP28 0 rfl rfl 8 (by decide) (hts _ (List.mem_cons_of_mem _ tb_556)) (fun _ h => h) rfl d_H_write_34 ?_
  refine lv_iconst (v := 1) hx hb d_H_write_37 (by decide) ?_
  refine lv_iadd hx hb d_H_write_38 ?_
  obtain ⟨I31, e32, hf33⟩ := bnd_ex hf25
  refine va_put (D := D) (ci := 0) (v := .int ((I23 6 0) + (1 : Int32))) (ty := .int) (C := R_H) (T := F_H) (N := 9) hx hb hts (fun w h => List.mem_cons_of_mem _ (uw_H w h)) ft_H tk_H n_H hown hK hP28 (hD I23 J0) hS29 0 rfl rfl 8 (by decide) (hts _ (List.mem_cons_of_mem _ tb_556)) (fun _ h => h) rfl (by decide +kernel) rfl rfl (Nat.le_of_ble_eq_true rfl) d_H_write_39 (fun H34 L35 hp38 _ hS37 => ?_)
  have hP36 : va_P D cls_all (wC ca ad hs I31 J0) H34 := by rw [e32]; exact hp38
  refine lv_aload_n hx hb d_H_write_42 rfl (lv_at hl 0 rfl) ?_
  obtain ⟨I39, J40, hc41, hf42⟩ := ob2_ex hf33
  refine jd_cv (va_runV (As := []) (rest := []) cx (cm_H_settle l D ca ad hs hc41 H34.size) (cwV 0 hts (jd_gV tb_157 tb_158 tb_3 tb_52 tb_160) rfl rfl rfl ⟨rfl, by decide, by decide, rfl⟩ (by rw [hR]; decide)) ⟨jd_blind nWc, (va_recv hK hP36 (ci := 0) (q0 := 0) rfl rfl), (jd_pre (av := [.ref (ad 0)]) hP36 hK (hD I31 J0) (fun U h => nWm h hN))⟩ rfl rfl hl.1 rfl (lv_room (Nat.le_of_ble_eq_true rfl)) d_H_write_43 ⟨Nat.zero_le _, Nat.zero_le _⟩) hS37 (hD I31 J0) hA (fun H43 L44 hP45 hS46 => ?_)
  cases hf42
  exact hend H43 L44 46 ls hP45 hS46 d_H_write_46
theorem d_H_takeBack_0 : decode b_H_takeBack 0 = .ok (.aload_n 0, 1) := by decide +kernel
theorem d_H_takeBack_1 : decode b_H_takeBack 1 = .ok (.getfield 18, 3) := by decide +kernel
theorem d_H_takeBack_4 : decode b_H_takeBack 4 = .ok (.iload_n 1, 1) := by decide +kernel
theorem d_H_takeBack_5 : decode b_H_takeBack 5 = .ok (.iconst 1, 1) := by decide +kernel
theorem d_H_takeBack_6 : decode b_H_takeBack 6 = .ok (.bastore, 1) := by decide +kernel
theorem d_H_takeBack_7 : decode b_H_takeBack 7 = .ok (.aload_n 0, 1) := by decide +kernel
theorem d_H_takeBack_8 : decode b_H_takeBack 8 = .ok (.invokevirtual 50, 3) := by decide +kernel
theorem d_H_takeBack_11 : decode b_H_takeBack 11 = .ok (.return_, 1) := by decide +kernel
def fm_H_takeBack (p0 : Int32) (I0 : IS) (J0 : JS) : Option (IS × JS) :=
  grd (inB p0 400) (bnd (sI I0 2 p0.toNatClampNeg (vp_nar .boolean (1 : Int32))) (fun I3 => ob2 (fm_H_settle I3 J0) (fun I11 J12 => some (I11, J12))))
set_option maxHeartbeats 4000000 in
set_option maxRecDepth 100000 in
theorem cm_H_takeBack (l : Launch) (D : va_G) (ca : Nat → ClassId) (ad : Nat → Nat) (hs : Nat → Option Nat) {p0 : Int32} {I0 : IS} {J0 : JS} {r : IS × JS} (hf : fm_H_takeBack p0 I0 J0 = some r) : CtV l y_H_takeBack (Cond.code y_H_takeBack b_H_takeBack 2 none :: TB) { frames := 3, cells := 0, slots := 0, locals := 64 } [.ref (ad 0), .int p0] D cls_all (tysC ca) NN (wC ca ad hs I0 J0) (wC ca ad hs r.1 r.2) := by
  refine jd_metV (cc := b_H_takeBack) (by decide) rfl (Nat.le_of_ble_eq_true rfl) (lv := [(0, .ref (ad 0)), (1, .int p0)]) rfl ?_
  intro p e R s m args below meth c A Q ls cx hR hK hN hD0 hA hP hS hl hend
  have hx := cx.1
  have hb := cx.2.1
  have hml := cx.2.2.1
  have hown := cx.2.2.2.1
  have hts := cx.2.2.2.2
  have hD : ∀ I J, va_D A (wC ca ad hs I J) := fun I J => jd_Dc hD0 rfl
  unfold fm_H_takeBack at hf
  refine lv_aload_n hx hb d_H_takeBack_0 rfl (lv_at hl 0 rfl) ?_
  refine va_get (D := D) (ci := 0) (v := .ref (ad 3)) (C := R_H) (T := F_H) (N := 9) hx hb hts (fun w h => List.mem_cons_of_mem _ (uw_H w h)) hown hK hP 0 rfl rfl 2 (by decide) (hts _ (List.mem_cons_of_mem _ tb_539)) (fun _ h => h) rfl d_H_takeBack_1 ?_
  refine lv_iload_n hx hb d_H_takeBack_4 rfl (lv_at hl 1 rfl) ?_
  refine lv_iconst (v := 1) hx hb d_H_takeBack_5 (by decide) ?_
  obtain ⟨hg1, hf2⟩ := grd_ex hf
  obtain ⟨I3, e4, hf5⟩ := bnd_ex hf2
  refine va_zast hx hb hK hP (hD I0 J0) hS 3 1 rfl rfl (inB_in hg1) d_H_takeBack_6 (fun H6 L7 hp10 _ hS9 => ?_)
  have hP8 : va_P D cls_all (wC ca ad hs I3 J0) H6 := by rw [e4]; exact hp10
  refine lv_aload_n hx hb d_H_takeBack_7 rfl (lv_at hl 0 rfl) ?_
  obtain ⟨I11, J12, hc13, hf14⟩ := ob2_ex hf5
  refine jd_cv (va_runV (As := []) (rest := []) cx (cm_H_settle l D ca ad hs hc13 H6.size) (cwV 0 hts (jd_gV tb_157 tb_158 tb_3 tb_52 tb_160) rfl rfl rfl ⟨rfl, by decide, by decide, rfl⟩ (by rw [hR]; decide)) ⟨jd_blind nWc, (va_recv hK hP8 (ci := 0) (q0 := 0) rfl rfl), (jd_pre (av := [.ref (ad 0)]) hP8 hK (hD I3 J0) (fun U h => nWm h hN))⟩ rfl rfl hl.1 rfl (lv_room (Nat.le_of_ble_eq_true rfl)) d_H_takeBack_8 ⟨Nat.zero_le _, Nat.zero_le _⟩) hS9 (hD I3 J0) hA (fun H15 L16 hP17 hS18 => ?_)
  cases hf14
  exact hend H15 L16 11 ls hP17 hS18 d_H_takeBack_11
theorem d_H_remove_0 : decode b_H_remove 0 = .ok (.aload_n 0, 1) := by decide +kernel
theorem d_H_remove_1 : decode b_H_remove 1 = .ok (.dup, 1) := by decide +kernel
theorem d_H_remove_2 : decode b_H_remove 2 = .ok (.getfield 43, 3) := by decide +kernel
theorem d_H_remove_5 : decode b_H_remove 5 = .ok (.iconst 1, 1) := by decide +kernel
theorem d_H_remove_6 : decode b_H_remove 6 = .ok (.iload_n 1, 1) := by decide +kernel
theorem d_H_remove_7 : decode b_H_remove 7 = .ok (.ishl, 1) := by decide +kernel
theorem d_H_remove_8 : decode b_H_remove 8 = .ok (.iconst (-1), 1) := by decide +kernel
theorem d_H_remove_9 : decode b_H_remove 9 = .ok (.ixor, 1) := by decide +kernel
theorem d_H_remove_10 : decode b_H_remove 10 = .ok (.iand, 1) := by decide +kernel
theorem d_H_remove_11 : decode b_H_remove 11 = .ok (.putfield 43, 3) := by decide +kernel
theorem d_H_remove_14 : decode b_H_remove 14 = .ok (.aload_n 0, 1) := by decide +kernel
theorem d_H_remove_15 : decode b_H_remove 15 = .ok (.invokevirtual 50, 3) := by decide +kernel
theorem d_H_remove_18 : decode b_H_remove 18 = .ok (.return_, 1) := by decide +kernel
def fm_H_remove (p0 : Int32) (I0 : IS) (J0 : JS) : Option (IS × JS) :=
  bnd (sV I0 5 ((I0 5 0) &&& (((1 : Int32) <<< (p0 &&& 31)) ^^^ (-1 : Int32)))) (fun I1 => ob2 (fm_H_settle I1 J0) (fun I9 J10 => some (I9, J10)))
set_option maxHeartbeats 4000000 in
set_option maxRecDepth 100000 in
theorem cm_H_remove (l : Launch) (D : va_G) (ca : Nat → ClassId) (ad : Nat → Nat) (hs : Nat → Option Nat) {p0 : Int32} {I0 : IS} {J0 : JS} {r : IS × JS} (hf : fm_H_remove p0 I0 J0 = some r) : CtV l y_H_remove (Cond.code y_H_remove b_H_remove 2 none :: TB) { frames := 3, cells := 0, slots := 0, locals := 64 } [.ref (ad 0), .int p0] D cls_all (tysC ca) NN (wC ca ad hs I0 J0) (wC ca ad hs r.1 r.2) := by
  refine jd_metV (cc := b_H_remove) (by decide) rfl (Nat.le_of_ble_eq_true rfl) (lv := [(0, .ref (ad 0)), (1, .int p0)]) rfl ?_
  intro p e R s m args below meth c A Q ls cx hR hK hN hD0 hA hP hS hl hend
  have hx := cx.1
  have hb := cx.2.1
  have hml := cx.2.2.1
  have hown := cx.2.2.2.1
  have hts := cx.2.2.2.2
  have hD : ∀ I J, va_D A (wC ca ad hs I J) := fun I J => jd_Dc hD0 rfl
  unfold fm_H_remove at hf
  refine lv_aload_n hx hb d_H_remove_0 rfl (lv_at hl 0 rfl) ?_
  refine lv_dup hx hb d_H_remove_1 rfl ?_
  refine va_get (D := D) (ci := 0) (v := .int (I0 5 0)) (C := R_H) (T := F_H) (N := 9) hx hb hts (fun w h => List.mem_cons_of_mem _ (uw_H w h)) hown hK hP 0 rfl rfl 7 (by decide) (hts _ (List.mem_cons_of_mem _ tb_554)) (fun _ h => h) rfl d_H_remove_2 ?_
  refine lv_iconst (v := 1) hx hb d_H_remove_5 (by decide) ?_
  refine lv_iload_n hx hb d_H_remove_6 rfl (lv_at hl 1 rfl) ?_
  refine lv_ishl hx hb d_H_remove_7 ?_
  refine lv_iconst (v := -1) hx hb d_H_remove_8 (by decide) ?_
  refine lv_ixor hx hb d_H_remove_9 ?_
  refine lv_iand hx hb d_H_remove_10 ?_
  obtain ⟨I1, e2, hf3⟩ := bnd_ex hf
  refine va_put (D := D) (ci := 0) (v := .int ((I0 5 0) &&& (((1 : Int32) <<< (p0 &&& 31)) ^^^ (-1 : Int32)))) (ty := .int) (C := R_H) (T := F_H) (N := 9) hx hb hts (fun w h => List.mem_cons_of_mem _ (uw_H w h)) ft_H tk_H n_H hown hK hP (hD I0 J0) hS 0 rfl rfl 7 (by decide) (hts _ (List.mem_cons_of_mem _ tb_554)) (fun _ h => h) rfl (by decide +kernel) rfl rfl (Nat.le_of_ble_eq_true rfl) d_H_remove_11 (fun H4 L5 hp8 _ hS7 => ?_)
  have hP6 : va_P D cls_all (wC ca ad hs I1 J0) H4 := by rw [e2]; exact hp8
  refine lv_aload_n hx hb d_H_remove_14 rfl (lv_at hl 0 rfl) ?_
  obtain ⟨I9, J10, hc11, hf12⟩ := ob2_ex hf3
  refine jd_cv (va_runV (As := []) (rest := []) cx (cm_H_settle l D ca ad hs hc11 H4.size) (cwV 0 hts (jd_gV tb_157 tb_158 tb_3 tb_52 tb_160) rfl rfl rfl ⟨rfl, by decide, by decide, rfl⟩ (by rw [hR]; decide)) ⟨jd_blind nWc, (va_recv hK hP6 (ci := 0) (q0 := 0) rfl rfl), (jd_pre (av := [.ref (ad 0)]) hP6 hK (hD I1 J0) (fun U h => nWm h hN))⟩ rfl rfl hl.1 rfl (lv_room (Nat.le_of_ble_eq_true rfl)) d_H_remove_15 ⟨Nat.zero_le _, Nat.zero_le _⟩) hS7 (hD I1 J0) hA (fun H13 L14 hP15 hS16 => ?_)
  cases hf12
  exact hend H13 L14 18 ls hP15 hS16 d_H_remove_18
