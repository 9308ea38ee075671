def fm_K_find_n (p0 : Int32) : Option (Unit) :=
  if p0 < 0 then some () else if p0 < (12 : Int32) then grd (inB p0 12) (some ()) else some ()
set_option maxHeartbeats 4000000 in
set_option maxRecDepth 100000 in
theorem cm_K_find_n (l : Launch) (D : va_G) (ca : Nat → ClassId) (ad : Nat → Nat) (hs : Nat → Option Nat) {p0 : Int32} {I0 : IS} {J0 : JS} {r : Unit} (hh : vp_in p0 12 → hs p0.toNatClampNeg = none) (hf : fm_K_find_n p0 = some r) : CtQ l y_K_find (Cond.code y_K_find b_K_find 2 (some (.object "JuryDesk$Heat")) :: TB) { frames := 0, cells := 0, slots := 0, locals := 0 } [.ref (ad 15), .int p0] D cls_all (tysC ca) NN (wD ca ad hs I0 J0) (wD ca ad hs I0 J0) none := by
  refine jd_metQ (cc := b_K_find) (by decide) rfl (Nat.le_of_ble_eq_true rfl) (lv := [(0, .ref (ad 15)), (1, .int p0)]) rfl ?_
  intro p e R s m args below meth c A Q ls cx hR hK hN hD0 hA hP hS hl hend
  have hx := cx.1
  have hb := cx.2.1
  have hml := cx.2.2.1
  have hown := cx.2.2.2.1
  have hts := cx.2.2.2.2
  have hD : ∀ I J, va_D A (wD ca ad hs I J) := fun I J => jd_Dc hD0 rfl
  unfold fm_K_find_n at hf
  refine lv_iload_n hx hb d_K_find_0 rfl (lv_at hl 1 rfl) ?_
  refine lv_if_lt (tgt := 10) hx hb d_K_find_1 rfl (fun h1 => ?_) (fun h1 => ?_)
  · have hf2 := ifp hf h1
    refine lv_null hx hb d_K_find_10 ?_
    refine lv_goto (tgt := 20) hx hb d_K_find_11 rfl ?_
    cases hf2
    exact hend s.heap [] 20 ls hP hS d_K_find_20
  · have hf3 := ifn hf h1
    refine lv_iload_n hx hb d_K_find_4 rfl (lv_at hl 1 rfl) ?_
    refine lv_bipush (v := 12) hx hb d_K_find_5 (by decide) ?_
    refine lv_icmp_lt (tgt := 14) hx hb d_K_find_7 rfl (fun h4 => ?_) (fun h4 => ?_)
    · have hf5 := ifp hf3 h4
      refine lv_aload_n hx hb d_K_find_14 rfl (lv_at hl 0 rfl) ?_
      refine va_get (D := D) (ci := 3) (v := .ref (ad 16)) (C := R_K) (T := F_K) (N := 5) hx hb hts (fun w h => List.mem_cons_of_mem _ (uw_K w h)) hown hK hP 0 rfl rfl 0 (by decide) (hts _ (List.mem_cons_of_mem _ tb_105)) (fun _ h => h) rfl d_K_find_15 ?_
      refine lv_iload_n hx hb d_K_find_18 rfl (lv_at hl 1 rfl) ?_
      obtain ⟨hg7, hf8⟩ := grd_ex hf5
      refine jd_aldN hx hb hK hP 1 4 rfl rfl (inB_in hg7) (hh (inB_in hg7)) d_K_find_19 ?_
      cases hf8
      exact hend s.heap [] 20 ls hP hS d_K_find_20
    · have hf6 := ifn hf3 h4
      refine lv_null hx hb d_K_find_10 ?_
      refine lv_goto (tgt := 20) hx hb d_K_find_11 rfl ?_
      cases hf6
      exact hend s.heap [] 20 ls hP hS d_K_find_20
def fm_K_better_n (p0 : Int32) (p1 : Int32) (p2 : Int32) : Option (Int32) :=
  ob1 (fm_K_find_n p0) (fun _ => some (-1 : Int32))
set_option maxHeartbeats 4000000 in
set_option maxRecDepth 100000 in
theorem cm_K_better_n (l : Launch) (D : va_G) (ca : Nat → ClassId) (ad : Nat → Nat) (hs : Nat → Option Nat) {p0 : Int32} {p1 : Int32} {p2 : Int32} {I0 : IS} {J0 : JS} {r : Int32} (hh : vp_in p0 12 → hs p0.toNatClampNeg = none) (hf : fm_K_better_n p0 p1 p2 = some r) : CtI l y_K_better (Cond.code y_K_better b_K_better 5 (some .int) :: TB) { frames := 1, cells := 0, slots := 0, locals := 21 } [.ref (ad 15), .int p0, .int p1, .int p2] D cls_all (tysC ca) NN (wD ca ad hs I0 J0) (wD ca ad hs I0 J0) r := by
  refine jd_metI (cc := b_K_better) (by decide) rfl (Nat.le_of_ble_eq_true rfl) (lv := [(0, .ref (ad 15)), (1, .int p0), (2, .int p1), (3, .int p2)]) rfl ?_
  intro p e R s m args below meth c A Q ls cx hR hK hN hD0 hA hP hS hl hend
  have hx := cx.1
  have hb := cx.2.1
  have hml := cx.2.2.1
  have hown := cx.2.2.2.1
  have hts := cx.2.2.2.2
  have hD : ∀ I J, va_D A (wD ca ad hs I J) := fun I J => jd_Dc hD0 rfl
  unfold fm_K_better_n at hf
  refine lv_aload_n hx hb d_K_better_0 rfl (lv_at hl 0 rfl) ?_
  refine lv_iload_n hx hb d_K_better_1 rfl (lv_at hl 1 rfl) ?_
  obtain ⟨_, hc1, hf2⟩ := ob1_ex hf
  refine jd_cq (va_runV (As := [.int p0]) (rest := []) cx (cm_K_find_n l D ca ad hs hh hc1 s.heap.size) (cwV 1 hts (jd_gV tb_124 tb_125 tb_0 tb_43 tb_126) rfl rfl rfl ⟨rfl, by decide, by decide, rfl⟩ (by rw [hR]; decide)) ⟨jd_blind nWc, (va_recv hK hP (ci := 3) (q0 := 0) rfl rfl), (jd_pre (av := [.ref (ad 15), .int p0]) hP hK (hD I0 J0) (fun U h => nWm h hN))⟩ rfl rfl hl.1 rfl (lv_room (Nat.le_of_ble_eq_true rfl)) d_K_better_2 ⟨Nat.zero_le _, Nat.zero_le _⟩) hS (hD I0 J0) hA (fun H3 L4 hP5 hS6 => ?_)
  refine lv_astoreN hx hb d_K_better_5 hl (by decide) (lv' := [(4, .null), (0, .ref (ad 15)), (1, .int p0), (2, .int p1), (3, .int p2)]) rfl (fun ls7 hl8 => ?_)
  refine lv_aloadN hx hb d_K_better_7 (lv_at hl8 0 rfl) ?_
  refine lv_ifnullN (tgt := 30) hx hb d_K_better_9 rfl ?_
  refine lv_iconst (v := -1) hx hb d_K_better_30 (by decide) ?_
  cases hf2
  exact hend H3 L4 31 ls7 hP5 hS6 d_K_better_31
def fm_K_withdraw_n (p0 : Int32) (p1 : Int32) : Option (Int32) :=
  ob1 (fm_K_find_n p0) (fun _ => some (0 : Int32))
set_option maxHeartbeats 4000000 in
set_option maxRecDepth 100000 in
theorem cm_K_withdraw_n (l : Launch) (D : va_G) (ca : Nat → ClassId) (ad : Nat → Nat) (hs : Nat → Option Nat) {p0 : Int32} {p1 : Int32} {I0 : IS} {J0 : JS} {r : Int32} (hh : vp_in p0 12 → hs p0.toNatClampNeg = none) (hf : fm_K_withdraw_n p0 p1 = some r) : CtI l y_K_withdraw (Cond.code y_K_withdraw b_K_withdraw 4 (some .boolean) :: TB) { frames := 1, cells := 0, slots := 0, locals := 21 } [.ref (ad 15), .int p0, .int p1] D cls_all (tysC ca) NN (wD ca ad hs I0 J0) (wD ca ad hs I0 J0) r := by
  refine jd_metZ (cc := b_K_withdraw) (by decide) rfl (Nat.le_of_ble_eq_true rfl) (lv := [(0, .ref (ad 15)), (1, .int p0), (2, .int p1)]) rfl ?_
  intro p e R s m args below meth c A Q ls cx hR hK hN hD0 hA hP hS hl hend
  have hx := cx.1
  have hb := cx.2.1
  have hml := cx.2.2.1
  have hown := cx.2.2.2.1
  have hts := cx.2.2.2.2
  have hD : ∀ I J, va_D A (wD ca ad hs I J) := fun I J => jd_Dc hD0 rfl
  unfold fm_K_withdraw_n at hf
  refine lv_aload_n hx hb d_K_withdraw_0 rfl (lv_at hl 0 rfl) ?_
  refine lv_iload_n hx hb d_K_withdraw_1 rfl (lv_at hl 1 rfl) ?_
  obtain ⟨_, hc1, hf2⟩ := ob1_ex hf
  refine jd_cq (va_runV (As := [.int p0]) (rest := []) cx (cm_K_find_n l D ca ad hs hh hc1 s.heap.size) (cwV 1 hts (jd_gV tb_124 tb_125 tb_0 tb_43 tb_126) rfl rfl rfl ⟨rfl, by decide, by decide, rfl⟩ (by rw [hR]; decide)) ⟨jd_blind nWc, (va_recv hK hP (ci := 3) (q0 := 0) rfl rfl), (jd_pre (av := [.ref (ad 15), .int p0]) hP hK (hD I0 J0) (fun U h => nWm h hN))⟩ rfl rfl hl.1 rfl (lv_room (Nat.le_of_ble_eq_true rfl)) d_K_withdraw_2 ⟨Nat.zero_le _, Nat.zero_le _⟩) hS (hD I0 J0) hA (fun H3 L4 hP5 hS6 => ?_)
  refine lv_astore_nN hx hb d_K_withdraw_5 rfl hl (by decide) (lv' := [(3, .null), (0, .ref (ad 15)), (1, .int p0), (2, .int p1)]) rfl (fun ls7 hl8 => ?_)
  refine lv_aload_nN hx hb d_K_withdraw_6 rfl (lv_at hl8 0 rfl) ?_
  refine lv_ifnullN (tgt := 34) hx hb d_K_withdraw_7 rfl ?_
  refine lv_iconst (v := 0) hx hb d_K_withdraw_34 (by decide) ?_
  cases hf2
  exact hend H3 L4 35 ls7 (show narrow .boolean (.int (0 : Int32)) = .int (0 : Int32) from rfl) hP5 hS6 d_K_withdraw_35
def fm_K_scratch_n (p0 : Int32) (p1 : Int32) : Option (Int32) :=
  ob1 (fm_K_find_n p0) (fun _ => some (0 : Int32))
set_option maxHeartbeats 4000000 in
set_option maxRecDepth 100000 in
theorem cm_K_scratch_n (l : Launch) (D : va_G) (ca : Nat → ClassId) (ad : Nat → Nat) (hs : Nat → Option Nat) {p0 : Int32} {p1 : Int32} {I0 : IS} {J0 : JS} {r : Int32} (hh : vp_in p0 12 → hs p0.toNatClampNeg = none) (hf : fm_K_scratch_n p0 p1 = some r) : CtI l y_K_scratch (Cond.code y_K_scratch b_K_scratch 4 (some .boolean) :: TB) { frames := 1, cells := 0, slots := 0, locals := 21 } [.ref (ad 15), .int p0, .int p1] D cls_all (tysC ca) NN (wD ca ad hs I0 J0) (wD ca ad hs I0 J0) r := by
  refine jd_metZ (cc := b_K_scratch) (by decide) rfl (Nat.le_of_ble_eq_true rfl) (lv := [(0, .ref (ad 15)), (1, .int p0), (2, .int p1)]) rfl ?_
  intro p e R s m args below meth c A Q ls cx hR hK hN hD0 hA hP hS hl hend
  have hx := cx.1
  have hb := cx.2.1
  have hml := cx.2.2.1
  have hown := cx.2.2.2.1
  have hts := cx.2.2.2.2
  have hD : ∀ I J, va_D A (wD ca ad hs I J) := fun I J => jd_Dc hD0 rfl
  unfold fm_K_scratch_n at hf
  refine lv_aload_n hx hb d_K_scratch_0 rfl (lv_at hl 0 rfl) ?_
  refine lv_iload_n hx hb d_K_scratch_1 rfl (lv_at hl 1 rfl) ?_
  obtain ⟨_, hc1, hf2⟩ := ob1_ex hf
  refine jd_cq (va_runV (As := [.int p0]) (rest := []) cx (cm_K_find_n l D ca ad hs hh hc1 s.heap.size) (cwV 1 hts (jd_gV tb_124 tb_125 tb_0 tb_43 tb_126) rfl rfl rfl ⟨rfl, by decide, by decide, rfl⟩ (by rw [hR]; decide)) ⟨jd_blind nWc, (va_recv hK hP (ci := 3) (q0 := 0) rfl rfl), (jd_pre (av := [.ref (ad 15), .int p0]) hP hK (hD I0 J0) (fun U h => nWm h hN))⟩ rfl rfl hl.1 rfl (lv_room (Nat.le_of_ble_eq_true rfl)) d_K_scratch_2 ⟨Nat.zero_le _, Nat.zero_le _⟩) hS (hD I0 J0) hA (fun H3 L4 hP5 hS6 => ?_)
  refine lv_astore_nN hx hb d_K_scratch_5 rfl hl (by decide) (lv' := [(3, .null), (0, .ref (ad 15)), (1, .int p0), (2, .int p1)]) rfl (fun ls7 hl8 => ?_)
  refine lv_aload_nN hx hb d_K_scratch_6 rfl (lv_at hl8 0 rfl) ?_
  refine lv_ifnullN (tgt := 26) hx hb d_K_scratch_7 rfl ?_
  refine lv_iconst (v := 0) hx hb d_K_scratch_26 (by decide) ?_
  cases hf2
  exact hend H3 L4 27 ls7 (show narrow .boolean (.int (0 : Int32)) = .int (0 : Int32) from rfl) hP5 hS6 d_K_scratch_27
def fm_K_settled_n (p0 : Int32) (p1 : Int32) (p2 : Int32) : Option (Int32) :=
  ob1 (fm_K_find_n p0) (fun _ => some (0 : Int32))
set_option maxHeartbeats 4000000 in
set_option maxRecDepth 100000 in
theorem cm_K_settled_n (l : Launch) (D : va_G) (ca : Nat → ClassId) (ad : Nat → Nat) (hs : Nat → Option Nat) {p0 : Int32} {p1 : Int32} {p2 : Int32} {I0 : IS} {J0 : JS} {r : Int32} (hh : vp_in p0 12 → hs p0.toNatClampNeg = none) (hf : fm_K_settled_n p0 p1 p2 = some r) : CtI l y_K_settled (Cond.code y_K_settled b_K_settled 5 (some .boolean) :: TB) { frames := 1, cells := 0, slots := 0, locals := 21 } [.ref (ad 15), .int p0, .int p1, .int p2] D cls_all (tysC ca) NN (wD ca ad hs I0 J0) (wD ca ad hs I0 J0) r := by
  refine jd_metZ (cc := b_K_settled) (by decide) rfl (Nat.le_of_ble_eq_true rfl) (lv := [(0, .ref (ad 15)), (1, .int p0), (2, .int p1), (3, .int p2)]) rfl ?_
  intro p e R s m args below meth c A Q ls cx hR hK hN hD0 hA hP hS hl hend
  have hx := cx.1
  have hb := cx.2.1
  have hml := cx.2.2.1
  have hown := cx.2.2.2.1
  have hts := cx.2.2.2.2
  have hD : ∀ I J, va_D A (wD ca ad hs I J) := fun I J => jd_Dc hD0 rfl
  unfold fm_K_settled_n at hf
  refine lv_aload_n hx hb d_K_settled_0 rfl (lv_at hl 0 rfl) ?_
  refine lv_iload_n hx hb d_K_settled_1 rfl (lv_at hl 1 rfl) ?_
  obtain ⟨_, hc1, hf2⟩ := ob1_ex hf
  refine jd_cq (va_runV (As := [.int p0]) (rest := []) cx (cm_K_find_n l D ca ad hs hh hc1 s.heap.size) (cwV 1 hts (jd_gV tb_124 tb_125 tb_0 tb_43 tb_126) rfl rfl rfl ⟨rfl, by decide, by decide, rfl⟩ (by rw [hR]; decide)) ⟨jd_blind nWc, (va_recv hK hP (ci := 3) (q0 := 0) rfl rfl), (jd_pre (av := [.ref (ad 15), .int p0]) hP hK (hD I0 J0) (fun U h => nWm h hN))⟩ rfl rfl hl.1 rfl (lv_room (Nat.le_of_ble_eq_true rfl)) d_K_settled_2 ⟨Nat.zero_le _, Nat.zero_le _⟩) hS (hD I0 J0) hA (fun H3 L4 hP5 hS6 => ?_)
  refine lv_astoreN hx hb d_K_settled_5 hl (by decide) (lv' := [(4, .null), (0, .ref (ad 15)), (1, .int p0), (2, .int p1), (3, .int p2)]) rfl (fun ls7 hl8 => ?_)
  refine lv_aloadN hx hb d_K_settled_7 (lv_at hl8 0 rfl) ?_
  refine lv_ifnullN (tgt := 26) hx hb d_K_settled_9 rfl ?_
  refine lv_iconst (v := 0) hx hb d_K_settled_26 (by decide) ?_
  cases hf2
  exact hend H3 L4 27 ls7 (show narrow .boolean (.int (0 : Int32)) = .int (0 : Int32) from rfl) hP5 hS6 d_K_settled_27
def fm_K_direct_n (p0 : Int32) (p1 : Int32) (p2 : Int32) : Option (Int32) :=
  ob1 (fm_K_find_n p0) (fun _ => some (0 : Int32))
set_option maxHeartbeats 4000000 in
set_option maxRecDepth 100000 in
theorem cm_K_direct_n (l : Launch) (D : va_G) (ca : Nat → ClassId) (ad : Nat → Nat) (hs : Nat → Option Nat) {p0 : Int32} {p1 : Int32} {p2 : Int32} {I0 : IS} {J0 : JS} {r : Int32} (hh : vp_in p0 12 → hs p0.toNatClampNeg = none) (hf : fm_K_direct_n p0 p1 p2 = some r) : CtI l y_K_direct (Cond.code y_K_direct b_K_direct 5 (some .boolean) :: TB) { frames := 1, cells := 0, slots := 0, locals := 21 } [.ref (ad 15), .int p0, .int p1, .int p2] D cls_all (tysC ca) NN (wD ca ad hs I0 J0) (wD ca ad hs I0 J0) r := by
  refine jd_metZ (cc := b_K_direct) (by decide) rfl (Nat.le_of_ble_eq_true rfl) (lv := [(0, .ref (ad 15)), (1, .int p0), (2, .int p1), (3, .int p2)]) rfl ?_
  intro p e R s m args below meth c A Q ls cx hR hK hN hD0 hA hP hS hl hend
  have hx := cx.1
  have hb := cx.2.1
  have hml := cx.2.2.1
  have hown := cx.2.2.2.1
  have hts := cx.2.2.2.2
  have hD : ∀ I J, va_D A (wD ca ad hs I J) := fun I J => jd_Dc hD0 rfl
  unfold fm_K_direct_n at hf
  refine lv_aload_n hx hb d_K_direct_0 rfl (lv_at hl 0 rfl) ?_
  refine lv_iload_n hx hb d_K_direct_1 rfl (lv_at hl 1 rfl) ?_
  obtain ⟨_, hc1, hf2⟩ := ob1_ex hf
  refine jd_cq (va_runV (As := [.int p0]) (rest := []) cx (cm_K_find_n l D ca ad hs hh hc1 s.heap.size) (cwV 1 hts (jd_gV tb_124 tb_125 tb_0 tb_43 tb_126) rfl rfl rfl ⟨rfl, by decide, by decide, rfl⟩ (by rw [hR]; decide)) ⟨jd_blind nWc, (va_recv hK hP (ci := 3) (q0 := 0) rfl rfl), (jd_pre (av := [.ref (ad 15), .int p0]) hP hK (hD I0 J0) (fun U h => nWm h hN))⟩ rfl rfl hl.1 rfl (lv_room (Nat.le_of_ble_eq_true rfl)) d_K_direct_2 ⟨Nat.zero_le _, Nat.zero_le _⟩) hS (hD I0 J0) hA (fun H3 L4 hP5 hS6 => ?_)
  refine lv_astoreN hx hb d_K_direct_5 hl (by decide) (lv' := [(4, .null), (0, .ref (ad 15)), (1, .int p0), (2, .int p1), (3, .int p2)]) rfl (fun ls7 hl8 => ?_)
  refine lv_aloadN hx hb d_K_direct_7 (lv_at hl8 0 rfl) ?_
  refine lv_ifnullN (tgt := 44) hx hb d_K_direct_9 rfl ?_
  refine lv_iconst (v := 0) hx hb d_K_direct_44 (by decide) ?_
  cases hf2
  exact hend H3 L4 45 ls7 (show narrow .boolean (.int (0 : Int32)) = .int (0 : Int32) from rfl) hP5 hS6 d_K_direct_45
def fm_K_orders_n (p0 : Int32) : Option (Int64) :=
  ob1 (fm_K_find_n p0) (fun _ => some (0 : Int64))
set_option maxHeartbeats 4000000 in
set_option maxRecDepth 100000 in
theorem cm_K_orders_n (l : Launch) (D : va_G) (ca : Nat → ClassId) (ad : Nat → Nat) (hs : Nat → Option Nat) {p0 : Int32} {I0 : IS} {J0 : JS} {r : Int64} (hh : vp_in p0 12 → hs p0.toNatClampNeg = none) (hf : fm_K_orders_n p0 = some r) : CtL l y_K_orders (Cond.code y_K_orders b_K_orders 3 (some .long) :: TB) { frames := 1, cells := 0, slots := 0, locals := 21 } [.ref (ad 15), .int p0] D cls_all (tysC ca) NN (wD ca ad hs I0 J0) (wD ca ad hs I0 J0) r := by
  refine jd_metL (cc := b_K_orders) (by decide) rfl (Nat.le_of_ble_eq_true rfl) (lv := [(0, .ref (ad 15)), (1, .int p0)]) rfl ?_
  intro p e R s m args below meth c A Q ls cx hR hK hN hD0 hA hP hS hl hend
  have hx := cx.1
  have hb := cx.2.1
  have hml := cx.2.2.1
  have hown := cx.2.2.2.1
  have hts := cx.2.2.2.2
  have hD : ∀ I J, va_D A (wD ca ad hs I J) := fun I J => jd_Dc hD0 rfl
  unfold fm_K_orders_n at hf
  refine lv_aload_n hx hb d_K_orders_0 rfl (lv_at hl 0 rfl) ?_
  refine lv_iload_n hx hb d_K_orders_1 rfl (lv_at hl 1 rfl) ?_
  obtain ⟨_, hc1, hf2⟩ := ob1_ex hf
  refine jd_cq (va_runV (As := [.int p0]) (rest := []) cx (cm_K_find_n l D ca ad hs hh hc1 s.heap.size) (cwV 1 hts (jd_gV tb_124 tb_125 tb_0 tb_43 tb_126) rfl rfl rfl ⟨rfl, by decide, by decide, rfl⟩ (by rw [hR]; decide)) ⟨jd_blind nWc, (va_recv hK hP (ci := 3) (q0 := 0) rfl rfl), (jd_pre (av := [.ref (ad 15), .int p0]) hP hK (hD I0 J0) (fun U h => nWm h hN))⟩ rfl rfl hl.1 rfl (lv_room (Nat.le_of_ble_eq_true rfl)) d_K_orders_2 ⟨Nat.zero_le _, Nat.zero_le _⟩) hS (hD I0 J0) hA (fun H3 L4 hP5 hS6 => ?_)
  refine lv_astore_nN hx hb d_K_orders_5 rfl hl (by decide) (lv' := [(2, .null), (0, .ref (ad 15)), (1, .int p0)]) rfl (fun ls7 hl8 => ?_)
  refine lv_aload_nN hx hb d_K_orders_6 rfl (lv_at hl8 0 rfl) ?_
  refine lv_ifnonnullN hx hb d_K_orders_7 ?_
  refine lv_lconst (v := 0) hx hb d_K_orders_10 (by decide) ?_
  refine lv_goto (tgt := 20) hx hb d_K_orders_11 rfl ?_
  cases hf2
  exact hend H3 L4 20 ls7 hP5 hS6 d_K_orders_20
def fm_K_atRank_n (p0 : Int32) (p1 : Int32) (p2 : Int32) : Option (Int64) :=
  ob1 (fm_K_find_n p0) (fun _ => some (0 : Int64))
set_option maxHeartbeats 4000000 in
set_option maxRecDepth 100000 in
theorem cm_K_atRank_n (l : Launch) (D : va_G) (ca : Nat → ClassId) (ad : Nat → Nat) (hs : Nat → Option Nat) {p0 : Int32} {p1 : Int32} {p2 : Int32} {I0 : IS} {J0 : JS} {r : Int64} (hh : vp_in p0 12 → hs p0.toNatClampNeg = none) (hf : fm_K_atRank_n p0 p1 p2 = some r) : CtL l y_K_atRank (Cond.code y_K_atRank b_K_atRank 5 (some .long) :: TB) { frames := 1, cells := 0, slots := 0, locals := 21 } [.ref (ad 15), .int p0, .int p1, .int p2] D cls_all (tysC ca) NN (wD ca ad hs I0 J0) (wD ca ad hs I0 J0) r := by
  refine jd_metL (cc := b_K_atRank) (by decide) rfl (Nat.le_of_ble_eq_true rfl) (lv := [(0, .ref (ad 15)), (1, .int p0), (2, .int p1), (3, .int p2)]) rfl ?_
  intro p e R s m args below meth c A Q ls cx hR hK hN hD0 hA hP hS hl hend
  have hx := cx.1
  have hb := cx.2.1
  have hml := cx.2.2.1
  have hown := cx.2.2.2.1
  have hts := cx.2.2.2.2
  have hD : ∀ I J, va_D A (wD ca ad hs I J) := fun I J => jd_Dc hD0 rfl
  unfold fm_K_atRank_n at hf
  refine lv_aload_n hx hb d_K_atRank_0 rfl (lv_at hl 0 rfl) ?_
  refine lv_iload_n hx hb d_K_atRank_1 rfl (lv_at hl 1 rfl) ?_
  obtain ⟨_, hc1, hf2⟩ := ob1_ex hf
  refine jd_cq (va_runV (As := [.int p0]) (rest := []) cx (cm_K_find_n l D ca ad hs hh hc1 s.heap.size) (cwV 1 hts (jd_gV tb_124 tb_125 tb_0 tb_43 tb_126) rfl rfl rfl ⟨rfl, by decide, by decide, rfl⟩ (by rw [hR]; decide)) ⟨jd_blind nWc, (va_recv hK hP (ci := 3) (q0 := 0) rfl rfl), (jd_pre (av := [.ref (ad 15), .int p0]) hP hK (hD I0 J0) (fun U h => nWm h hN))⟩ rfl rfl hl.1 rfl (lv_room (Nat.le_of_ble_eq_true rfl)) d_K_atRank_2 ⟨Nat.zero_le _, Nat.zero_le _⟩) hS (hD I0 J0) hA (fun H3 L4 hP5 hS6 => ?_)
  refine lv_astoreN hx hb d_K_atRank_5 hl (by decide) (lv' := [(4, .null), (0, .ref (ad 15)), (1, .int p0), (2, .int p1), (3, .int p2)]) rfl (fun ls7 hl8 => ?_)
  refine lv_aloadN hx hb d_K_atRank_7 (lv_at hl8 0 rfl) ?_
  refine lv_ifnullN (tgt := 32) hx hb d_K_atRank_9 rfl ?_
  refine lv_lconst (v := 0) hx hb d_K_atRank_32 (by decide) ?_
  cases hf2
  exact hend H3 L4 33 ls7 hP5 hS6 d_K_atRank_33
def fm_K_before_n (p0 : Int32) (p1 : Int32) (p2 : Int32) : Option (Int64) :=
  ob1 (fm_K_find_n p0) (fun _ => some (0 : Int64))
set_option maxHeartbeats 4000000 in
set_option maxRecDepth 100000 in
theorem cm_K_before_n (l : Launch) (D : va_G) (ca : Nat → ClassId) (ad : Nat → Nat) (hs : Nat → Option Nat) {p0 : Int32} {p1 : Int32} {p2 : Int32} {I0 : IS} {J0 : JS} {r : Int64} (hh : vp_in p0 12 → hs p0.toNatClampNeg = none) (hf : fm_K_before_n p0 p1 p2 = some r) : CtL l y_K_before (Cond.code y_K_before b_K_before 5 (some .long) :: TB) { frames := 1, cells := 0, slots := 0, locals := 21 } [.ref (ad 15), .int p0, .int p1, .int p2] D cls_all (tysC ca) NN (wD ca ad hs I0 J0) (wD ca ad hs I0 J0) r := by
  refine jd_metL (cc := b_K_before) (by decide) rfl (Nat.le_of_ble_eq_true rfl) (lv := [(0, .ref (ad 15)), (1, .int p0), (2, .int p1), (3, .int p2)]) rfl ?_
  intro p e R s m args below meth c A Q ls cx hR hK hN hD0 hA hP hS hl hend
  have hx := cx.1
  have hb := cx.2.1
  have hml := cx.2.2.1
  have hown := cx.2.2.2.1
  have hts := cx.2.2.2.2
  have hD : ∀ I J, va_D A (wD ca ad hs I J) := fun I J => jd_Dc hD0 rfl
  unfold fm_K_before_n at hf
  refine lv_aload_n hx hb d_K_before_0 rfl (lv_at hl 0 rfl) ?_
  refine lv_iload_n hx hb d_K_before_1 rfl (lv_at hl 1 rfl) ?_
  obtain ⟨_, hc1, hf2⟩ := ob1_ex hf
  refine jd_cq (va_runV (As := [.int p0]) (rest := []) cx (cm_K_find_n l D ca ad hs hh hc1 s.heap.size) (cwV 1 hts (jd_gV tb_124 tb_125 tb_0 tb_43 tb_126) rfl rfl rfl ⟨rfl, by decide, by decide, rfl⟩ (by rw [hR]; decide)) ⟨jd_blind nWc, (va_recv hK hP (ci := 3) (q0 := 0) rfl rfl), (jd_pre (av := [.ref (ad 15), .int p0]) hP hK (hD I0 J0) (fun U h => nWm h hN))⟩ rfl rfl hl.1 rfl (lv_room (Nat.le_of_ble_eq_true rfl)) d_K_before_2 ⟨Nat.zero_le _, Nat.zero_le _⟩) hS (hD I0 J0) hA (fun H3 L4 hP5 hS6 => ?_)
  refine lv_astoreN hx hb d_K_before_5 hl (by decide) (lv' := [(4, .null), (0, .ref (ad 15)), (1, .int p0), (2, .int p1), (3, .int p2)]) rfl (fun ls7 hl8 => ?_)
  refine lv_aloadN hx hb d_K_before_7 (lv_at hl8 0 rfl) ?_
  refine lv_ifnullN (tgt := 35) hx hb d_K_before_9 rfl ?_
  refine lv_lconst (v := 0) hx hb d_K_before_35 (by decide) ?_
  cases hf2
  exact hend H3 L4 36 ls7 hP5 hS6 d_K_before_36
def fm_K_meanRank_n (p0 : Int32) (p1 : Int32) (p2 : Int32) : Option (Int64) :=
  ob1 (fm_K_find_n p0) (fun _ => some (0 : Int64))
set_option maxHeartbeats 4000000 in
set_option maxRecDepth 100000 in
theorem cm_K_meanRank_n (l : Launch) (D : va_G) (ca : Nat → ClassId) (ad : Nat → Nat) (hs : Nat → Option Nat) {p0 : Int32} {p1 : Int32} {p2 : Int32} {I0 : IS} {J0 : JS} {r : Int64} (hh : vp_in p0 12 → hs p0.toNatClampNeg = none) (hf : fm_K_meanRank_n p0 p1 p2 = some r) : CtL l y_K_meanRank (Cond.code y_K_meanRank b_K_meanRank 5 (some .long) :: TB) { frames := 1, cells := 0, slots := 0, locals := 21 } [.ref (ad 15), .int p0, .int p1, .int p2] D cls_all (tysC ca) NN (wD ca ad hs I0 J0) (wD ca ad hs I0 J0) r := by
  refine jd_metL (cc := b_K_meanRank) (by decide) rfl (Nat.le_of_ble_eq_true rfl) (lv := [(0, .ref (ad 15)), (1, .int p0), (2, .int p1), (3, .int p2)]) rfl ?_
  intro p e R s m args below meth c A Q ls cx hR hK hN hD0 hA hP hS hl hend
  have hx := cx.1
  have hb := cx.2.1
  have hml := cx.2.2.1
  have hown := cx.2.2.2.1
  have hts := cx.2.2.2.2
  have hD : ∀ I J, va_D A (wD ca ad hs I J) := fun I J => jd_Dc hD0 rfl
  unfold fm_K_meanRank_n at hf
  refine lv_aload_n hx hb d_K_meanRank_0 rfl (lv_at hl 0 rfl) ?_
  refine lv_iload_n hx hb d_K_meanRank_1 rfl (lv_at hl 1 rfl) ?_
  obtain ⟨_, hc1, hf2⟩ := ob1_ex hf
  refine jd_cq (va_runV (As := [.int p0]) (rest := []) cx (cm_K_find_n l D ca ad hs hh hc1 s.heap.size) (cwV 1 hts (jd_gV tb_124 tb_125 tb_0 tb_43 tb_126) rfl rfl rfl ⟨rfl, by decide, by decide, rfl⟩ (by rw [hR]; decide)) ⟨jd_blind nWc, (va_recv hK hP (ci := 3) (q0 := 0) rfl rfl), (jd_pre (av := [.ref (ad 15), .int p0]) hP hK (hD I0 J0) (fun U h => nWm h hN))⟩ rfl rfl hl.1 rfl (lv_room (Nat.le_of_ble_eq_true rfl)) d_K_meanRank_2 ⟨Nat.zero_le _, Nat.zero_le _⟩) hS (hD I0 J0) hA (fun H3 L4 hP5 hS6 => ?_)
  refine lv_astoreN hx hb d_K_meanRank_5 hl (by decide) (lv' := [(4, .null), (0, .ref (ad 15)), (1, .int p0), (2, .int p1), (3, .int p2)]) rfl (fun ls7 hl8 => ?_)
  refine lv_aloadN hx hb d_K_meanRank_7 (lv_at hl8 0 rfl) ?_
  refine lv_ifnullN (tgt := 21) hx hb d_K_meanRank_9 rfl ?_
  refine lv_lconst (v := 0) hx hb d_K_meanRank_21 (by decide) ?_
  cases hf2
  exact hend H3 L4 22 ls7 hP5 hS6 d_K_meanRank_22
def fm_K_order_n (p0 : Int32) (p1 : Int64) (p2 : Int32) : Option (Int32) :=
  ob1 (fm_K_find_n p0) (fun _ => some (-1 : Int32))
set_option maxHeartbeats 4000000 in
set_option maxRecDepth 100000 in
theorem cm_K_order_n (l : Launch) (D : va_G) (ca : Nat → ClassId) (ad : Nat → Nat) (hs : Nat → Option Nat) {p0 : Int32} {p1 : Int64} {p2 : Int32} {I0 : IS} {J0 : JS} {r : Int32} (hh : vp_in p0 12 → hs p0.toNatClampNeg = none) (hf : fm_K_order_n p0 p1 p2 = some r) : CtI l y_K_order (Cond.code y_K_order b_K_order 6 (some .int) :: TB) { frames := 1, cells := 0, slots := 0, locals := 21 } [.ref (ad 15), .int p0, .long p1, .int p2] D cls_all (tysC ca) NN (wD ca ad hs I0 J0) (wD ca ad hs I0 J0) r := by
  refine jd_metI (cc := b_K_order) (by decide) rfl (Nat.le_of_ble_eq_true rfl) (lv := [(0, .ref (ad 15)), (1, .int p0), (2, .long p1), (4, .int p2)]) rfl ?_
  intro p e R s m args below meth c A Q ls cx hR hK hN hD0 hA hP hS hl hend
  have hx := cx.1
  have hb := cx.2.1
  have hml := cx.2.2.1
  have hown := cx.2.2.2.1
  have hts := cx.2.2.2.2
  have hD : ∀ I J, va_D A (wD ca ad hs I J) := fun I J => jd_Dc hD0 rfl
  unfold fm_K_order_n at hf
  refine lv_aload_n hx hb d_K_order_0 rfl (lv_at hl 0 rfl) ?_
  refine lv_iload_n hx hb d_K_order_1 rfl (lv_at hl 1 rfl) ?_
  obtain ⟨_, hc1, hf2⟩ := ob1_ex hf
  refine jd_cq (va_runV (As := [.int p0]) (rest := []) cx (cm_K_find_n l D ca ad hs hh hc1 s.heap.size) (cwV 1 hts (jd_gV tb_124 tb_125 tb_0 tb_43 tb_126) rfl rfl rfl ⟨rfl, by decide, by decide, rfl⟩ (by rw [hR]; decide)) ⟨jd_blind nWc, (va_recv hK hP (ci := 3) (q0 := 0) rfl rfl), (jd_pre (av := [.ref (ad 15), .int p0]) hP hK (hD I0 J0) (fun U h => nWm h hN))⟩ rfl rfl hl.1 rfl (lv_room (Nat.le_of_ble_eq_true rfl)) d_K_order_2 ⟨Nat.zero_le _, Nat.zero_le _⟩) hS (hD I0 J0) hA (fun H3 L4 hP5 hS6 => ?_)
  refine lv_astoreN hx hb d_K_order_5 hl (by decide) (lv' := [(5, .null), (0, .ref (ad 15)), (1, .int p0), (2, .long p1), (4, .int p2)]) rfl (fun ls7 hl8 => ?_)
  refine lv_aloadN hx hb d_K_order_7 (lv_at hl8 0 rfl) ?_
  refine lv_ifnullN (tgt := 46) hx hb d_K_order_9 rfl ?_
  refine lv_iconst (v := -1) hx hb d_K_order_46 (by decide) ?_
  cases hf2
  exact hend H3 L4 47 ls7 hP5 hS6 d_K_order_47
def fm_K_numberOf_n (p0 : Int32) : Option (Int64) :=
  ob1 (fm_K_find_n p0) (fun _ => some (-1 : Int64))
set_option maxHeartbeats 4000000 in
set_option maxRecDepth 100000 in
theorem cm_K_numberOf_n (l : Launch) (D : va_G) (ca : Nat → ClassId) (ad : Nat → Nat) (hs : Nat → Option Nat) {p0 : Int32} {I0 : IS} {J0 : JS} {r : Int64} (hh : vp_in p0 12 → hs p0.toNatClampNeg = none) (hf : fm_K_numberOf_n p0 = some r) : CtL l y_K_numberOf (Cond.code y_K_numberOf b_K_numberOf 3 (some .long) :: TB) { frames := 1, cells := 0, slots := 0, locals := 21 } [.ref (ad 15), .int p0] D cls_all (tysC ca) NN (wD ca ad hs I0 J0) (wD ca ad hs I0 J0) r := by
  refine jd_metL (cc := b_K_numberOf) (by decide) rfl (Nat.le_of_ble_eq_true rfl) (lv := [(0, .ref (ad 15)), (1, .int p0)]) rfl ?_
  intro p e R s m args below meth c A Q ls cx hR hK hN hD0 hA hP hS hl hend
  have hx := cx.1
  have hb := cx.2.1
  have hml := cx.2.2.1
  have hown := cx.2.2.2.1
  have hts := cx.2.2.2.2
  have hD : ∀ I J, va_D A (wD ca ad hs I J) := fun I J => jd_Dc hD0 rfl
  unfold fm_K_numberOf_n at hf
  refine lv_aload_n hx hb d_K_numberOf_0 rfl (lv_at hl 0 rfl) ?_
  refine lv_iload_n hx hb d_K_numberOf_1 rfl (lv_at hl 1 rfl) ?_
  obtain ⟨_, hc1, hf2⟩ := ob1_ex hf
  refine jd_cq (va_runV (As := [.int p0]) (rest := []) cx (cm_K_find_n l D ca ad hs hh hc1 s.heap.size) (cwV 1 hts (jd_gV tb_124 tb_125 tb_0 tb_43 tb_126) rfl rfl rfl ⟨rfl, by decide, by decide, rfl⟩ (by rw [hR]; decide)) ⟨jd_blind nWc, (va_recv hK hP (ci := 3) (q0 := 0) rfl rfl), (jd_pre (av := [.ref (ad 15), .int p0]) hP hK (hD I0 J0) (fun U h => nWm h hN))⟩ rfl rfl hl.1 rfl (lv_room (Nat.le_of_ble_eq_true rfl)) d_K_numberOf_2 ⟨Nat.zero_le _, Nat.zero_le _⟩) hS (hD I0 J0) hA (fun H3 L4 hP5 hS6 => ?_)
  refine lv_astore_nN hx hb d_K_numberOf_5 rfl hl (by decide) (lv' := [(2, .null), (0, .ref (ad 15)), (1, .int p0)]) rfl (fun ls7 hl8 => ?_)
  refine lv_aload_nN hx hb d_K_numberOf_6 rfl (lv_at hl8 0 rfl) ?_
  refine lv_ifnullN (tgt := 21) hx hb d_K_numberOf_7 rfl ?_
  refine lv_ldc2 (v := -1) hx hb hown (hts _ (List.mem_cons_of_mem _ tb_336)) d_K_numberOf_21 ?_
  cases hf2
  exact hend H3 L4 24 ls7 hP5 hS6 d_K_numberOf_24
def fm_K_ask_n (p0 : Int32) (p1 : Int32) : Option (Int32) :=
  ob1 (fm_K_find_n p0) (fun _ => some (-1 : Int32))
set_option maxHeartbeats 4000000 in
set_option maxRecDepth 100000 in
theorem cm_K_ask_n (l : Launch) (D : va_G) (ca : Nat → ClassId) (ad : Nat → Nat) (hs : Nat → Option Nat) {p0 : Int32} {p1 : Int32} {I0 : IS} {J0 : JS} {r : Int32} (hh : vp_in p0 12 → hs p0.toNatClampNeg = none) (hf : fm_K_ask_n p0 p1 = some r) : CtI l y_K_ask (Cond.code y_K_ask b_K_ask 5 (some .int) :: TB) { frames := 1, cells := 0, slots := 0, locals := 21 } [.ref (ad 15), .int p0, .int p1] D cls_all (tysC ca) NN (wD ca ad hs I0 J0) (wD ca ad hs I0 J0) r := by
  refine jd_metI (cc := b_K_ask) (by decide) rfl (Nat.le_of_ble_eq_true rfl) (lv := [(0, .ref (ad 15)), (1, .int p0), (2, .int p1)]) rfl ?_
  intro p e R s m args below meth c A Q ls cx hR hK hN hD0 hA hP hS hl hend
  have hx := cx.1
  have hb := cx.2.1
  have hml := cx.2.2.1
  have hown := cx.2.2.2.1
  have hts := cx.2.2.2.2
  have hD : ∀ I J, va_D A (wD ca ad hs I J) := fun I J => jd_Dc hD0 rfl
  unfold fm_K_ask_n at hf
  refine lv_aload_n hx hb d_K_ask_0 rfl (lv_at hl 0 rfl) ?_
  refine lv_iload_n hx hb d_K_ask_1 rfl (lv_at hl 1 rfl) ?_
  obtain ⟨_, hc1, hf2⟩ := ob1_ex hf
  refine jd_cq (va_runV (As := [.int p0]) (rest := []) cx (cm_K_find_n l D ca ad hs hh hc1 s.heap.size) (cwV 1 hts (jd_gV tb_124 tb_125 tb_0 tb_43 tb_126) rfl rfl rfl ⟨rfl, by decide, by decide, rfl⟩ (by rw [hR]; decide)) ⟨jd_blind nWc, (va_recv hK hP (ci := 3) (q0 := 0) rfl rfl), (jd_pre (av := [.ref (ad 15), .int p0]) hP hK (hD I0 J0) (fun U h => nWm h hN))⟩ rfl rfl hl.1 rfl (lv_room (Nat.le_of_ble_eq_true rfl)) d_K_ask_2 ⟨Nat.zero_le _, Nat.zero_le _⟩) hS (hD I0 J0) hA (fun H3 L4 hP5 hS6 => ?_)
  refine lv_astore_nN hx hb d_K_ask_5 rfl hl (by decide) (lv' := [(3, .null), (0, .ref (ad 15)), (1, .int p0), (2, .int p1)]) rfl (fun ls7 hl8 => ?_)
  refine lv_aload_nN hx hb d_K_ask_6 rfl (lv_at hl8 0 rfl) ?_
  refine lv_ifnullN (tgt := 19) hx hb d_K_ask_7 rfl ?_
  refine lv_iconst (v := -1) hx hb d_K_ask_19 (by decide) ?_
  cases hf2
  exact hend H3 L4 20 ls7 hP5 hS6 d_K_ask_20
def fm_K_tie_n (p0 : Int32) : Option (Int32) :=
  ob1 (fm_K_find_n p0) (fun _ => some (0 : Int32))
set_option maxHeartbeats 4000000 in
set_option maxRecDepth 100000 in
theorem cm_K_tie_n (l : Launch) (D : va_G) (ca : Nat → ClassId) (ad : Nat → Nat) (hs : Nat → Option Nat) {p0 : Int32} {I0 : IS} {J0 : JS} {r : Int32} (hh : vp_in p0 12 → hs p0.toNatClampNeg = none) (hf : fm_K_tie_n p0 = some r) : CtI l y_K_tie (Cond.code y_K_tie b_K_tie 3 (some .int) :: TB) { frames := 1, cells := 0, slots := 0, locals := 21 } [.ref (ad 15), .int p0] D cls_all (tysC ca) NN (wD ca ad hs I0 J0) (wD ca ad hs I0 J0) r := by
  refine jd_metI (cc := b_K_tie) (by decide) rfl (Nat.le_of_ble_eq_true rfl) (lv := [(0, .ref (ad 15)), (1, .int p0)]) rfl ?_
  intro p e R s m args below meth c A Q ls cx hR hK hN hD0 hA hP hS hl hend
  have hx := cx.1
  have hb := cx.2.1
  have hml := cx.2.2.1
  have hown := cx.2.2.2.1
  have hts := cx.2.2.2.2
  have hD : ∀ I J, va_D A (wD ca ad hs I J) := fun I J => jd_Dc hD0 rfl
  unfold fm_K_tie_n at hf
  refine lv_aload_n hx hb d_K_tie_0 rfl (lv_at hl 0 rfl) ?_
  refine lv_iload_n hx hb d_K_tie_1 rfl (lv_at hl 1 rfl) ?_
  obtain ⟨_, hc1, hf2⟩ := ob1_ex hf
  refine jd_cq (va_runV (As := [.int p0]) (rest := []) cx (cm_K_find_n l D ca ad hs hh hc1 s.heap.size) (cwV 1 hts (jd_gV tb_124 tb_125 tb_0 tb_43 tb_126) rfl rfl rfl ⟨rfl, by decide, by decide, rfl⟩ (by rw [hR]; decide)) ⟨jd_blind nWc, (va_recv hK hP (ci := 3) (q0 := 0) rfl rfl), (jd_pre (av := [.ref (ad 15), .int p0]) hP hK (hD I0 J0) (fun U h => nWm h hN))⟩ rfl rfl hl.1 rfl (lv_room (Nat.le_of_ble_eq_true rfl)) d_K_tie_2 ⟨Nat.zero_le _, Nat.zero_le _⟩) hS (hD I0 J0) hA (fun H3 L4 hP5 hS6 => ?_)
  refine lv_astore_nN hx hb d_K_tie_5 rfl hl (by decide) (lv' := [(2, .null), (0, .ref (ad 15)), (1, .int p0)]) rfl (fun ls7 hl8 => ?_)
  refine lv_aload_nN hx hb d_K_tie_6 rfl (lv_at hl8 0 rfl) ?_
  refine lv_ifnonnullN hx hb d_K_tie_7 ?_
  refine lv_iconst (v := 0) hx hb d_K_tie_10 (by decide) ?_
  refine lv_goto (tgt := 21) hx hb d_K_tie_11 rfl ?_
  cases hf2
  exact hend H3 L4 21 ls7 hP5 hS6 d_K_tie_21
def fm_K_tieEntry_n (p0 : Int32) (p1 : Int32) : Option (Int32) :=
  ob1 (fm_K_find_n p0) (fun _ => some (-1 : Int32))
set_option maxHeartbeats 4000000 in
set_option maxRecDepth 100000 in
theorem cm_K_tieEntry_n (l : Launch) (D : va_G) (ca : Nat → ClassId) (ad : Nat → Nat) (hs : Nat → Option Nat) {p0 : Int32} {p1 : Int32} {I0 : IS} {J0 : JS} {r : Int32} (hh : vp_in p0 12 → hs p0.toNatClampNeg = none) (hf : fm_K_tieEntry_n p0 p1 = some r) : CtI l y_K_tieEntry (Cond.code y_K_tieEntry b_K_tieEntry 4 (some .int) :: TB) { frames := 1, cells := 0, slots := 0, locals := 21 } [.ref (ad 15), .int p0, .int p1] D cls_all (tysC ca) NN (wD ca ad hs I0 J0) (wD ca ad hs I0 J0) r := by
  refine jd_metI (cc := b_K_tieEntry) (by decide) rfl (Nat.le_of_ble_eq_true rfl) (lv := [(0, .ref (ad 15)), (1, .int p0), (2, .int p1)]) rfl ?_
  intro p e R s m args below meth c A Q ls cx hR hK hN hD0 hA hP hS hl hend
  have hx := cx.1
  have hb := cx.2.1
  have hml := cx.2.2.1
  have hown := cx.2.2.2.1
  have hts := cx.2.2.2.2
  have hD : ∀ I J, va_D A (wD ca ad hs I J) := fun I J => jd_Dc hD0 rfl
  unfold fm_K_tieEntry_n at hf
  refine lv_aload_n hx hb d_K_tieEntry_0 rfl (lv_at hl 0 rfl) ?_
  refine lv_iload_n hx hb d_K_tieEntry_1 rfl (lv_at hl 1 rfl) ?_
  obtain ⟨_, hc1, hf2⟩ := ob1_ex hf
  refine jd_cq (va_runV (As := [.int p0]) (rest := []) cx (cm_K_find_n l D ca ad hs hh hc1 s.heap.size) (cwV 1 hts (jd_gV tb_124 tb_125 tb_0 tb_43 tb_126) rfl rfl rfl ⟨rfl, by decide, by decide, rfl⟩ (by rw [hR]; decide)) ⟨jd_blind nWc, (va_recv hK hP (ci := 3) (q0 := 0) rfl rfl), (jd_pre (av := [.ref (ad 15), .int p0]) hP hK (hD I0 J0) (fun U h => nWm h hN))⟩ rfl rfl hl.1 rfl (lv_room (Nat.le_of_ble_eq_true rfl)) d_K_tieEntry_2 ⟨Nat.zero_le _, Nat.zero_le _⟩) hS (hD I0 J0) hA (fun H3 L4 hP5 hS6 => ?_)
  refine lv_astore_nN hx hb d_K_tieEntry_5 rfl hl (by decide) (lv' := [(3, .null), (0, .ref (ad 15)), (1, .int p0), (2, .int p1)]) rfl (fun ls7 hl8 => ?_)
  refine lv_aload_nN hx hb d_K_tieEntry_6 rfl (lv_at hl8 0 rfl) ?_
  refine lv_ifnullN (tgt := 14) hx hb d_K_tieEntry_7 rfl ?_
  refine lv_iconst (v := -1) hx hb d_K_tieEntry_14 (by decide) ?_
  cases hf2
  exact hend H3 L4 15 ls7 hP5 hS6 d_K_tieEntry_15
def fm_K_chains_n (p0 : Int32) : Option (Int32) :=
  ob1 (fm_K_find_n p0) (fun _ => some (0 : Int32))
set_option maxHeartbeats 4000000 in
set_option maxRecDepth 100000 in
theorem cm_K_chains_n (l : Launch) (D : va_G) (ca : Nat → ClassId) (ad : Nat → Nat) (hs : Nat → Option Nat) {p0 : Int32} {I0 : IS} {J0 : JS} {r : Int32} (hh : vp_in p0 12 → hs p0.toNatClampNeg = none) (hf : fm_K_chains_n p0 = some r) : CtI l y_K_chains (Cond.code y_K_chains b_K_chains 3 (some .int) :: TB) { frames := 1, cells := 0, slots := 0, locals := 21 } [.ref (ad 15), .int p0] D cls_all (tysC ca) NN (wD ca ad hs I0 J0) (wD ca ad hs I0 J0) r := by
  refine jd_metI (cc := b_K_chains) (by decide) rfl (Nat.le_of_ble_eq_true rfl) (lv := [(0, .ref (ad 15)), (1, .int p0)]) rfl ?_
  intro p e R s m args below meth c A Q ls cx hR hK hN hD0 hA hP hS hl hend
  have hx := cx.1
  have hb := cx.2.1
  have hml := cx.2.2.1
  have hown := cx.2.2.2.1
  have hts := cx.2.2.2.2
  have hD : ∀ I J, va_D A (wD ca ad hs I J) := fun I J => jd_Dc hD0 rfl
  unfold fm_K_chains_n at hf
  refine lv_aload_n hx hb d_K_chains_0 rfl (lv_at hl 0 rfl) ?_
  refine lv_iload_n hx hb d_K_chains_1 rfl (lv_at hl 1 rfl) ?_
  obtain ⟨_, hc1, hf2⟩ := ob1_ex hf
  refine jd_cq (va_runV (As := [.int p0]) (rest := []) cx (cm_K_find_n l D ca ad hs hh hc1 s.heap.size) (cwV 1 hts (jd_gV tb_124 tb_125 tb_0 tb_43 tb_126) rfl rfl rfl ⟨rfl, by decide, by decide, rfl⟩ (by rw [hR]; decide)) ⟨jd_blind nWc, (va_recv hK hP (ci := 3) (q0 := 0) rfl rfl), (jd_pre (av := [.ref (ad 15), .int p0]) hP hK (hD I0 J0) (fun U h => nWm h hN))⟩ rfl rfl hl.1 rfl (lv_room (Nat.le_of_ble_eq_true rfl)) d_K_chains_2 ⟨Nat.zero_le _, Nat.zero_le _⟩) hS (hD I0 J0) hA (fun H3 L4 hP5 hS6 => ?_)
  refine lv_astore_nN hx hb d_K_chains_5 rfl hl (by decide) (lv' := [(2, .null), (0, .ref (ad 15)), (1, .int p0)]) rfl (fun ls7 hl8 => ?_)
  refine lv_aload_nN hx hb d_K_chains_6 rfl (lv_at hl8 0 rfl) ?_
  refine lv_ifnonnullN hx hb d_K_chains_7 ?_
  refine lv_iconst (v := 0) hx hb d_K_chains_10 (by decide) ?_
  refine lv_goto (tgt := 21) hx hb d_K_chains_11 rfl ?_
  cases hf2
  exact hend H3 L4 21 ls7 hP5 hS6 d_K_chains_21
def fm_K_follows_n (p0 : Int32) (p1 : Int32) : Option (Int32) :=
  ob1 (fm_K_find_n p0) (fun _ => some (-1 : Int32))
set_option maxHeartbeats 4000000 in
set_option maxRecDepth 100000 in
theorem cm_K_follows_n (l : Launch) (D : va_G) (ca : Nat → ClassId) (ad : Nat → Nat) (hs : Nat → Option Nat) {p0 : Int32} {p1 : Int32} {I0 : IS} {J0 : JS} {r : Int32} (hh : vp_in p0 12 → hs p0.toNatClampNeg = none) (hf : fm_K_follows_n p0 p1 = some r) : CtI l y_K_follows (Cond.code y_K_follows b_K_follows 4 (some .int) :: TB) { frames := 1, cells := 0, slots := 0, locals := 21 } [.ref (ad 15), .int p0, .int p1] D cls_all (tysC ca) NN (wD ca ad hs I0 J0) (wD ca ad hs I0 J0) r := by
  refine jd_metI (cc := b_K_follows) (by decide) rfl (Nat.le_of_ble_eq_true rfl) (lv := [(0, .ref (ad 15)), (1, .int p0), (2, .int p1)]) rfl ?_
  intro p e R s m args below meth c A Q ls cx hR hK hN hD0 hA hP hS hl hend
  have hx := cx.1
  have hb := cx.2.1
  have hml := cx.2.2.1
  have hown := cx.2.2.2.1
  have hts := cx.2.2.2.2
  have hD : ∀ I J, va_D A (wD ca ad hs I J) := fun I J => jd_Dc hD0 rfl
  unfold fm_K_follows_n at hf
  refine lv_aload_n hx hb d_K_follows_0 rfl (lv_at hl 0 rfl) ?_
  refine lv_iload_n hx hb d_K_follows_1 rfl (lv_at hl 1 rfl) ?_
  obtain ⟨_, hc1, hf2⟩ := ob1_ex hf
  refine jd_cq (va_runV (As := [.int p0]) (rest := []) cx (cm_K_find_n l D ca ad hs hh hc1 s.heap.size) (cwV 1 hts (jd_gV tb_124 tb_125 tb_0 tb_43 tb_126) rfl rfl rfl ⟨rfl, by decide, by decide, rfl⟩ (by rw [hR]; decide)) ⟨jd_blind nWc, (va_recv hK hP (ci := 3) (q0 := 0) rfl rfl), (jd_pre (av := [.ref (ad 15), .int p0]) hP hK (hD I0 J0) (fun U h => nWm h hN))⟩ rfl rfl hl.1 rfl (lv_room (Nat.le_of_ble_eq_true rfl)) d_K_follows_2 ⟨Nat.zero_le _, Nat.zero_le _⟩) hS (hD I0 J0) hA (fun H3 L4 hP5 hS6 => ?_)
  refine lv_astore_nN hx hb d_K_follows_5 rfl hl (by decide) (lv' := [(3, .null), (0, .ref (ad 15)), (1, .int p0), (2, .int p1)]) rfl (fun ls7 hl8 => ?_)
  refine lv_aload_nN hx hb d_K_follows_6 rfl (lv_at hl8 0 rfl) ?_
  refine lv_ifnullN (tgt := 18) hx hb d_K_follows_7 rfl ?_
  refine lv_iconst (v := -1) hx hb d_K_follows_18 (by decide) ?_
  cases hf2
  exact hend H3 L4 19 ls7 hP5 hS6 d_K_follows_19
def fm_K_count_n (p0 : Int32) (p1 : Int32) : Option (Int32) :=
  if p1 < 0 then some (-1 : Int32) else if p1 ≤ (3 : Int32) then ob1 (fm_K_find_n p0) (fun _ => some (0 : Int32)) else some (-1 : Int32)
set_option maxHeartbeats 4000000 in
set_option maxRecDepth 100000 in
theorem cm_K_count_n (l : Launch) (D : va_G) (ca : Nat → ClassId) (ad : Nat → Nat) (hs : Nat → Option Nat) {p0 : Int32} {p1 : Int32} {I0 : IS} {J0 : JS} {r : Int32} (hh : vp_in p0 12 → hs p0.toNatClampNeg = none) (hf : fm_K_count_n p0 p1 = some r) : CtI l y_K_count (Cond.code y_K_count b_K_count 4 (some .int) :: TB) { frames := 1, cells := 0, slots := 0, locals := 21 } [.ref (ad 15), .int p0, .int p1] D cls_all (tysC ca) NN (wD ca ad hs I0 J0) (wD ca ad hs I0 J0) r := by
  refine jd_metI (cc := b_K_count) (by decide) rfl (Nat.le_of_ble_eq_true rfl) (lv := [(0, .ref (ad 15)), (1, .int p0), (2, .int p1)]) rfl ?_
  intro p e R s m args below meth c A Q ls cx hR hK hN hD0 hA hP hS hl hend
  have hx := cx.1
  have hb := cx.2.1
  have hml := cx.2.2.1
  have hown := cx.2.2.2.1
  have hts := cx.2.2.2.2
  have hD : ∀ I J, va_D A (wD ca ad hs I J) := fun I J => jd_Dc hD0 rfl
  unfold fm_K_count_n at hf
  refine lv_iload_n hx hb d_K_count_0 rfl (lv_at hl 2 rfl) ?_
  refine lv_if_lt (tgt := 9) hx hb d_K_count_1 rfl (fun h1 => ?_) (fun h1 => ?_)
  · have hf2 := ifp hf h1
    refine lv_iconst (v := -1) hx hb d_K_count_9 (by decide) ?_
    cases hf2
    exact hend s.heap [] 10 ls hP hS d_K_count_10
  · have hf3 := ifn hf h1
    refine lv_iload_n hx hb d_K_count_4 rfl (lv_at hl 2 rfl) ?_
    refine lv_iconst (v := 3) hx hb d_K_count_5 (by decide) ?_
    refine lv_icmp_le (tgt := 11) hx hb d_K_count_6 rfl (fun h4 => ?_) (fun h4 => ?_)
    · have hf5 := ifp hf3 h4
      refine lv_aload_n hx hb d_K_count_11 rfl (lv_at hl 0 rfl) ?_
      refine lv_iload_n hx hb d_K_count_12 rfl (lv_at hl 1 rfl) ?_
      obtain ⟨_, hc7, hf8⟩ := ob1_ex hf5
      refine jd_cq (va_runV (As := [.int p0]) (rest := []) cx (cm_K_find_n l D ca ad hs hh hc7 s.heap.size) (cwV 1 hts (jd_gV tb_124 tb_125 tb_0 tb_43 tb_126) rfl rfl rfl ⟨rfl, by decide, by decide, rfl⟩ (by rw [hR]; decide)) ⟨jd_blind nWc, (va_recv hK hP (ci := 3) (q0 := 0) rfl rfl), (jd_pre (av := [.ref (ad 15), .int p0]) hP hK (hD I0 J0) (fun U h => nWm h hN))⟩ rfl rfl hl.1 rfl (lv_room (Nat.le_of_ble_eq_true rfl)) d_K_count_13 ⟨Nat.zero_le _, Nat.zero_le _⟩) hS (hD I0 J0) hA (fun H9 L10 hP11 hS12 => ?_)
      refine lv_astore_nN hx hb d_K_count_16 rfl hl (by decide) (lv' := [(3, .null), (0, .ref (ad 15)), (1, .int p0), (2, .int p1)]) rfl (fun ls13 hl14 => ?_)
      refine lv_aload_nN hx hb d_K_count_17 rfl (lv_at hl14 0 rfl) ?_
      refine lv_ifnonnullN hx hb d_K_count_18 ?_
      refine lv_iconst (v := 0) hx hb d_K_count_21 (by decide) ?_
      cases hf8
      exact hend H9 L10 22 ls13 hP11 hS12 d_K_count_22
    · have hf6 := ifn hf3 h4
      refine lv_iconst (v := -1) hx hb d_K_count_9 (by decide) ?_
      cases hf6
      exact hend s.heap [] 10 ls hP hS d_K_count_10
theorem d_K_whyLast_0 : decode b_K_whyLast 0 = .ok (.aload_n 0, 1) := by decide +kernel
theorem d_K_whyLast_1 : decode b_K_whyLast 1 = .ok (.getfield 22, 3) := by decide +kernel
theorem d_K_whyLast_4 : decode b_K_whyLast 4 = .ok (.getfield 81, 3) := by decide +kernel
theorem d_K_whyLast_7 : decode b_K_whyLast 7 = .ok (.ireturn, 1) := by decide +kernel
def fm_K_whyLast (I0 : IS) : Option (Int32) :=
  some (I0 19 0)
set_option maxHeartbeats 4000000 in
set_option maxRecDepth 100000 in
theorem cm_K_whyLast (l : Launch) (D : va_G) (ca : Nat → ClassId) (ad : Nat → Nat) (hs : Nat → Option Nat) {I0 : IS} {J0 : JS} {r : Int32} (hf : fm_K_whyLast I0 = some r) : CtI l y_K_whyLast (Cond.code y_K_whyLast b_K_whyLast 1 (some .int) :: TB) { frames := 0, cells := 0, slots := 0, locals := 0 } [.ref (ad 15)] D cls_all (tysC ca) NN (wD ca ad hs I0 J0) (wD ca ad hs I0 J0) r := by
  refine jd_metI (cc := b_K_whyLast) (by decide) rfl (Nat.le_of_ble_eq_true rfl) (lv := [(0, .ref (ad 15))]) rfl ?_
  intro p e R s m args below meth c A Q ls cx hR hK hN hD0 hA hP hS hl hend
  have hx := cx.1
  have hb := cx.2.1
  have hml := cx.2.2.1
  have hown := cx.2.2.2.1
  have hts := cx.2.2.2.2
  have hD : ∀ I J, va_D A (wD ca ad hs I J) := fun I J => jd_Dc hD0 rfl
  unfold fm_K_whyLast at hf
  refine lv_aload_n hx hb d_K_whyLast_0 rfl (lv_at hl 0 rfl) ?_
  refine va_get (D := D) (ci := 3) (v := .ref (ad 18)) (C := R_K) (T := F_K) (N := 5) hx hb hts (fun w h => List.mem_cons_of_mem _ (uw_K w h)) hown hK hP 0 rfl rfl 2 (by decide) (hts _ (List.mem_cons_of_mem _ tb_107)) (fun _ h => h) rfl d_K_whyLast_1 ?_
  refine va_get (D := D) (ci := 4) (v := .int (I0 19 0)) (C := R_S) (T := F_S) (N := 3) hx hb hts (fun w h => List.mem_cons_of_mem _ (uw_S w h)) hown hK hP 3 rfl rfl 1 (by decide) (hts _ (List.mem_cons_of_mem _ tb_74)) (fun _ h => h) rfl d_K_whyLast_4 ?_
  cases hf
  exact hend s.heap [] 7 ls hP hS d_K_whyLast_7
theorem d_K_why_0 : decode b_K_why 0 = .ok (.iload_n 1, 1) := by decide +kernel
theorem d_K_why_1 : decode b_K_why 1 = .ok (.ifCond .lt 26, 3) := by decide +kernel
theorem d_K_why_4 : decode b_K_why 4 = .ok (.iload_n 1, 1) := by decide +kernel
theorem d_K_why_5 : decode b_K_why 5 = .ok (.aload_n 0, 1) := by decide +kernel
theorem d_K_why_6 : decode b_K_why 6 = .ok (.getfield 22, 3) := by decide +kernel
theorem d_K_why_9 : decode b_K_why 9 = .ok (.getfield 81, 3) := by decide +kernel
theorem d_K_why_12 : decode b_K_why 12 = .ok (.if_icmp .ge 15, 3) := by decide +kernel
theorem d_K_why_15 : decode b_K_why 15 = .ok (.aload_n 0, 1) := by decide +kernel
theorem d_K_why_16 : decode b_K_why 16 = .ok (.getfield 22, 3) := by decide +kernel
theorem d_K_why_19 : decode b_K_why 19 = .ok (.getfield 84, 3) := by decide +kernel
theorem d_K_why_22 : decode b_K_why 22 = .ok (.iload_n 1, 1) := by decide +kernel
theorem d_K_why_23 : decode b_K_why 23 = .ok (.iaload, 1) := by decide +kernel
theorem d_K_why_24 : decode b_K_why 24 = .ok (.goto 4, 3) := by decide +kernel
theorem d_K_why_27 : decode b_K_why 27 = .ok (.iconst (-1), 1) := by decide +kernel
theorem d_K_why_28 : decode b_K_why 28 = .ok (.ireturn, 1) := by decide +kernel
def fm_K_why (p0 : Int32) (I0 : IS) : Option (Int32) :=
  if p0 < 0 then some (-1 : Int32) else if (I0 19 0) ≤ p0 then some (-1 : Int32) else grd (inB p0 16) (some (I0 18 p0.toNatClampNeg))
set_option maxHeartbeats 4000000 in
set_option maxRecDepth 100000 in
theorem cm_K_why (l : Launch) (D : va_G) (ca : Nat → ClassId) (ad : Nat → Nat) (hs : Nat → Option Nat) {p0 : Int32} {I0 : IS} {J0 : JS} {r : Int32} (hf : fm_K_why p0 I0 = some r) : CtI l y_K_why (Cond.code y_K_why b_K_why 2 (some .int) :: TB) { frames := 0, cells := 0, slots := 0, locals := 0 } [.ref (ad 15), .int p0] D cls_all (tysC ca) NN (wD ca ad hs I0 J0) (wD ca ad hs I0 J0) r := by
  refine jd_metI (cc := b_K_why) (by decide) rfl (Nat.le_of_ble_eq_true rfl) (lv := [(0, .ref (ad 15)), (1, .int p0)]) rfl ?_
  intro p e R s m args below meth c A Q ls cx hR hK hN hD0 hA hP hS hl hend
  have hx := cx.1
  have hb := cx.2.1
  have hml := cx.2.2.1
  have hown := cx.2.2.2.1
  have hts := cx.2.2.2.2
  have hD : ∀ I J, va_D A (wD ca ad hs I J) := fun I J => jd_Dc hD0 rfl
  unfold fm_K_why at hf
  refine lv_iload_n hx hb d_K_why_0 rfl (lv_at hl 1 rfl) ?_
  refine lv_if_lt (tgt := 27) hx hb d_K_why_1 rfl (fun h1 => ?_) (fun h1 => ?_)
  · have hf2 := ifp hf h1
    refine lv_iconst (v := -1) hx hb d_K_why_27 (by decide) ?_
    cases hf2
    exact hend s.heap [] 28 ls hP hS d_K_why_28
  · have hf3 := ifn hf h1
    refine lv_iload_n hx hb d_K_why_4 rfl (lv_at hl 1 rfl) ?_
    refine lv_aload_n hx hb d_K_why_5 rfl (lv_at hl 0 rfl) ?_
    refine va_get (D := D) (ci := 3) (v := .ref (ad 18)) (C := R_K) (T := F_K) (N := 5) hx hb hts (fun w h => List.mem_cons_of_mem _ (uw_K w h)) hown hK hP 0 rfl rfl 2 (by decide) (hts _ (List.mem_cons_of_mem _ tb_107)) (fun _ h => h) rfl d_K_why_6 ?_
    refine va_get (D := D) (ci := 4) (v := .int (I0 19 0)) (C := R_S) (T := F_S) (N := 3) hx hb hts (fun w h => List.mem_cons_of_mem _ (uw_S w h)) hown hK hP 3 rfl rfl 1 (by decide) (hts _ (List.mem_cons_of_mem _ tb_74)) (fun _ h => h) rfl d_K_why_9 ?_
    refine lv_icmp_ge (tgt := 27) hx hb d_K_why_12 rfl (fun h4 => ?_) (fun h4 => ?_)
    · have hf5 := ifp hf3 h4
      refine lv_iconst (v := -1) hx hb d_K_why_27 (by decide) ?_
      cases hf5
      exact hend s.heap [] 28 ls hP hS d_K_why_28
    · have hf6 := ifn hf3 h4
      refine lv_aload_n hx hb d_K_why_15 rfl (lv_at hl 0 rfl) ?_
      refine va_get (D := D) (ci := 3) (v := .ref (ad 18)) (C := R_K) (T := F_K) (N := 5) hx hb hts (fun w h => List.mem_cons_of_mem _ (uw_K w h)) hown hK hP 0 rfl rfl 2 (by decide) (hts _ (List.mem_cons_of_mem _ tb_107)) (fun _ h => h) rfl d_K_why_16 ?_
      refine va_get (D := D) (ci := 4) (v := .ref (ad 19)) (C := R_S) (T := F_S) (N := 3) hx hb hts (fun w h => List.mem_cons_of_mem _ (uw_S w h)) hown hK hP 3 rfl rfl 0 (by decide) (hts _ (List.mem_cons_of_mem _ tb_72)) (fun _ h => h) rfl d_K_why_19 ?_
      refine lv_iload_n hx hb d_K_why_22 rfl (lv_at hl 1 rfl) ?_
      obtain ⟨hg7, hf8⟩ := grd_ex hf6
      refine va_iald hx hb hK hP 4 2 rfl rfl (inB_in hg7) d_K_why_23 ?_
      refine lv_goto (tgt := 28) hx hb d_K_why_24 rfl ?_
      cases hf8
      exact hend s.heap [] 28 ls hP hS d_K_why_28
theorem d_K_chance_0 : decode b_K_chance 0 = .ok (.lload_n 1, 1) := by decide +kernel
theorem d_K_chance_1 : decode b_K_chance 1 = .ok (.lconst 0, 1) := by decide +kernel
theorem d_K_chance_2 : decode b_K_chance 2 = .ok (.lcmp, 1) := by decide +kernel
theorem d_K_chance_3 : decode b_K_chance 3 = .ok (.ifCond .lt 9, 3) := by decide +kernel
theorem d_K_chance_6 : decode b_K_chance 6 = .ok (.lload_n 3, 1) := by decide +kernel
theorem d_K_chance_7 : decode b_K_chance 7 = .ok (.lconst 1, 1) := by decide +kernel
theorem d_K_chance_8 : decode b_K_chance 8 = .ok (.lcmp, 1) := by decide +kernel
theorem d_K_chance_9 : decode b_K_chance 9 = .ok (.ifCond .ge 13, 3) := by decide +kernel
theorem d_K_chance_12 : decode b_K_chance 12 = .ok (.new 43, 3) := by decide +kernel
theorem d_K_chance_15 : decode b_K_chance 15 = .ok (.dup, 1) := by decide +kernel
theorem d_K_chance_16 : decode b_K_chance 16 = .ok (.ldc 138, 2) := by decide +kernel
theorem d_K_chance_18 : decode b_K_chance 18 = .ok (.invokespecial 47, 3) := by decide +kernel
theorem d_K_chance_21 : decode b_K_chance 21 = .ok (.athrow, 1) := by decide +kernel
theorem d_K_chance_22 : decode b_K_chance 22 = .ok (.lload_n 1, 1) := by decide +kernel
theorem d_K_chance_23 : decode b_K_chance 23 = .ok (.lload_n 3, 1) := by decide +kernel
theorem d_K_chance_24 : decode b_K_chance 24 = .ok (.iload 5, 2) := by decide +kernel
theorem d_K_chance_26 : decode b_K_chance 26 = .ok (.invokestatic 134, 3) := by decide +kernel
theorem d_K_chance_29 : decode b_K_chance 29 = .ok (.lreturn, 1) := by decide +kernel
def fm_K_chance (p0 : Int64) (p1 : Int64) (p2 : Int32) : Option (Int64) :=
  if (lg_cmp p0 (0 : Int64)) < 0 then none else if 0 ≤ (lg_cmp p1 (1 : Int64)) then ob1 (fm_K_inLowestTerms p0 p1 p2) (fun y7 => some y7) else none
set_option maxHeartbeats 4000000 in
set_option maxRecDepth 100000 in
theorem cm_K_chance (l : Launch) (D : va_G) (ca : Nat → ClassId) (ad : Nat → Nat) (hs : Nat → Option Nat) {p0 : Int64} {p1 : Int64} {p2 : Int32} {I0 : IS} {J0 : JS} {r : Int64} (hf : fm_K_chance p0 p1 p2 = some r) : CtL l y_K_chance (Cond.code y_K_chance b_K_chance 6 (some .long) :: TB) { frames := 2, cells := 0, slots := 0, locals := 56 } [.ref (ad 15), .long p0, .long p1, .int p2] D cls_all (tysC ca) NN (wD ca ad hs I0 J0) (wD ca ad hs I0 J0) r := by
  refine jd_metL (cc := b_K_chance) (by decide) rfl (Nat.le_of_ble_eq_true rfl) (lv := [(0, .ref (ad 15)), (1, .long p0), (3, .long p1), (5, .int p2)]) rfl ?_
  intro p e R s m args below meth c A Q ls cx hR hK hN hD0 hA hP hS hl hend
  have hx := cx.1
  have hb := cx.2.1
  have hml := cx.2.2.1
  have hown := cx.2.2.2.1
  have hts := cx.2.2.2.2
  have hD : ∀ I J, va_D A (wD ca ad hs I J) := fun I J => jd_Dc hD0 rfl
  unfold fm_K_chance at hf
  refine lv_lload_n hx hb d_K_chance_0 rfl (lv_at hl 1 rfl) ?_
  refine lv_lconst (v := 0) hx hb d_K_chance_1 (by decide) ?_
  refine W.lcmp hx hb d_K_chance_2 ?_
  refine lv_if_lt (tgt := 12) hx hb d_K_chance_3 rfl (fun h1 => ?_) (fun h1 => ?_)
  · have hf2 := ifp hf h1
    cases hf2
  · have hf3 := ifn hf h1
    refine lv_lload_n hx hb d_K_chance_6 rfl (lv_at hl 2 rfl) ?_
    refine lv_lconst (v := 1) hx hb d_K_chance_7 (by decide) ?_
    refine W.lcmp hx hb d_K_chance_8 ?_
    refine lv_if_ge (tgt := 22) hx hb d_K_chance_9 rfl (fun h4 => ?_) (fun h4 => ?_)
    · have hf5 := ifp hf3 h4
      refine lv_lload_n hx hb d_K_chance_22 rfl (lv_at hl 1 rfl) ?_
      refine lv_lload_n hx hb d_K_chance_23 rfl (lv_at hl 2 rfl) ?_
      refine lv_iload hx hb d_K_chance_24 (lv_at hl 3 rfl) ?_
      obtain ⟨y7, hc8, hf9⟩ := ob1_ex hf5
      refine jd_cl (va_runS (As := [.long p0, .long p1, .int p2]) (rest := []) cx (cm_K_inLowestTerms l D ca (wD ca ad hs I0 J0) (I0 := I0) (J0 := J0) hc8 s.heap.size) (va_cwS 3 hts (jd_gS2 tb_308 tb_309 tb_43 tb_310) rfl rfl rfl ⟨by decide, by decide, rfl⟩ (by rw [hR]; decide)) ⟨jd_blind nWc, (jd_pre (av := [.long p0, .long p1, .int p2]) hP hK (hD I0 J0) (fun U h => nWm h hN))⟩ rfl rfl hl.1 rfl (lv_room (Nat.le_of_ble_eq_true rfl)) d_K_chance_26 ⟨Nat.zero_le _, Nat.zero_le _⟩) hS (hD I0 J0) hA (fun H10 L11 hP12 hS13 => ?_)
      cases hf9
      exact hend H10 L11 29 ls hP12 hS13 d_K_chance_29
    · have hf6 := ifn hf3 h4
      cases hf6
theorem d_K_give_0 : decode b_K_give 0 = .ok (.iload_n 1, 1) := by decide +kernel
theorem d_K_give_1 : decode b_K_give 1 = .ok (.iconst 1, 1) := by decide +kernel
theorem d_K_give_2 : decode b_K_give 2 = .ok (.if_icmp .lt 20, 3) := by decide +kernel
theorem d_K_give_5 : decode b_K_give 5 = .ok (.iload_n 1, 1) := by decide +kernel
theorem d_K_give_6 : decode b_K_give 6 = .ok (.bipush 16, 2) := by decide +kernel
theorem d_K_give_8 : decode b_K_give 8 = .ok (.if_icmp .gt 14, 3) := by decide +kernel
theorem d_K_give_11 : decode b_K_give 11 = .ok (.iload_n 2, 1) := by decide +kernel
theorem d_K_give_12 : decode b_K_give 12 = .ok (.iconst (-1), 1) := by decide +kernel
theorem d_K_give_13 : decode b_K_give 13 = .ok (.if_icmp .lt 9, 3) := by decide +kernel
theorem d_K_give_16 : decode b_K_give 16 = .ok (.iload_n 2, 1) := by decide +kernel
theorem d_K_give_17 : decode b_K_give 17 = .ok (.bipush 16, 2) := by decide +kernel
theorem d_K_give_19 : decode b_K_give 19 = .ok (.if_icmp .lt 13, 3) := by decide +kernel
theorem d_K_give_22 : decode b_K_give 22 = .ok (.new 43, 3) := by decide +kernel
theorem d_K_give_25 : decode b_K_give 25 = .ok (.dup, 1) := by decide +kernel
theorem d_K_give_26 : decode b_K_give 26 = .ok (.ldc 147, 2) := by decide +kernel
theorem d_K_give_28 : decode b_K_give 28 = .ok (.invokespecial 47, 3) := by decide +kernel
theorem d_K_give_31 : decode b_K_give 31 = .ok (.athrow, 1) := by decide +kernel
theorem d_K_give_32 : decode b_K_give 32 = .ok (.aload_n 0, 1) := by decide +kernel
theorem d_K_give_33 : decode b_K_give 33 = .ok (.getfield 15, 3) := by decide +kernel
theorem d_K_give_36 : decode b_K_give 36 = .ok (.iload_n 1, 1) := by decide +kernel
theorem d_K_give_37 : decode b_K_give 37 = .ok (.iconst 1, 1) := by decide +kernel
theorem d_K_give_38 : decode b_K_give 38 = .ok (.isub, 1) := by decide +kernel
theorem d_K_give_39 : decode b_K_give 39 = .ok (.iaload, 1) := by decide +kernel
theorem d_K_give_40 : decode b_K_give 40 = .ok (.istore_n 3, 1) := by decide +kernel
theorem d_K_give_41 : decode b_K_give 41 = .ok (.aload_n 0, 1) := by decide +kernel
theorem d_K_give_42 : decode b_K_give 42 = .ok (.getfield 15, 3) := by decide +kernel
theorem d_K_give_45 : decode b_K_give 45 = .ok (.iload_n 1, 1) := by decide +kernel
theorem d_K_give_46 : decode b_K_give 46 = .ok (.iconst 1, 1) := by decide +kernel
theorem d_K_give_47 : decode b_K_give 47 = .ok (.isub, 1) := by decide +kernel
theorem d_K_give_48 : decode b_K_give 48 = .ok (.iload_n 2, 1) := by decide +kernel
theorem d_K_give_49 : decode b_K_give 49 = .ok (.iastore, 1) := by decide +kernel
theorem d_K_give_50 : decode b_K_give 50 = .ok (.iload_n 3, 1) := by decide +kernel
theorem d_K_give_51 : decode b_K_give 51 = .ok (.ireturn, 1) := by decide +kernel
def fm_K_give (p0 : Int32) (p1 : Int32) (I0 : IS) : Option (Int32 × IS) :=
  if p0 < (1 : Int32) then none else if (16 : Int32) < p0 then none else if p1 < (-1 : Int32) then none else if p1 < (16 : Int32) then grd (inB (p0 - (1 : Int32)) 16) (bnd (I0 16 (p0 - (1 : Int32)).toNatClampNeg) (fun x15 => grd (inB (p0 - (1 : Int32)) 16) (bnd (sI I0 16 (p0 - (1 : Int32)).toNatClampNeg p1) (fun I22 => some (x15, I22))))) else none
set_option maxHeartbeats 4000000 in
set_option maxRecDepth 100000 in
theorem cm_K_give (l : Launch) (D : va_G) (ca : Nat → ClassId) (ad : Nat → Nat) (hs : Nat → Option Nat) {p0 : Int32} {p1 : Int32} {I0 : IS} {J0 : JS} {r : Int32 × IS} (hf : fm_K_give p0 p1 I0 = some r) : CtI l y_K_give (Cond.code y_K_give b_K_give 4 (some .int) :: TB) { frames := 0, cells := 0, slots := 0, locals := 0 } [.ref (ad 15), .int p0, .int p1] D cls_all (tysC ca) NN (wD ca ad hs I0 J0) (wD ca ad hs r.2 J0) r.1 := by
  refine jd_metI (cc := b_K_give) (by decide) rfl (Nat.le_of_ble_eq_true rfl) (lv := [(0, .ref (ad 15)), (1, .int p0), (2, .int p1)]) rfl ?_
  intro p e R s m args below meth c A Q ls cx hR hK hN hD0 hA hP hS hl hend
  have hx := cx.1
  have hb := cx.2.1
  have hml := cx.2.2.1
  have hown := cx.2.2.2.1
  have hts := cx.2.2.2.2
  have hD : ∀ I J, va_D A (wD ca ad hs I J) := fun I J => jd_Dc hD0 rfl
  unfold fm_K_give at hf
  refine lv_iload_n hx hb d_K_give_0 rfl (lv_at hl 1 rfl) ?_
  refine lv_iconst (v := 1) hx hb d_K_give_1 (by decide) ?_
  refine lv_icmp_lt (tgt := 22) hx hb d_K_give_2 rfl (fun h1 => ?_) (fun h1 => ?_)
  · have hf2 := ifp hf h1
    cases hf2
  · have hf3 := ifn hf h1
    refine lv_iload_n hx hb d_K_give_5 rfl (lv_at hl 1 rfl) ?_
    refine lv_bipush (v := 16) hx hb d_K_give_6 (by decide) ?_
    refine lv_icmp_gt (tgt := 22) hx hb d_K_give_8 rfl (fun h4 => ?_) (fun h4 => ?_)
    · have hf5 := ifp hf3 h4
      cases hf5
    · have hf6 := ifn hf3 h4
      refine lv_iload_n hx hb d_K_give_11 rfl (lv_at hl 2 rfl) ?_
      refine lv_iconst (v := -1) hx hb d_K_give_12 (by decide) ?_
      refine lv_icmp_lt (tgt := 22) hx hb d_K_give_13 rfl (fun h7 => ?_) (fun h7 => ?_)
      · have hf8 := ifp hf6 h7
        cases hf8
      · have hf9 := ifn hf6 h7
        refine lv_iload_n hx hb d_K_give_16 rfl (lv_at hl 2 rfl) ?_
        refine lv_bipush (v := 16) hx hb d_K_give_17 (by decide) ?_
        refine lv_icmp_lt (tgt := 32) hx hb d_K_give_19 rfl (fun h10 => ?_) (fun h10 => ?_)
        · have hf11 := ifp hf9 h10
          refine lv_aload_n hx hb d_K_give_32 rfl (lv_at hl 0 rfl) ?_
          refine va_get (D := D) (ci := 3) (v := .ref (ad 17)) (C := R_K) (T := F_K) (N := 5) hx hb hts (fun w h => List.mem_cons_of_mem _ (uw_K w h)) hown hK hP 0 rfl rfl 1 (by decide) (hts _ (List.mem_cons_of_mem _ tb_106)) (fun _ h => h) rfl d_K_give_33 ?_
          refine lv_iload_n hx hb d_K_give_36 rfl (lv_at hl 1 rfl) ?_
          refine lv_iconst (v := 1) hx hb d_K_give_37 (by decide) ?_
          refine lv_isub hx hb d_K_give_38 ?_
          obtain ⟨hg13, hf14⟩ := grd_ex hf11
          refine va_iald hx hb hK hP 2 2 rfl rfl (inB_in hg13) d_K_give_39 ?_
          obtain ⟨x15, e16, hf17⟩ := bnd_ex hf14
          refine jd_tni e16 ?_
          refine lv_istore_n hx hb d_K_give_40 rfl hl (by decide) (lv' := [(3, .int x15), (0, .ref (ad 15)), (1, .int p0), (2, .int p1)]) rfl (fun ls18 hl19 => ?_)
          refine lv_aload_n hx hb d_K_give_41 rfl (lv_at hl19 1 rfl) ?_
          refine va_get (D := D) (ci := 3) (v := .ref (ad 17)) (C := R_K) (T := F_K) (N := 5) hx hb hts (fun w h => List.mem_cons_of_mem _ (uw_K w h)) hown hK hP 0 rfl rfl 1 (by decide) (hts _ (List.mem_cons_of_mem _ tb_106)) (fun _ h => h) rfl d_K_give_42 ?_
          refine lv_iload_n hx hb d_K_give_45 rfl (lv_at hl19 2 rfl) ?_
          refine lv_iconst (v := 1) hx hb d_K_give_46 (by decide) ?_
          refine lv_isub hx hb d_K_give_47 ?_
          refine lv_iload_n hx hb d_K_give_48 rfl (lv_at hl19 3 rfl) ?_
          obtain ⟨hg20, hf21⟩ := grd_ex hf17
          obtain ⟨I22, e23, hf24⟩ := bnd_ex hf21
          refine va_iast hx hb hK hP (hD I0 J0) hS 2 2 rfl rfl (inB_in hg20) d_K_give_49 (fun H25 L26 hp29 _ hS28 => ?_)
          have hP27 : va_P D cls_all (wD ca ad hs I22 J0) H25 := by rw [e23]; exact hp29
          refine lv_iload_n hx hb d_K_give_50 rfl (lv_at hl19 0 rfl) ?_
          cases hf24
          exact hend H25 L26 51 ls18 hP27 hS28 d_K_give_51
        · have hf12 := ifn hf9 h10
          cases hf12
