theorem d_L_setBars_0 : decode b_L_setBars 0 = .ok (.iconst 1, 1) := by decide +kernel
theorem d_L_setBars_1 : decode b_L_setBars 1 = .ok (.istore_n 2, 1) := by decide +kernel
theorem d_L_setBars_2 : decode b_L_setBars 2 = .ok (.iload_n 2, 1) := by decide +kernel
theorem d_L_setBars_3 : decode b_L_setBars 3 = .ok (.sipush 256, 3) := by decide +kernel
theorem d_L_setBars_6 : decode b_L_setBars 6 = .ok (.if_icmp .ge 58, 3) := by decide +kernel
theorem d_L_setBars_9 : decode b_L_setBars 9 = .ok (.iload_n 2, 1) := by decide +kernel
theorem d_L_setBars_10 : decode b_L_setBars 10 = .ok (.invokestatic 90, 3) := by decide +kernel
theorem d_L_setBars_13 : decode b_L_setBars 13 = .ok (.istore_n 3, 1) := by decide +kernel
theorem d_L_setBars_14 : decode b_L_setBars 14 = .ok (.iload_n 2, 1) := by decide +kernel
theorem d_L_setBars_15 : decode b_L_setBars 15 = .ok (.iload_n 2, 1) := by decide +kernel
theorem d_L_setBars_16 : decode b_L_setBars 16 = .ok (.iconst 1, 1) := by decide +kernel
theorem d_L_setBars_17 : decode b_L_setBars 17 = .ok (.isub, 1) := by decide +kernel
theorem d_L_setBars_18 : decode b_L_setBars 18 = .ok (.iand, 1) := by decide +kernel
theorem d_L_setBars_19 : decode b_L_setBars 19 = .ok (.istore 4, 2) := by decide +kernel
theorem d_L_setBars_21 : decode b_L_setBars 21 = .ok (.aload_n 0, 1) := by decide +kernel
theorem d_L_setBars_22 : decode b_L_setBars 22 = .ok (.getfield 19, 3) := by decide +kernel
theorem d_L_setBars_25 : decode b_L_setBars 25 = .ok (.iload_n 2, 1) := by decide +kernel
theorem d_L_setBars_26 : decode b_L_setBars 26 = .ok (.aload_n 0, 1) := by decide +kernel
theorem d_L_setBars_27 : decode b_L_setBars 27 = .ok (.getfield 19, 3) := by decide +kernel
theorem d_L_setBars_30 : decode b_L_setBars 30 = .ok (.iload 4, 2) := by decide +kernel
theorem d_L_setBars_32 : decode b_L_setBars 32 = .ok (.iaload, 1) := by decide +kernel
theorem d_L_setBars_33 : decode b_L_setBars 33 = .ok (.aload_n 1, 1) := by decide +kernel
theorem d_L_setBars_34 : decode b_L_setBars 34 = .ok (.iload_n 3, 1) := by decide +kernel
theorem d_L_setBars_35 : decode b_L_setBars 35 = .ok (.iaload, 1) := by decide +kernel
theorem d_L_setBars_36 : decode b_L_setBars 36 = .ok (.ior, 1) := by decide +kernel
theorem d_L_setBars_37 : decode b_L_setBars 37 = .ok (.iastore, 1) := by decide +kernel
theorem d_L_setBars_38 : decode b_L_setBars 38 = .ok (.aload_n 0, 1) := by decide +kernel
theorem d_L_setBars_39 : decode b_L_setBars 39 = .ok (.getfield 23, 3) := by decide +kernel
theorem d_L_setBars_42 : decode b_L_setBars 42 = .ok (.iload_n 2, 1) := by decide +kernel
theorem d_L_setBars_43 : decode b_L_setBars 43 = .ok (.aload_n 0, 1) := by decide +kernel
theorem d_L_setBars_44 : decode b_L_setBars 44 = .ok (.getfield 23, 3) := by decide +kernel
theorem d_L_setBars_47 : decode b_L_setBars 47 = .ok (.iload 4, 2) := by decide +kernel
theorem d_L_setBars_49 : decode b_L_setBars 49 = .ok (.iaload, 1) := by decide +kernel
theorem d_L_setBars_50 : decode b_L_setBars 50 = .ok (.aload_n 1, 1) := by decide +kernel
theorem d_L_setBars_51 : decode b_L_setBars 51 = .ok (.iload_n 3, 1) := by decide +kernel
theorem d_L_setBars_52 : decode b_L_setBars 52 = .ok (.bipush 8, 2) := by decide +kernel
theorem d_L_setBars_54 : decode b_L_setBars 54 = .ok (.iadd, 1) := by decide +kernel
theorem d_L_setBars_55 : decode b_L_setBars 55 = .ok (.iaload, 1) := by decide +kernel
theorem d_L_setBars_56 : decode b_L_setBars 56 = .ok (.ior, 1) := by decide +kernel
theorem d_L_setBars_57 : decode b_L_setBars 57 = .ok (.iastore, 1) := by decide +kernel
theorem d_L_setBars_58 : decode b_L_setBars 58 = .ok (.iinc 2 1, 3) := by decide +kernel
theorem d_L_setBars_61 : decode b_L_setBars 61 = .ok (.goto (-59), 3) := by decide +kernel
theorem d_L_setBars_64 : decode b_L_setBars 64 = .ok (.return_, 1) := by decide +kernel
def fm_L_setBars_B2  (x7 : Int32) (I8 : IS) : Option (Nat × Int32 × IS) :=
  if (256 : Int32) ≤ x7 then some (1, x7, I8) else ob1 (fm_G_numberOfTrailingZeros x7) (fun x21 => bnd (x7 &&& (x7 - (1 : Int32))) (fun x30 => grd (inB x30 256) (grd (inB x21 16) (grd (inB x7 256) (bnd (sI I8 21 x7.toNatClampNeg ((I8 21 x30.toNatClampNeg) ||| (I8 3 x21.toNatClampNeg))) (fun I41 => grd (inB x30 256) (grd (inB (x21 + (8 : Int32)) 16) (grd (inB x7 256) (bnd (sI I41 22 x7.toNatClampNeg ((I41 22 x30.toNatClampNeg) ||| (I41 3 (x21 + (8 : Int32)).toNatClampNeg))) (fun I55 => bnd (x7 + (1 : Int32)) (fun x63 => some (0, x63, I55))))))))))))
def fm_L_setBars (I0 : IS) : Option (IS) :=
  ob3 (iter (fun z : Int32 × IS => fm_L_setBars_B2 z.1 z.2) FU ((1 : Int32), I0)) (fun _ x69 I70 => some I70)
set_option maxHeartbeats 4000000 in
set_option maxRecDepth 100000 in
theorem cm_L_setBars (l : Launch) (D : va_G) (ca : Nat → ClassId) (ad : Nat → Nat) (hs : Nat → Option Nat) {I0 : IS} {J0 : JS} {r : IS} (hf : fm_L_setBars I0 = some r) : CtV l y_L_setBars (Cond.code y_L_setBars b_L_setBars 5 none :: TB) { frames := 1, cells := 0, slots := 0, locals := 21 } [.ref (ad 21), .ref (ad 4)] D cls_all (tysC ca) NN (wC ca ad hs I0 J0) (wC ca ad hs r J0) := by
  refine jd_metV (cc := b_L_setBars) (by decide) rfl (Nat.le_of_ble_eq_true rfl) (lv := [(0, .ref (ad 21)), (1, .ref (ad 4))]) rfl ?_
  intro p e R s m args below meth c A Q ls cx hR hK hN hD0 hA hP hS hl hend
  have hx := cx.1
  have hb := cx.2.1
  have hml := cx.2.2.1
  have hown := cx.2.2.2.1
  have hts := cx.2.2.2.2
  have hD : ∀ I J, va_D A (wC ca ad hs I J) := fun I J => jd_Dc hD0 rfl
  unfold fm_L_setBars at hf
  refine lv_iconst (v := 1) hx hb d_L_setBars_0 (by decide) ?_
  refine lv_istore_n hx hb d_L_setBars_1 rfl hl (by decide) (lv' := [(2, .int (1 : Int32)), (0, .ref (ad 21)), (1, .ref (ad 4))]) rfl (fun ls1 hl2 => ?_)
  obtain ⟨tg68, x69, I70, ho71, hf72⟩ := ob3_ex hf
  have kx2_1 : ∀ (H73 : Heap) (L74 : List Loc) (ls75 : Array Slot), va_P D cls_all (wC ca ad hs I70 J0) H73 → va_S A s.heap H73 L74 → lv_has ls75 5 [] → W p l e R s m args below meth c H73 L74 0 0 Q (F0 m 64 ls75 []) := by
    intro H73 L74 ls75 hP76 hS77 hl78
    cases hf72
    exact hend H73 L74 64 ls75 hP76 hS77 d_L_setBars_64
  refine iter_ind (C := fun z : Int32 × IS => ∀ (H9 : Heap) (L10 : List Loc) (ls11 : Array Slot), va_P D cls_all (wC ca ad hs z.2 J0) H9 → va_S A s.heap H9 L10 → lv_has ls11 5 [(0, .ref (ad 21)), (1, .ref (ad 4)), (2, .int z.1)] → W p l e R s m args below meth c H9 L10 0 0 Q (F0 m 2 ls11 [])) (fun z6 o5 hz16 hc3 he4 => ?_) _ _ ho71 s.heap [] ls1 hP hS (lv_sub hl2 [1, 2, 0] rfl)
  obtain ⟨x7, I8⟩ := z6
  intro H9 L10 ls11 hP12 hS13 hl14
  have hf15 : fm_L_setBars_B2 x7 I8 = some o5 := hz16
  unfold fm_L_setBars_B2 at hf15
  refine lv_iload_n hx hb d_L_setBars_2 rfl (lv_at hl14 2 rfl) ?_
  refine lv_sipush (v := 256) hx hb d_L_setBars_3 (by decide) ?_
  refine lv_icmp_ge (tgt := 64) hx hb d_L_setBars_6 rfl (fun h17 => ?_) (fun h17 => ?_)
  · have hf18 := ifp hf15 h17
    cases hf18
    have e20 := he4 (by show (1 : Nat) ≠ 0; decide)
    cases e20
    exact kx2_1 H9 L10 ls11 hP12 hS13 (lv_sub hl14 [] rfl)
  · have hf19 := ifn hf15 h17
    refine lv_iload_n hx hb d_L_setBars_9 rfl (lv_at hl14 2 rfl) ?_
    obtain ⟨x21, hc22, hf23⟩ := ob1_ex hf19
    refine jd_ci (va_runS (As := [.int x7]) (rest := []) cx (cm_G_numberOfTrailingZeros l D ca (wC ca ad hs I8 J0) (I0 := I8) (J0 := J0) hc22 H9.size) (va_cwS 1 hts (jd_gS2 tb_235 tb_236 tb_55 tb_237) rfl rfl rfl ⟨by decide, by decide, rfl⟩ (by rw [hR]; decide)) ⟨jd_blind nWc, (jd_pre (av := [.int x7]) hP12 hK (hD I8 J0) (fun U h => nWm h hN))⟩ rfl rfl hl14.1 rfl (lv_room (Nat.le_of_ble_eq_true rfl)) d_L_setBars_10 ⟨Nat.zero_le _, Nat.zero_le _⟩) hS13 (hD I8 J0) hA (fun H24 L25 hP26 hS27 => ?_)
    refine lv_istore_n hx hb d_L_setBars_13 rfl hl14 (by decide) (lv' := [(3, .int x21), (0, .ref (ad 21)), (1, .ref (ad 4)), (2, .int x7)]) rfl (fun ls28 hl29 => ?_)
    refine lv_iload_n hx hb d_L_setBars_14 rfl (lv_at hl29 3 rfl) ?_
    refine lv_iload_n hx hb d_L_setBars_15 rfl (lv_at hl29 3 rfl) ?_
    refine lv_iconst (v := 1) hx hb d_L_setBars_16 (by decide) ?_
    refine lv_isub hx hb d_L_setBars_17 ?_
    refine lv_iand hx hb d_L_setBars_18 ?_
    obtain ⟨x30, e31, hf32⟩ := bnd_ex hf23
    refine jd_tni e31 ?_
    refine lv_istore hx hb d_L_setBars_19 hl29 (by decide) (lv' := [(4, .int x30), (3, .int x21), (0, .ref (ad 21)), (1, .ref (ad 4)), (2, .int x7)]) rfl (fun ls33 hl34 => ?_)
    refine lv_aload_n hx hb d_L_setBars_21 rfl (lv_at hl34 2 rfl) ?_
    refine va_get (D := D) (ci := 5) (v := .ref (ad 24)) (C := R_L) (T := F_L) (N := 4) hx hb hts (fun w h => List.mem_cons_of_mem _ (uw_L w h)) hown hK hP26 21 rfl rfl 2 (by decide) (hts _ (List.mem_cons_of_mem _ tb_91)) (fun _ h => h) rfl d_L_setBars_22 ?_
    refine lv_iload_n hx hb d_L_setBars_25 rfl (lv_at hl34 4 rfl) ?_
    refine lv_aload_n hx hb d_L_setBars_26 rfl (lv_at hl34 2 rfl) ?_
    refine va_get (D := D) (ci := 5) (v := .ref (ad 24)) (C := R_L) (T := F_L) (N := 4) hx hb hts (fun w h => List.mem_cons_of_mem _ (uw_L w h)) hown hK hP26 21 rfl rfl 2 (by decide) (hts _ (List.mem_cons_of_mem _ tb_91)) (fun _ h => h) rfl d_L_setBars_27 ?_
    refine lv_iload hx hb d_L_setBars_30 (lv_at hl34 0 rfl) ?_
    obtain ⟨hg35, hf36⟩ := grd_ex hf32
    refine va_iald hx hb hK hP26 24 2 rfl rfl (inB_in hg35) d_L_setBars_32 ?_
    refine lv_aload_n hx hb d_L_setBars_33 rfl (lv_at hl34 3 rfl) ?_
    refine lv_iload_n hx hb d_L_setBars_34 rfl (lv_at hl34 1 rfl) ?_
    obtain ⟨hg37, hf38⟩ := grd_ex hf36
    refine va_iald hx hb hK hP26 4 2 rfl rfl (inB_in hg37) d_L_setBars_35 ?_
    refine lv_ior hx hb d_L_setBars_36 ?_
    obtain ⟨hg39, hf40⟩ := grd_ex hf38
    obtain ⟨I41, e42, hf43⟩ := bnd_ex hf40
    refine va_iast hx hb hK hP26 (hD I8 J0) hS27 24 2 rfl rfl (inB_in hg39) d_L_setBars_37 (fun H44 L45 hp48 _ hS47 => ?_)
    have hP46 : va_P D cls_all (wC ca ad hs I41 J0) H44 := by rw [e42]; exact hp48
    refine lv_aload_n hx hb d_L_setBars_38 rfl (lv_at hl34 2 rfl) ?_
    refine va_get (D := D) (ci := 5) (v := .ref (ad 25)) (C := R_L) (T := F_L) (N := 4) hx hb hts (fun w h => List.mem_cons_of_mem _ (uw_L w h)) hown hK hP46 21 rfl rfl 3 (by decide) (hts _ (List.mem_cons_of_mem _ tb_92)) (fun _ h => h) rfl d_L_setBars_39 ?_
    refine lv_iload_n hx hb d_L_setBars_42 rfl (lv_at hl34 4 rfl) ?_
    refine lv_aload_n hx hb d_L_setBars_43 rfl (lv_at hl34 2 rfl) ?_
    refine va_get (D := D) (ci := 5) (v := .ref (ad 25)) (C := R_L) (T := F_L) (N := 4) hx hb hts (fun w h => List.mem_cons_of_mem _ (uw_L w h)) hown hK hP46 21 rfl rfl 3 (by decide) (hts _ (List.mem_cons_of_mem _ tb_92)) (fun _ h => h) rfl d_L_setBars_44 ?_
    refine lv_iload hx hb d_L_setBars_47 (lv_at hl34 0 rfl) ?_
    obtain ⟨hg49, hf50⟩ := grd_ex hf43
    refine va_iald hx hb hK hP46 25 2 rfl rfl (inB_in hg49) d_L_setBars_49 ?_
    refine lv_aload_n hx hb d_L_setBars_50 rfl (lv_at hl34 3 rfl) ?_
    refine lv_iload_n hx hb d_L_setBars_51 rfl (lv_at hl34 1 rfl) ?_
    refine lv_bipush (v := 8) hx hb d_L_setBars_52 (by decide) ?_
    refine lv_iadd hx hb d_L_setBars_54 ?_
    obtain ⟨hg51, hf52⟩ := grd_ex hf50
    refine va_iald hx hb hK hP46 4 2 rfl rfl (inB_in hg51) d_L_setBars_55 ?_
    refine lv_ior hx hb d_L_setBars_56 ?_
    obtain ⟨hg53, hf54⟩ := grd_ex hf52
    obtain ⟨I55, e56, hf57⟩ := bnd_ex hf54
    refine va_iast hx hb hK hP46 (hD I41 J0) hS47 25 2 rfl rfl (inB_in hg53) d_L_setBars_57 (fun H58 L59 hp62 _ hS61 => ?_)
    have hP60 : va_P D cls_all (wC ca ad hs I55 J0) H58 := by rw [e56]; exact hp62
    obtain ⟨x63, e64, hf65⟩ := bnd_ex hf57
    refine lv_iinc hx hb d_L_setBars_58 hl34 (k := 4) rfl (v := x63) (by rw [e64]; rfl) (by decide) (lv' := [(2, .int x63), (4, .int x30), (3, .int x21), (0, .ref (ad 21)), (1, .ref (ad 4))]) rfl (fun ls66 hl67 => ?_)
    refine lv_goto (tgt := 2) hx hb d_L_setBars_61 rfl ?_
    cases hf65
    exact hc3 rfl H58 L59 ls66 hP60 hS61 (lv_sub hl67 [3, 4, 0] rfl)
theorem d_L_readyOf_0 : decode b_L_readyOf 0 = .ok (.iload_n 1, 1) := by decide +kernel
theorem d_L_readyOf_1 : decode b_L_readyOf 1 = .ok (.aload_n 0, 1) := by decide +kernel
theorem d_L_readyOf_2 : decode b_L_readyOf 2 = .ok (.getfield 19, 3) := by decide +kernel
theorem d_L_readyOf_5 : decode b_L_readyOf 5 = .ok (.iload_n 1, 1) := by decide +kernel
theorem d_L_readyOf_6 : decode b_L_readyOf 6 = .ok (.sipush 255, 3) := by decide +kernel
theorem d_L_readyOf_9 : decode b_L_readyOf 9 = .ok (.iand, 1) := by decide +kernel
theorem d_L_readyOf_10 : decode b_L_readyOf 10 = .ok (.iaload, 1) := by decide +kernel
theorem d_L_readyOf_11 : decode b_L_readyOf 11 = .ok (.aload_n 0, 1) := by decide +kernel
theorem d_L_readyOf_12 : decode b_L_readyOf 12 = .ok (.getfield 23, 3) := by decide +kernel
theorem d_L_readyOf_15 : decode b_L_readyOf 15 = .ok (.iload_n 1, 1) := by decide +kernel
theorem d_L_readyOf_16 : decode b_L_readyOf 16 = .ok (.bipush 8, 2) := by decide +kernel
theorem d_L_readyOf_18 : decode b_L_readyOf 18 = .ok (.ishr, 1) := by decide +kernel
theorem d_L_readyOf_19 : decode b_L_readyOf 19 = .ok (.iaload, 1) := by decide +kernel
theorem d_L_readyOf_20 : decode b_L_readyOf 20 = .ok (.ior, 1) := by decide +kernel
theorem d_L_readyOf_21 : decode b_L_readyOf 21 = .ok (.iconst (-1), 1) := by decide +kernel
theorem d_L_readyOf_22 : decode b_L_readyOf 22 = .ok (.ixor, 1) := by decide +kernel
theorem d_L_readyOf_23 : decode b_L_readyOf 23 = .ok (.iand, 1) := by decide +kernel
theorem d_L_readyOf_24 : decode b_L_readyOf 24 = .ok (.ireturn, 1) := by decide +kernel
def fm_L_readyOf (p0 : Int32) (I0 : IS) : Option (Int32) :=
  grd (inB (p0 &&& (255 : Int32)) 256) (grd (inB (p0 >>> ((8 : Int32) &&& 31)) 256) (some (p0 &&& (((I0 21 (p0 &&& (255 : Int32)).toNatClampNeg) ||| (I0 22 (p0 >>> ((8 : Int32) &&& 31)).toNatClampNeg)) ^^^ (-1 : Int32)))))
set_option maxHeartbeats 4000000 in
set_option maxRecDepth 100000 in
theorem cm_L_readyOf (l : Launch) (D : va_G) (ca : Nat → ClassId) (ad : Nat → Nat) (hs : Nat → Option Nat) {p0 : Int32} {I0 : IS} {J0 : JS} {r : Int32} (hf : fm_L_readyOf p0 I0 = some r) : CtI l y_L_readyOf (Cond.code y_L_readyOf b_L_readyOf 2 (some .int) :: TB) { frames := 0, cells := 0, slots := 0, locals := 0 } [.ref (ad 21), .int p0] D cls_all (tysC ca) NN (wC ca ad hs I0 J0) (wC ca ad hs I0 J0) r := by
  refine jd_metI (cc := b_L_readyOf) (by decide) rfl (Nat.le_of_ble_eq_true rfl) (lv := [(0, .ref (ad 21)), (1, .int p0)]) rfl ?_
  intro p e R s m args below meth c A Q ls cx hR hK hN hD0 hA hP hS hl hend
  have hx := cx.1
  have hb := cx.2.1
  have hml := cx.2.2.1
  have hown := cx.2.2.2.1
  have hts := cx.2.2.2.2
  have hD : ∀ I J, va_D A (wC ca ad hs I J) := fun I J => jd_Dc hD0 rfl
  unfold fm_L_readyOf at hf
  refine lv_iload_n hx hb d_L_readyOf_0 rfl (lv_at hl 1 rfl) ?_
  refine lv_aload_n hx hb d_L_readyOf_1 rfl (lv_at hl 0 rfl) ?_
  refine va_get (D := D) (ci := 5) (v := .ref (ad 24)) (C := R_L) (T := F_L) (N := 4) hx hb hts (fun w h => List.mem_cons_of_mem _ (uw_L w h)) hown hK hP 21 rfl rfl 2 (by decide) (hts _ (List.mem_cons_of_mem _ tb_91)) (fun _ h => h) rfl d_L_readyOf_2 ?_
  refine lv_iload_n hx hb d_L_readyOf_5 rfl (lv_at hl 1 rfl) ?_
  refine lv_sipush (v := 255) hx hb d_L_readyOf_6 (by decide) ?_
  refine lv_iand hx hb d_L_readyOf_9 ?_
  obtain ⟨hg1, hf2⟩ := grd_ex hf
  refine va_iald hx hb hK hP 24 2 rfl rfl (inB_in hg1) d_L_readyOf_10 ?_
  refine lv_aload_n hx hb d_L_readyOf_11 rfl (lv_at hl 0 rfl) ?_
  refine va_get (D := D) (ci := 5) (v := .ref (ad 25)) (C := R_L) (T := F_L) (N := 4) hx hb hts (fun w h => List.mem_cons_of_mem _ (uw_L w h)) hown hK hP 21 rfl rfl 3 (by decide) (hts _ (List.mem_cons_of_mem _ tb_92)) (fun _ h => h) rfl d_L_readyOf_12 ?_
  refine lv_iload_n hx hb d_L_readyOf_15 rfl (lv_at hl 1 rfl) ?_
  refine lv_bipush (v := 8) hx hb d_L_readyOf_16 (by decide) ?_
  refine lv_ishr hx hb d_L_readyOf_18 ?_
  obtain ⟨hg3, hf4⟩ := grd_ex hf2
  refine va_iald hx hb hK hP 25 2 rfl rfl (inB_in hg3) d_L_readyOf_19 ?_
  refine lv_ior hx hb d_L_readyOf_20 ?_
  refine lv_iconst (v := -1) hx hb d_L_readyOf_21 (by decide) ?_
  refine lv_ixor hx hb d_L_readyOf_22 ?_
  refine lv_iand hx hb d_L_readyOf_23 ?_
  cases hf4
  exact hend s.heap [] 24 ls hP hS d_L_readyOf_24
theorem d_L_clearHeads_0 : decode b_L_clearHeads 0 = .ok (.iconst 1, 1) := by decide +kernel
theorem d_L_clearHeads_1 : decode b_L_clearHeads 1 = .ok (.aload_n 1, 1) := by decide +kernel
theorem d_L_clearHeads_2 : decode b_L_clearHeads 2 = .ok (.invokevirtual 50, 3) := by decide +kernel
theorem d_L_clearHeads_5 : decode b_L_clearHeads 5 = .ok (.ishl, 1) := by decide +kernel
theorem d_L_clearHeads_6 : decode b_L_clearHeads 6 = .ok (.istore_n 2, 1) := by decide +kernel
theorem d_L_clearHeads_7 : decode b_L_clearHeads 7 = .ok (.iconst 0, 1) := by decide +kernel
theorem d_L_clearHeads_8 : decode b_L_clearHeads 8 = .ok (.istore_n 3, 1) := by decide +kernel
theorem d_L_clearHeads_9 : decode b_L_clearHeads 9 = .ok (.iconst 0, 1) := by decide +kernel
theorem d_L_clearHeads_10 : decode b_L_clearHeads 10 = .ok (.istore 4, 2) := by decide +kernel
theorem d_L_clearHeads_12 : decode b_L_clearHeads 12 = .ok (.iload 4, 2) := by decide +kernel
theorem d_L_clearHeads_14 : decode b_L_clearHeads 14 = .ok (.iload_n 2, 1) := by decide +kernel
theorem d_L_clearHeads_15 : decode b_L_clearHeads 15 = .ok (.if_icmp .ge 25, 3) := by decide +kernel
theorem d_L_clearHeads_18 : decode b_L_clearHeads 18 = .ok (.aload_n 0, 1) := by decide +kernel
theorem d_L_clearHeads_19 : decode b_L_clearHeads 19 = .ok (.getfield 10, 3) := by decide +kernel
theorem d_L_clearHeads_22 : decode b_L_clearHeads 22 = .ok (.iload_n 3, 1) := by decide +kernel
theorem d_L_clearHeads_23 : decode b_L_clearHeads 23 = .ok (.lconst 0, 1) := by decide +kernel
theorem d_L_clearHeads_24 : decode b_L_clearHeads 24 = .ok (.lastore, 1) := by decide +kernel
theorem d_L_clearHeads_25 : decode b_L_clearHeads 25 = .ok (.iload_n 3, 1) := by decide +kernel
theorem d_L_clearHeads_26 : decode b_L_clearHeads 26 = .ok (.aload_n 1, 1) := by decide +kernel
theorem d_L_clearHeads_27 : decode b_L_clearHeads 27 = .ok (.getfield 42, 3) := by decide +kernel
theorem d_L_clearHeads_30 : decode b_L_clearHeads 30 = .ok (.invokestatic 67, 3) := by decide +kernel
theorem d_L_clearHeads_33 : decode b_L_clearHeads 33 = .ok (.istore_n 3, 1) := by decide +kernel
theorem d_L_clearHeads_34 : decode b_L_clearHeads 34 = .ok (.iinc 4 1, 3) := by decide +kernel
theorem d_L_clearHeads_37 : decode b_L_clearHeads 37 = .ok (.goto (-25), 3) := by decide +kernel
theorem d_L_clearHeads_40 : decode b_L_clearHeads 40 = .ok (.return_, 1) := by decide +kernel
def fm_L_clearHeads_B12 (I0 : IS) (x8 : Int32) (x21 : Int32) (x22 : Int32) (J23 : JS) : Option (Nat × Int32 × Int32 × JS) :=
  if x8 ≤ x22 then some (1, x21, x22, J23) else grd (inB x21 65536) (bnd (sJ J23 3 x21.toNatClampNeg (0 : Int64)) (fun J38 => ob1 (fm_L_setAfter x21 (I0 5 0)) (fun x46 => bnd (x22 + (1 : Int32)) (fun x55 => some (0, x46, x55, J38)))))
def fm_L_clearHeads (I0 : IS) (J0 : JS) : Option (JS) :=
  ob1 (fm_H_size I0) (fun x1 => bnd ((1 : Int32) <<< (x1 &&& 31)) (fun x8 => ob4 (iter (fun z : Int32 × Int32 × JS => fm_L_clearHeads_B12 I0 x8 z.1 z.2.1 z.2.2) FU ((0 : Int32), (0 : Int32), J0)) (fun _ x61 x62 J63 => some J63)))
set_option maxHeartbeats 4000000 in
set_option maxRecDepth 100000 in
theorem cm_L_clearHeads (l : Launch) (D : va_G) (ca : Nat → ClassId) (ad : Nat → Nat) (hs : Nat → Option Nat) {I0 : IS} {J0 : JS} {r : JS} (hf : fm_L_clearHeads I0 J0 = some r) : CtV l y_L_clearHeads (Cond.code y_L_clearHeads b_L_clearHeads 5 none :: TB) { frames := 2, cells := 0, slots := 0, locals := 40 } [.ref (ad 21), .ref (ad 0)] D cls_all (tysC ca) NN (wC ca ad hs I0 J0) (wC ca ad hs I0 r) := by
  refine jd_metV (cc := b_L_clearHeads) (by decide) rfl (Nat.le_of_ble_eq_true rfl) (lv := [(0, .ref (ad 21)), (1, .ref (ad 0))]) rfl ?_
  intro p e R s m args below meth c A Q ls cx hR hK hN hD0 hA hP hS hl hend
  have hx := cx.1
  have hb := cx.2.1
  have hml := cx.2.2.1
  have hown := cx.2.2.2.1
  have hts := cx.2.2.2.2
  have hD : ∀ I J, va_D A (wC ca ad hs I J) := fun I J => jd_Dc hD0 rfl
  unfold fm_L_clearHeads at hf
  refine lv_iconst (v := 1) hx hb d_L_clearHeads_0 (by decide) ?_
  refine lv_aload_n hx hb d_L_clearHeads_1 rfl (lv_at hl 1 rfl) ?_
  obtain ⟨x1, hc2, hf3⟩ := ob1_ex hf
  refine jd_ci (va_runV (As := []) (rest := [.int (1 : Int32)]) cx (cm_H_size l D ca ad hs hc2 s.heap.size) (cwV 0 hts (jd_gV tb_245 tb_197 tb_198 tb_52 tb_199) rfl rfl rfl ⟨rfl, by decide, by decide, rfl⟩ (by rw [hR]; decide)) ⟨jd_blind nWc, (va_recv hK hP (ci := 0) (q0 := 0) rfl rfl), (jd_pre (av := [.ref (ad 0)]) hP hK (hD I0 J0) (fun U h => nWm h hN))⟩ rfl rfl hl.1 rfl (lv_room (Nat.le_of_ble_eq_true rfl)) d_L_clearHeads_2 ⟨Nat.zero_le _, Nat.zero_le _⟩) hS (hD I0 J0) hA (fun H4 L5 hP6 hS7 => ?_)
  refine lv_ishl hx hb d_L_clearHeads_5 ?_
  obtain ⟨x8, e9, hf10⟩ := bnd_ex hf3
  refine jd_tni e9 ?_
  refine lv_istore_n hx hb d_L_clearHeads_6 rfl hl (by decide) (lv' := [(2, .int x8), (0, .ref (ad 21)), (1, .ref (ad 0))]) rfl (fun ls11 hl12 => ?_)
  refine lv_iconst (v := 0) hx hb d_L_clearHeads_7 (by decide) ?_
  refine lv_istore_n hx hb d_L_clearHeads_8 rfl hl12 (by decide) (lv' := [(3, .int (0 : Int32)), (2, .int x8), (0, .ref (ad 21)), (1, .ref (ad 0))]) rfl (fun ls13 hl14 => ?_)
  refine lv_iconst (v := 0) hx hb d_L_clearHeads_9 (by decide) ?_
  refine lv_istore hx hb d_L_clearHeads_10 hl14 (by decide) (lv' := [(4, .int (0 : Int32)), (3, .int (0 : Int32)), (2, .int x8), (0, .ref (ad 21)), (1, .ref (ad 0))]) rfl (fun ls15 hl16 => ?_)
  obtain ⟨tg60, x61, x62, J63, ho64, hf65⟩ := ob4_ex hf10
  have kx12_1 : ∀ (H66 : Heap) (L67 : List Loc) (ls68 : Array Slot), va_P D cls_all (wC ca ad hs I0 J63) H66 → va_S A s.heap H66 L67 → lv_has ls68 5 [] → W p l e R s m args below meth c H66 L67 0 0 Q (F0 m 40 ls68 []) := by
    intro H66 L67 ls68 hP69 hS70 hl71
    cases hf65
    exact hend H66 L67 40 ls68 hP69 hS70 d_L_clearHeads_40
  refine iter_ind (C := fun z : Int32 × Int32 × JS => ∀ (H24 : Heap) (L25 : List Loc) (ls26 : Array Slot), va_P D cls_all (wC ca ad hs I0 z.2.2) H24 → va_S A s.heap H24 L25 → lv_has ls26 5 [(0, .ref (ad 21)), (1, .ref (ad 0)), (2, .int x8), (3, .int z.1), (4, .int z.2.1)] → W p l e R s m args below meth c H24 L25 0 0 Q (F0 m 12 ls26 [])) (fun z20 o19 hz31 hc17 he18 => ?_) _ _ ho64 H4 L5 ls15 hP6 hS7 (lv_sub hl16 [3, 4, 2, 1, 0] rfl)
  obtain ⟨x21, x22, J23⟩ := z20
  intro H24 L25 ls26 hP27 hS28 hl29
  have hf30 : fm_L_clearHeads_B12 I0 x8 x21 x22 J23 = some o19 := hz31
  unfold fm_L_clearHeads_B12 at hf30
  refine lv_iload hx hb d_L_clearHeads_12 (lv_at hl29 4 rfl) ?_
  refine lv_iload_n hx hb d_L_clearHeads_14 rfl (lv_at hl29 2 rfl) ?_
  refine lv_icmp_ge (tgt := 40) hx hb d_L_clearHeads_15 rfl (fun h32 => ?_) (fun h32 => ?_)
  · have hf33 := ifp hf30 h32
    cases hf33
    have e35 := he18 (by show (1 : Nat) ≠ 0; decide)
    cases e35
    exact kx12_1 H24 L25 ls26 hP27 hS28 (lv_sub hl29 [] rfl)
  · have hf34 := ifn hf30 h32
    refine lv_aload_n hx hb d_L_clearHeads_18 rfl (lv_at hl29 0 rfl) ?_
    refine va_get (D := D) (ci := 5) (v := .ref (ad 22)) (C := R_L) (T := F_L) (N := 4) hx hb hts (fun w h => List.mem_cons_of_mem _ (uw_L w h)) hown hK hP27 21 rfl rfl 0 (by decide) (hts _ (List.mem_cons_of_mem _ tb_89)) (fun _ h => h) rfl d_L_clearHeads_19 ?_
    refine lv_iload_n hx hb d_L_clearHeads_22 rfl (lv_at hl29 3 rfl) ?_
    refine lv_lconst (v := 0) hx hb d_L_clearHeads_23 (by decide) ?_
    obtain ⟨hg36, hf37⟩ := grd_ex hf34
    obtain ⟨J38, e39, hf40⟩ := bnd_ex hf37
    refine va_last hx hb hK hP27 (hD I0 J23) hS28 22 3 rfl rfl (inB_in hg36) d_L_clearHeads_24 (fun H41 L42 hp45 _ hS44 => ?_)
    have hP43 : va_P D cls_all (wC ca ad hs I0 J38) H41 := by rw [e39]; exact hp45
    refine lv_iload_n hx hb d_L_clearHeads_25 rfl (lv_at hl29 3 rfl) ?_
    refine lv_aload_n hx hb d_L_clearHeads_26 rfl (lv_at hl29 1 rfl) ?_
    refine va_get (D := D) (ci := 0) (v := .int (I0 5 0)) (C := R_H) (T := F_H) (N := 9) hx hb hts (fun w h => List.mem_cons_of_mem _ (uw_H w h)) hown hK hP43 0 rfl rfl 7 (by decide) (hts _ (List.mem_cons_of_mem _ tb_555)) (fun _ h => h) rfl d_L_clearHeads_27 ?_
    obtain ⟨x46, hc47, hf48⟩ := ob1_ex hf40
    refine jd_ci (va_runS (As := [.int x21, .int (I0 5 0)]) (rest := []) cx (cm_L_setAfter l D ca (wC ca ad hs I0 J38) (I0 := I0) (J0 := J38) hc47 H41.size) (va_cwS 2 hts (jd_gS2 tb_246 tb_247 tb_45 tb_248) rfl rfl rfl ⟨by decide, by decide, rfl⟩ (by rw [hR]; decide)) ⟨jd_blind nWc, (jd_pre (av := [.int x21, .int (I0 5 0)]) hP43 hK (hD I0 J38) (fun U h => nWm h hN))⟩ rfl rfl hl29.1 rfl (lv_room (Nat.le_of_ble_eq_true rfl)) d_L_clearHeads_30 ⟨Nat.zero_le _, Nat.zero_le _⟩) hS44 (hD I0 J38) hA (fun H49 L50 hP51 hS52 => ?_)
    refine lv_istore_n hx hb d_L_clearHeads_33 rfl hl29 (by decide) (lv' := [(3, .int x46), (0, .ref (ad 21)), (1, .ref (ad 0)), (2, .int x8), (4, .int x22)]) rfl (fun ls53 hl54 => ?_)
    obtain ⟨x55, e56, hf57⟩ := bnd_ex hf48
    refine lv_iinc hx hb d_L_clearHeads_34 hl54 (k := 4) rfl (v := x55) (by rw [e56]; rfl) (by decide) (lv' := [(4, .int x55), (3, .int x46), (0, .ref (ad 21)), (1, .ref (ad 0)), (2, .int x8)]) rfl (fun ls58 hl59 => ?_)
    refine lv_goto (tgt := 12) hx hb d_L_clearHeads_37 rfl ?_
    cases hf57
    exact hc17 rfl H49 L50 ls58 hP51 hS52 (lv_sub hl59 [2, 3, 4, 1, 0] rfl)
theorem d_L_handOn_0 : decode b_L_handOn 0 = .ok (.aload_n 0, 1) := by decide +kernel
theorem d_L_handOn_1 : decode b_L_handOn 1 = .ok (.aload_n 1, 1) := by decide +kernel
theorem d_L_handOn_2 : decode b_L_handOn 2 = .ok (.getfield 42, 3) := by decide +kernel
theorem d_L_handOn_5 : decode b_L_handOn 5 = .ok (.iload_n 2, 1) := by decide +kernel
theorem d_L_handOn_6 : decode b_L_handOn 6 = .ok (.iconst (-1), 1) := by decide +kernel
theorem d_L_handOn_7 : decode b_L_handOn 7 = .ok (.ixor, 1) := by decide +kernel
theorem d_L_handOn_8 : decode b_L_handOn 8 = .ok (.iand, 1) := by decide +kernel
theorem d_L_handOn_9 : decode b_L_handOn 9 = .ok (.invokevirtual 80, 3) := by decide +kernel
theorem d_L_handOn_12 : decode b_L_handOn 12 = .ok (.istore_n 3, 1) := by decide +kernel
theorem d_L_handOn_13 : decode b_L_handOn 13 = .ok (.aload_n 0, 1) := by decide +kernel
theorem d_L_handOn_14 : decode b_L_handOn 14 = .ok (.getfield 10, 3) := by decide +kernel
theorem d_L_handOn_17 : decode b_L_handOn 17 = .ok (.iload_n 2, 1) := by decide +kernel
theorem d_L_handOn_18 : decode b_L_handOn 18 = .ok (.laload, 1) := by decide +kernel
theorem d_L_handOn_19 : decode b_L_handOn 19 = .ok (.lstore 4, 2) := by decide +kernel
theorem d_L_handOn_21 : decode b_L_handOn 21 = .ok (.iconst 0, 1) := by decide +kernel
theorem d_L_handOn_22 : decode b_L_handOn 22 = .ok (.istore 6, 2) := by decide +kernel
theorem d_L_handOn_24 : decode b_L_handOn 24 = .ok (.iload 6, 2) := by decide +kernel
theorem d_L_handOn_26 : decode b_L_handOn 26 = .ok (.bipush 16, 2) := by decide +kernel
theorem d_L_handOn_28 : decode b_L_handOn 28 = .ok (.if_icmp .ge 34, 3) := by decide +kernel
theorem d_L_handOn_31 : decode b_L_handOn 31 = .ok (.iload_n 3, 1) := by decide +kernel
theorem d_L_handOn_32 : decode b_L_handOn 32 = .ok (.iload 6, 2) := by decide +kernel
theorem d_L_handOn_34 : decode b_L_handOn 34 = .ok (.ishr, 1) := by decide +kernel
theorem d_L_handOn_35 : decode b_L_handOn 35 = .ok (.iconst 1, 1) := by decide +kernel
theorem d_L_handOn_36 : decode b_L_handOn 36 = .ok (.iand, 1) := by decide +kernel
theorem d_L_handOn_37 : decode b_L_handOn 37 = .ok (.ifCond .eq 19, 3) := by decide +kernel
theorem d_L_handOn_40 : decode b_L_handOn 40 = .ok (.aload_n 0, 1) := by decide +kernel
theorem d_L_handOn_41 : decode b_L_handOn 41 = .ok (.getfield 10, 3) := by decide +kernel
theorem d_L_handOn_44 : decode b_L_handOn 44 = .ok (.iload_n 2, 1) := by decide +kernel
theorem d_L_handOn_45 : decode b_L_handOn 45 = .ok (.iconst 1, 1) := by decide +kernel
theorem d_L_handOn_46 : decode b_L_handOn 46 = .ok (.iload 6, 2) := by decide +kernel
theorem d_L_handOn_48 : decode b_L_handOn 48 = .ok (.ishl, 1) := by decide +kernel
theorem d_L_handOn_49 : decode b_L_handOn 49 = .ok (.ior, 1) := by decide +kernel
theorem d_L_handOn_50 : decode b_L_handOn 50 = .ok (.dup2, 1) := by decide +kernel
theorem d_L_handOn_51 : decode b_L_handOn 51 = .ok (.laload, 1) := by decide +kernel
theorem d_L_handOn_52 : decode b_L_handOn 52 = .ok (.lload 4, 2) := by decide +kernel
theorem d_L_handOn_54 : decode b_L_handOn 54 = .ok (.ladd, 1) := by decide +kernel
theorem d_L_handOn_55 : decode b_L_handOn 55 = .ok (.lastore, 1) := by decide +kernel
theorem d_L_handOn_56 : decode b_L_handOn 56 = .ok (.iinc 6 1, 3) := by decide +kernel
theorem d_L_handOn_59 : decode b_L_handOn 59 = .ok (.goto (-35), 3) := by decide +kernel
theorem d_L_handOn_62 : decode b_L_handOn 62 = .ok (.return_, 1) := by decide +kernel
def fm_L_handOn_B24 (p1 : Int32) (x1 : Int32) (y12 : Int64) (x23 : Int32) (J24 : JS) : Option (Nat × Int32 × JS) :=
  if (16 : Int32) ≤ x23 then some (1, x23, J24) else if ((x1 >>> (x23 &&& 31)) &&& (1 : Int32)) = 0 then bnd (x23 + (1 : Int32)) (fun x40 => some (0, x40, J24)) else grd (inB (p1 ||| ((1 : Int32) <<< (x23 &&& 31))) 65536) (grd (inB (p1 ||| ((1 : Int32) <<< (x23 &&& 31))) 65536) (bnd (sJ J24 3 (p1 ||| ((1 : Int32) <<< (x23 &&& 31))).toNatClampNeg ((J24 3 (p1 ||| ((1 : Int32) <<< (x23 &&& 31))).toNatClampNeg) + y12)) (fun J49 => bnd (x23 + (1 : Int32)) (fun x57 => some (0, x57, J49)))))
def fm_L_handOn (p1 : Int32) (I0 : IS) (J0 : JS) : Option (JS) :=
  ob1 (fm_L_readyOf ((I0 5 0) &&& (p1 ^^^ (-1 : Int32))) I0) (fun x1 => grd (inB p1 65536) (bnd (J0 3 p1.toNatClampNeg) (fun y12 => ob3 (iter (fun z : Int32 × JS => fm_L_handOn_B24 p1 x1 y12 z.1 z.2) FU ((0 : Int32), J0)) (fun _ x63 J64 => some J64))))
set_option maxHeartbeats 4000000 in
set_option maxRecDepth 100000 in
theorem cm_L_handOn (l : Launch) (D : va_G) (ca : Nat → ClassId) (ad : Nat → Nat) (hs : Nat → Option Nat) {p1 : Int32} {I0 : IS} {J0 : JS} {r : JS} (hf : fm_L_handOn p1 I0 J0 = some r) : CtV l y_L_handOn (Cond.code y_L_handOn b_L_handOn 7 none :: TB) { frames := 1, cells := 0, slots := 0, locals := 21 } [.ref (ad 21), .ref (ad 0), .int p1] D cls_all (tysC ca) NN (wC ca ad hs I0 J0) (wC ca ad hs I0 r) := by
  refine jd_metV (cc := b_L_handOn) (by decide) rfl (Nat.le_of_ble_eq_true rfl) (lv := [(0, .ref (ad 21)), (1, .ref (ad 0)), (2, .int p1)]) rfl ?_
  intro p e R s m args below meth c A Q ls cx hR hK hN hD0 hA hP hS hl hend
  have hx := cx.1
  have hb := cx.2.1
  have hml := cx.2.2.1
  have hown := cx.2.2.2.1
  have hts := cx.2.2.2.2
  have hD : ∀ I J, va_D A (wC ca ad hs I J) := fun I J => jd_Dc hD0 rfl
  unfold fm_L_handOn at hf
  refine lv_aload_n hx hb d_L_handOn_0 rfl (lv_at hl 0 rfl) ?_
  refine lv_aload_n hx hb d_L_handOn_1 rfl (lv_at hl 1 rfl) ?_
  refine va_get (D := D) (ci := 0) (v := .int (I0 5 0)) (C := R_H) (T := F_H) (N := 9) hx hb hts (fun w h => List.mem_cons_of_mem _ (uw_H w h)) hown hK hP 0 rfl rfl 7 (by decide) (hts _ (List.mem_cons_of_mem _ tb_555)) (fun _ h => h) rfl d_L_handOn_2 ?_
  refine lv_iload_n hx hb d_L_handOn_5 rfl (lv_at hl 2 rfl) ?_
  refine lv_iconst (v := -1) hx hb d_L_handOn_6 (by decide) ?_
  refine lv_ixor hx hb d_L_handOn_7 ?_
  refine lv_iand hx hb d_L_handOn_8 ?_
  obtain ⟨x1, hc2, hf3⟩ := ob1_ex hf
  refine jd_ci (va_runV (As := [.int ((I0 5 0) &&& (p1 ^^^ (-1 : Int32)))]) (rest := []) cx (cm_L_readyOf l D ca ad hs hc2 s.heap.size) (cwV 1 hts (jd_gV tb_252 tb_253 tb_13 tb_45 tb_254) rfl rfl rfl ⟨rfl, by decide, by decide, rfl⟩ (by rw [hR]; decide)) ⟨jd_blind nWc, (va_recv hK hP (ci := 5) (q0 := 21) rfl rfl), (jd_pre (av := [.ref (ad 21), .int ((I0 5 0) &&& (p1 ^^^ (-1 : Int32)))]) hP hK (hD I0 J0) (fun U h => nWm h hN))⟩ rfl rfl hl.1 rfl (lv_room (Nat.le_of_ble_eq_true rfl)) d_L_handOn_9 ⟨Nat.zero_le _, Nat.zero_le _⟩) hS (hD I0 J0) hA (fun H4 L5 hP6 hS7 => ?_)
  refine lv_istore_n hx hb d_L_handOn_12 rfl hl (by decide) (lv' := [(3, .int x1), (0, .ref (ad 21)), (1, .ref (ad 0)), (2, .int p1)]) rfl (fun ls8 hl9 => ?_)
  refine lv_aload_n hx hb d_L_handOn_13 rfl (lv_at hl9 1 rfl) ?_
  refine va_get (D := D) (ci := 5) (v := .ref (ad 22)) (C := R_L) (T := F_L) (N := 4) hx hb hts (fun w h => List.mem_cons_of_mem _ (uw_L w h)) hown hK hP6 21 rfl rfl 0 (by decide) (hts _ (List.mem_cons_of_mem _ tb_89)) (fun _ h => h) rfl d_L_handOn_14 ?_
  refine lv_iload_n hx hb d_L_handOn_17 rfl (lv_at hl9 3 rfl) ?_
  obtain ⟨hg10, hf11⟩ := grd_ex hf3
  refine va_lald hx hb hK hP6 22 3 rfl rfl (inB_in hg10) d_L_handOn_18 ?_
  obtain ⟨y12, e13, hf14⟩ := bnd_ex hf11
  refine jd_tnl e13 ?_
  refine lv_lstore hx hb d_L_handOn_19 hl9 (by decide) (lv' := [(4, .long y12), (3, .int x1), (0, .ref (ad 21)), (1, .ref (ad 0)), (2, .int p1)]) rfl (fun ls15 hl16 => ?_)
  refine lv_iconst (v := 0) hx hb d_L_handOn_21 (by decide) ?_
  refine lv_istore hx hb d_L_handOn_22 hl16 (by decide) (lv' := [(6, .int (0 : Int32)), (4, .long y12), (3, .int x1), (0, .ref (ad 21)), (1, .ref (ad 0)), (2, .int p1)]) rfl (fun ls17 hl18 => ?_)
  obtain ⟨tg62, x63, J64, ho65, hf66⟩ := ob3_ex hf14
  have kx24_1 : ∀ (H67 : Heap) (L68 : List Loc) (ls69 : Array Slot), va_P D cls_all (wC ca ad hs I0 J64) H67 → va_S A s.heap H67 L68 → lv_has ls69 7 [] → W p l e R s m args below meth c H67 L68 0 0 Q (F0 m 62 ls69 []) := by
    intro H67 L68 ls69 hP70 hS71 hl72
    cases hf66
    exact hend H67 L68 62 ls69 hP70 hS71 d_L_handOn_62
  refine iter_ind (C := fun z : Int32 × JS => ∀ (H25 : Heap) (L26 : List Loc) (ls27 : Array Slot), va_P D cls_all (wC ca ad hs I0 z.2) H25 → va_S A s.heap H25 L26 → lv_has ls27 7 [(0, .ref (ad 21)), (2, .int p1), (3, .int x1), (4, .long y12), (6, .int z.1)] → W p l e R s m args below meth c H25 L26 0 0 Q (F0 m 24 ls27 [])) (fun z22 o21 hz32 hc19 he20 => ?_) _ _ ho65 H4 L5 ls17 hP6 hS7 (lv_sub hl18 [3, 5, 2, 1, 0] rfl)
  obtain ⟨x23, J24⟩ := z22
  intro H25 L26 ls27 hP28 hS29 hl30
  have hf31 : fm_L_handOn_B24 p1 x1 y12 x23 J24 = some o21 := hz32
  unfold fm_L_handOn_B24 at hf31
  refine lv_iload hx hb d_L_handOn_24 (lv_at hl30 4 rfl) ?_
  refine lv_bipush (v := 16) hx hb d_L_handOn_26 (by decide) ?_
  refine lv_icmp_ge (tgt := 62) hx hb d_L_handOn_28 rfl (fun h33 => ?_) (fun h33 => ?_)
  · have hf34 := ifp hf31 h33
    cases hf34
    have e36 := he20 (by show (1 : Nat) ≠ 0; decide)
    cases e36
    exact kx24_1 H25 L26 ls27 hP28 hS29 (lv_sub hl30 [] rfl)
  · have hf35 := ifn hf31 h33
    refine lv_iload_n hx hb d_L_handOn_31 rfl (lv_at hl30 2 rfl) ?_
    refine lv_iload hx hb d_L_handOn_32 (lv_at hl30 4 rfl) ?_
    refine lv_ishr hx hb d_L_handOn_34 ?_
    refine lv_iconst (v := 1) hx hb d_L_handOn_35 (by decide) ?_
    refine lv_iand hx hb d_L_handOn_36 ?_
    refine lv_if_eq (tgt := 56) hx hb d_L_handOn_37 rfl (fun h37 => ?_) (fun h37 => ?_)
    · have hf38 := ifp hf35 h37
      obtain ⟨x40, e41, hf42⟩ := bnd_ex hf38
      refine lv_iinc hx hb d_L_handOn_56 hl30 (k := 4) rfl (v := x40) (by rw [e41]; rfl) (by decide) (lv' := [(6, .int x40), (0, .ref (ad 21)), (2, .int p1), (3, .int x1), (4, .long y12)]) rfl (fun ls43 hl44 => ?_)
      refine lv_goto (tgt := 24) hx hb d_L_handOn_59 rfl ?_
      cases hf42
      exact hc19 rfl H25 L26 ls43 hP28 hS29 (lv_sub hl44 [1, 2, 3, 4, 0] rfl)
    · have hf39 := ifn hf35 h37
      refine lv_aload_n hx hb d_L_handOn_40 rfl (lv_at hl30 0 rfl) ?_
      refine va_get (D := D) (ci := 5) (v := .ref (ad 22)) (C := R_L) (T := F_L) (N := 4) hx hb hts (fun w h => List.mem_cons_of_mem _ (uw_L w h)) hown hK hP28 21 rfl rfl 0 (by decide) (hts _ (List.mem_cons_of_mem _ tb_89)) (fun _ h => h) rfl d_L_handOn_41 ?_
      refine lv_iload_n hx hb d_L_handOn_44 rfl (lv_at hl30 1 rfl) ?_
      refine lv_iconst (v := 1) hx hb d_L_handOn_45 (by decide) ?_
      refine lv_iload hx hb d_L_handOn_46 (lv_at hl30 4 rfl) ?_
      refine lv_ishl hx hb d_L_handOn_48 ?_
      refine lv_ior hx hb d_L_handOn_49 ?_
      refine lv_dup2_11 hx hb d_L_handOn_50 rfl rfl ?_
      obtain ⟨hg45, hf46⟩ := grd_ex hf39
      refine va_lald hx hb hK hP28 22 3 rfl rfl (inB_in hg45) d_L_handOn_51 ?_
      refine lv_lload hx hb d_L_handOn_52 (lv_at hl30 3 rfl) ?_
      refine lv_ladd hx hb d_L_handOn_54 ?_
      obtain ⟨hg47, hf48⟩ := grd_ex hf46
      obtain ⟨J49, e50, hf51⟩ := bnd_ex hf48
      refine va_last hx hb hK hP28 (hD I0 J24) hS29 22 3 rfl rfl (inB_in hg47) d_L_handOn_55 (fun H52 L53 hp56 _ hS55 => ?_)
      have hP54 : va_P D cls_all (wC ca ad hs I0 J49) H52 := by rw [e50]; exact hp56
      obtain ⟨x57, e58, hf59⟩ := bnd_ex hf51
      refine lv_iinc hx hb d_L_handOn_56 hl30 (k := 4) rfl (v := x57) (by rw [e58]; rfl) (by decide) (lv' := [(6, .int x57), (0, .ref (ad 21)), (2, .int p1), (3, .int x1), (4, .long y12)]) rfl (fun ls60 hl61 => ?_)
      refine lv_goto (tgt := 24) hx hb d_L_handOn_59 rfl ?_
      cases hf59
      exact hc19 rfl H52 L53 ls60 hP54 hS55 (lv_sub hl61 [1, 2, 3, 4, 0] rfl)
theorem d_L_countHeads_0 : decode b_L_countHeads 0 = .ok (.aload_n 0, 1) := by decide +kernel
theorem d_L_countHeads_1 : decode b_L_countHeads 1 = .ok (.aload_n 1, 1) := by decide +kernel
theorem d_L_countHeads_2 : decode b_L_countHeads 2 = .ok (.invokevirtual 93, 3) := by decide +kernel
theorem d_L_countHeads_5 : decode b_L_countHeads 5 = .ok (.aload_n 0, 1) := by decide +kernel
theorem d_L_countHeads_6 : decode b_L_countHeads 6 = .ok (.getfield 10, 3) := by decide +kernel
theorem d_L_countHeads_9 : decode b_L_countHeads 9 = .ok (.iconst 0, 1) := by decide +kernel
theorem d_L_countHeads_10 : decode b_L_countHeads 10 = .ok (.lconst 1, 1) := by decide +kernel
theorem d_L_countHeads_11 : decode b_L_countHeads 11 = .ok (.lastore, 1) := by decide +kernel
theorem d_L_countHeads_12 : decode b_L_countHeads 12 = .ok (.iconst 1, 1) := by decide +kernel
theorem d_L_countHeads_13 : decode b_L_countHeads 13 = .ok (.aload_n 1, 1) := by decide +kernel
theorem d_L_countHeads_14 : decode b_L_countHeads 14 = .ok (.invokevirtual 50, 3) := by decide +kernel
theorem d_L_countHeads_17 : decode b_L_countHeads 17 = .ok (.ishl, 1) := by decide +kernel
theorem d_L_countHeads_18 : decode b_L_countHeads 18 = .ok (.istore_n 2, 1) := by decide +kernel
theorem d_L_countHeads_19 : decode b_L_countHeads 19 = .ok (.iconst 0, 1) := by decide +kernel
theorem d_L_countHeads_20 : decode b_L_countHeads 20 = .ok (.istore_n 3, 1) := by decide +kernel
theorem d_L_countHeads_21 : decode b_L_countHeads 21 = .ok (.iconst 0, 1) := by decide +kernel
theorem d_L_countHeads_22 : decode b_L_countHeads 22 = .ok (.istore 4, 2) := by decide +kernel
theorem d_L_countHeads_24 : decode b_L_countHeads 24 = .ok (.iload 4, 2) := by decide +kernel
theorem d_L_countHeads_26 : decode b_L_countHeads 26 = .ok (.iload_n 2, 1) := by decide +kernel
theorem d_L_countHeads_27 : decode b_L_countHeads 27 = .ok (.if_icmp .ge 35, 3) := by decide +kernel
theorem d_L_countHeads_30 : decode b_L_countHeads 30 = .ok (.aload_n 0, 1) := by decide +kernel
theorem d_L_countHeads_31 : decode b_L_countHeads 31 = .ok (.getfield 10, 3) := by decide +kernel
theorem d_L_countHeads_34 : decode b_L_countHeads 34 = .ok (.iload_n 3, 1) := by decide +kernel
theorem d_L_countHeads_35 : decode b_L_countHeads 35 = .ok (.laload, 1) := by decide +kernel
theorem d_L_countHeads_36 : decode b_L_countHeads 36 = .ok (.lconst 0, 1) := by decide +kernel
theorem d_L_countHeads_37 : decode b_L_countHeads 37 = .ok (.lcmp, 1) := by decide +kernel
theorem d_L_countHeads_38 : decode b_L_countHeads 38 = .ok (.ifCond .eq 9, 3) := by decide +kernel
theorem d_L_countHeads_41 : decode b_L_countHeads 41 = .ok (.aload_n 0, 1) := by decide +kernel
theorem d_L_countHeads_42 : decode b_L_countHeads 42 = .ok (.aload_n 1, 1) := by decide +kernel
theorem d_L_countHeads_43 : decode b_L_countHeads 43 = .ok (.iload_n 3, 1) := by decide +kernel
theorem d_L_countHeads_44 : decode b_L_countHeads 44 = .ok (.invokevirtual 96, 3) := by decide +kernel
theorem d_L_countHeads_47 : decode b_L_countHeads 47 = .ok (.iload_n 3, 1) := by decide +kernel
theorem d_L_countHeads_48 : decode b_L_countHeads 48 = .ok (.aload_n 1, 1) := by decide +kernel
theorem d_L_countHeads_49 : decode b_L_countHeads 49 = .ok (.getfield 42, 3) := by decide +kernel
theorem d_L_countHeads_52 : decode b_L_countHeads 52 = .ok (.invokestatic 67, 3) := by decide +kernel
theorem d_L_countHeads_55 : decode b_L_countHeads 55 = .ok (.istore_n 3, 1) := by decide +kernel
theorem d_L_countHeads_56 : decode b_L_countHeads 56 = .ok (.iinc 4 1, 3) := by decide +kernel
theorem d_L_countHeads_59 : decode b_L_countHeads 59 = .ok (.goto (-35), 3) := by decide +kernel
theorem d_L_countHeads_62 : decode b_L_countHeads 62 = .ok (.return_, 1) := by decide +kernel
def fm_L_countHeads_B24 (I0 : IS) (x25 : Int32) (x38 : Int32) (x39 : Int32) (J40 : JS) : Option (Nat × Int32 × Int32 × JS) :=
  if x25 ≤ x39 then some (1, x38, x39, J40) else grd (inB x38 65536) (if (lg_cmp (J40 3 x38.toNatClampNeg) (0 : Int64)) = 0 then ob1 (fm_L_setAfter x38 (I0 5 0)) (fun x58 => bnd (x39 + (1 : Int32)) (fun x67 => some (0, x58, x67, J40))) else ob1 (fm_L_handOn x38 I0 J40) (fun J72 => ob1 (fm_L_setAfter x38 (I0 5 0)) (fun x79 => bnd (x39 + (1 : Int32)) (fun x88 => some (0, x79, x88, J72)))))
def fm_L_countHeads (I0 : IS) (J0 : JS) : Option (JS) :=
  ob1 (fm_L_clearHeads I0 J0) (fun J1 => grd (inB (0 : Int32) 65536) (bnd (sJ J1 3 (0 : Int32).toNatClampNeg (1 : Int64)) (fun J10 => ob1 (fm_H_size I0) (fun x18 => bnd ((1 : Int32) <<< (x18 &&& 31)) (fun x25 => ob4 (iter (fun z : Int32 × Int32 × JS => fm_L_countHeads_B24 I0 x25 z.1 z.2.1 z.2.2) FU ((0 : Int32), (0 : Int32), J10)) (fun _ x94 x95 J96 => some J96))))))
set_option maxHeartbeats 4000000 in
set_option maxRecDepth 100000 in
theorem cm_L_countHeads (l : Launch) (D : va_G) (ca : Nat → ClassId) (ad : Nat → Nat) (hs : Nat → Option Nat) {I0 : IS} {J0 : JS} {r : JS} (hf : fm_L_countHeads I0 J0 = some r) : CtV l y_L_countHeads (Cond.code y_L_countHeads b_L_countHeads 5 none :: TB) { frames := 3, cells := 0, slots := 0, locals := 64 } [.ref (ad 21), .ref (ad 0)] D cls_all (tysC ca) NN (wC ca ad hs I0 J0) (wC ca ad hs I0 r) := by
  refine jd_metV (cc := b_L_countHeads) (by decide) rfl (Nat.le_of_ble_eq_true rfl) (lv := [(0, .ref (ad 21)), (1, .ref (ad 0))]) rfl ?_
  intro p e R s m args below meth c A Q ls cx hR hK hN hD0 hA hP hS hl hend
  have hx := cx.1
  have hb := cx.2.1
  have hml := cx.2.2.1
  have hown := cx.2.2.2.1
  have hts := cx.2.2.2.2
  have hD : ∀ I J, va_D A (wC ca ad hs I J) := fun I J => jd_Dc hD0 rfl
  unfold fm_L_countHeads at hf
  refine lv_aload_n hx hb d_L_countHeads_0 rfl (lv_at hl 0 rfl) ?_
  refine lv_aload_n hx hb d_L_countHeads_1 rfl (lv_at hl 1 rfl) ?_
  obtain ⟨J1, hc2, hf3⟩ := ob1_ex hf
  refine jd_cv (va_runV (As := [.ref (ad 0)]) (rest := []) cx (cm_L_clearHeads l D ca ad hs hc2 s.heap.size) (cwV 1 hts (jd_gV tb_242 tb_243 tb_11 tb_45 tb_244) rfl rfl rfl ⟨rfl, by decide, by decide, rfl⟩ (by rw [hR]; decide)) ⟨jd_blind nWc, (va_recv hK hP (ci := 5) (q0 := 21) rfl rfl), (jd_pre (av := [.ref (ad 21), .ref (ad 0)]) hP hK (hD I0 J0) (fun U h => nWm h hN))⟩ rfl rfl hl.1 rfl (lv_room (Nat.le_of_ble_eq_true rfl)) d_L_countHeads_2 ⟨Nat.zero_le _, Nat.zero_le _⟩) hS (hD I0 J0) hA (fun H4 L5 hP6 hS7 => ?_)
  refine lv_aload_n hx hb d_L_countHeads_5 rfl (lv_at hl 0 rfl) ?_
  refine va_get (D := D) (ci := 5) (v := .ref (ad 22)) (C := R_L) (T := F_L) (N := 4) hx hb hts (fun w h => List.mem_cons_of_mem _ (uw_L w h)) hown hK hP6 21 rfl rfl 0 (by decide) (hts _ (List.mem_cons_of_mem _ tb_89)) (fun _ h => h) rfl d_L_countHeads_6 ?_
  refine lv_iconst (v := 0) hx hb d_L_countHeads_9 (by decide) ?_
  refine lv_lconst (v := 1) hx hb d_L_countHeads_10 (by decide) ?_
  obtain ⟨hg8, hf9⟩ := grd_ex hf3
  obtain ⟨J10, e11, hf12⟩ := bnd_ex hf9
  refine va_last hx hb hK hP6 (hD I0 J1) hS7 22 3 rfl rfl (inB_in hg8) d_L_countHeads_11 (fun H13 L14 hp17 _ hS16 => ?_)
  have hP15 : va_P D cls_all (wC ca ad hs I0 J10) H13 := by rw [e11]; exact hp17
  refine lv_iconst (v := 1) hx hb d_L_countHeads_12 (by decide) ?_
  refine lv_aload_n hx hb d_L_countHeads_13 rfl (lv_at hl 1 rfl) ?_
  obtain ⟨x18, hc19, hf20⟩ := ob1_ex hf12
  refine jd_ci (va_runV (As := []) (rest := [.int (1 : Int32)]) cx (cm_H_size l D ca ad hs hc19 H13.size) (cwV 0 hts (jd_gV tb_245 tb_197 tb_198 tb_52 tb_199) rfl rfl rfl ⟨rfl, by decide, by decide, rfl⟩ (by rw [hR]; decide)) ⟨jd_blind nWc, (va_recv hK hP15 (ci := 0) (q0 := 0) rfl rfl), (jd_pre (av := [.ref (ad 0)]) hP15 hK (hD I0 J10) (fun U h => nWm h hN))⟩ rfl rfl hl.1 rfl (lv_room (Nat.le_of_ble_eq_true rfl)) d_L_countHeads_14 ⟨Nat.zero_le _, Nat.zero_le _⟩) hS16 (hD I0 J10) hA (fun H21 L22 hP23 hS24 => ?_)
  refine lv_ishl hx hb d_L_countHeads_17 ?_
  obtain ⟨x25, e26, hf27⟩ := bnd_ex hf20
  refine jd_tni e26 ?_
  refine lv_istore_n hx hb d_L_countHeads_18 rfl hl (by decide) (lv' := [(2, .int x25), (0, .ref (ad 21)), (1, .ref (ad 0))]) rfl (fun ls28 hl29 => ?_)
  refine lv_iconst (v := 0) hx hb d_L_countHeads_19 (by decide) ?_
  refine lv_istore_n hx hb d_L_countHeads_20 rfl hl29 (by decide) (lv' := [(3, .int (0 : Int32)), (2, .int x25), (0, .ref (ad 21)), (1, .ref (ad 0))]) rfl (fun ls30 hl31 => ?_)
  refine lv_iconst (v := 0) hx hb d_L_countHeads_21 (by decide) ?_
  refine lv_istore hx hb d_L_countHeads_22 hl31 (by decide) (lv' := [(4, .int (0 : Int32)), (3, .int (0 : Int32)), (2, .int x25), (0, .ref (ad 21)), (1, .ref (ad 0))]) rfl (fun ls32 hl33 => ?_)
  obtain ⟨tg93, x94, x95, J96, ho97, hf98⟩ := ob4_ex hf27
  have kx24_1 : ∀ (H99 : Heap) (L100 : List Loc) (ls101 : Array Slot), va_P D cls_all (wC ca ad hs I0 J96) H99 → va_S A s.heap H99 L100 → lv_has ls101 5 [] → W p l e R s m args below meth c H99 L100 0 0 Q (F0 m 62 ls101 []) := by
    intro H99 L100 ls101 hP102 hS103 hl104
    cases hf98
    exact hend H99 L100 62 ls101 hP102 hS103 d_L_countHeads_62
  refine iter_ind (C := fun z : Int32 × Int32 × JS => ∀ (H41 : Heap) (L42 : List Loc) (ls43 : Array Slot), va_P D cls_all (wC ca ad hs I0 z.2.2) H41 → va_S A s.heap H41 L42 → lv_has ls43 5 [(0, .ref (ad 21)), (1, .ref (ad 0)), (2, .int x25), (3, .int z.1), (4, .int z.2.1)] → W p l e R s m args below meth c H41 L42 0 0 Q (F0 m 24 ls43 [])) (fun z37 o36 hz48 hc34 he35 => ?_) _ _ ho97 H21 L22 ls32 hP23 hS24 (lv_sub hl33 [3, 4, 2, 1, 0] rfl)
  obtain ⟨x38, x39, J40⟩ := z37
  intro H41 L42 ls43 hP44 hS45 hl46
  have hf47 : fm_L_countHeads_B24 I0 x25 x38 x39 J40 = some o36 := hz48
  unfold fm_L_countHeads_B24 at hf47
  refine lv_iload hx hb d_L_countHeads_24 (lv_at hl46 4 rfl) ?_
  refine lv_iload_n hx hb d_L_countHeads_26 rfl (lv_at hl46 2 rfl) ?_
  refine lv_icmp_ge (tgt := 62) hx hb d_L_countHeads_27 rfl (fun h49 => ?_) (fun h49 => ?_)
  · have hf50 := ifp hf47 h49
    cases hf50
    have e52 := he35 (by show (1 : Nat) ≠ 0; decide)
    cases e52
    exact kx24_1 H41 L42 ls43 hP44 hS45 (lv_sub hl46 [] rfl)
  · have hf51 := ifn hf47 h49
    refine lv_aload_n hx hb d_L_countHeads_30 rfl (lv_at hl46 0 rfl) ?_
    refine va_get (D := D) (ci := 5) (v := .ref (ad 22)) (C := R_L) (T := F_L) (N := 4) hx hb hts (fun w h => List.mem_cons_of_mem _ (uw_L w h)) hown hK hP44 21 rfl rfl 0 (by decide) (hts _ (List.mem_cons_of_mem _ tb_89)) (fun _ h => h) rfl d_L_countHeads_31 ?_
    refine lv_iload_n hx hb d_L_countHeads_34 rfl (lv_at hl46 3 rfl) ?_
    obtain ⟨hg53, hf54⟩ := grd_ex hf51
    refine va_lald hx hb hK hP44 22 3 rfl rfl (inB_in hg53) d_L_countHeads_35 ?_
    refine lv_lconst (v := 0) hx hb d_L_countHeads_36 (by decide) ?_
    refine W.lcmp hx hb d_L_countHeads_37 ?_
    refine lv_if_eq (tgt := 47) hx hb d_L_countHeads_38 rfl (fun h55 => ?_) (fun h55 => ?_)
    · have hf56 := ifp hf54 h55
      refine lv_iload_n hx hb d_L_countHeads_47 rfl (lv_at hl46 3 rfl) ?_
      refine lv_aload_n hx hb d_L_countHeads_48 rfl (lv_at hl46 1 rfl) ?_
      refine va_get (D := D) (ci := 0) (v := .int (I0 5 0)) (C := R_H) (T := F_H) (N := 9) hx hb hts (fun w h => List.mem_cons_of_mem _ (uw_H w h)) hown hK hP44 0 rfl rfl 7 (by decide) (hts _ (List.mem_cons_of_mem _ tb_555)) (fun _ h => h) rfl d_L_countHeads_49 ?_
      obtain ⟨x58, hc59, hf60⟩ := ob1_ex hf56
      refine jd_ci (va_runS (As := [.int x38, .int (I0 5 0)]) (rest := []) cx (cm_L_setAfter l D ca (wC ca ad hs I0 J40) (I0 := I0) (J0 := J40) hc59 H41.size) (va_cwS 2 hts (jd_gS2 tb_246 tb_247 tb_45 tb_248) rfl rfl rfl ⟨by decide, by decide, rfl⟩ (by rw [hR]; decide)) ⟨jd_blind nWc, (jd_pre (av := [.int x38, .int (I0 5 0)]) hP44 hK (hD I0 J40) (fun U h => nWm h hN))⟩ rfl rfl hl46.1 rfl (lv_room (Nat.le_of_ble_eq_true rfl)) d_L_countHeads_52 ⟨Nat.zero_le _, Nat.zero_le _⟩) hS45 (hD I0 J40) hA (fun H61 L62 hP63 hS64 => ?_)
      refine lv_istore_n hx hb d_L_countHeads_55 rfl hl46 (by decide) (lv' := [(3, .int x58), (0, .ref (ad 21)), (1, .ref (ad 0)), (2, .int x25), (4, .int x39)]) rfl (fun ls65 hl66 => ?_)
      obtain ⟨x67, e68, hf69⟩ := bnd_ex hf60
      refine lv_iinc hx hb d_L_countHeads_56 hl66 (k := 4) rfl (v := x67) (by rw [e68]; rfl) (by decide) (lv' := [(4, .int x67), (3, .int x58), (0, .ref (ad 21)), (1, .ref (ad 0)), (2, .int x25)]) rfl (fun ls70 hl71 => ?_)
      refine lv_goto (tgt := 24) hx hb d_L_countHeads_59 rfl ?_
      cases hf69
      exact hc34 rfl H61 L62 ls70 hP63 hS64 (lv_sub hl71 [2, 3, 4, 1, 0] rfl)
    · have hf57 := ifn hf54 h55
      refine lv_aload_n hx hb d_L_countHeads_41 rfl (lv_at hl46 0 rfl) ?_
      refine lv_aload_n hx hb d_L_countHeads_42 rfl (lv_at hl46 1 rfl) ?_
      refine lv_iload_n hx hb d_L_countHeads_43 rfl (lv_at hl46 3 rfl) ?_
      obtain ⟨J72, hc73, hf74⟩ := ob1_ex hf57
      refine jd_cv (va_runV (As := [.ref (ad 0), .int x38]) (rest := []) cx (cm_L_handOn l D ca ad hs hc73 H41.size) (cwV 2 hts (jd_gV tb_249 tb_250 tb_12 tb_45 tb_251) rfl rfl rfl ⟨rfl, by decide, by decide, rfl⟩ (by rw [hR]; decide)) ⟨jd_blind nWc, (va_recv hK hP44 (ci := 5) (q0 := 21) rfl rfl), (jd_pre (av := [.ref (ad 21), .ref (ad 0), .int x38]) hP44 hK (hD I0 J40) (fun U h => nWm h hN))⟩ rfl rfl hl46.1 rfl (lv_room (Nat.le_of_ble_eq_true rfl)) d_L_countHeads_44 ⟨Nat.zero_le _, Nat.zero_le _⟩) hS45 (hD I0 J40) hA (fun H75 L76 hP77 hS78 => ?_)
      refine lv_iload_n hx hb d_L_countHeads_47 rfl (lv_at hl46 3 rfl) ?_
      refine lv_aload_n hx hb d_L_countHeads_48 rfl (lv_at hl46 1 rfl) ?_
      refine va_get (D := D) (ci := 0) (v := .int (I0 5 0)) (C := R_H) (T := F_H) (N := 9) hx hb hts (fun w h => List.mem_cons_of_mem _ (uw_H w h)) hown hK hP77 0 rfl rfl 7 (by decide) (hts _ (List.mem_cons_of_mem _ tb_555)) (fun _ h => h) rfl d_L_countHeads_49 ?_
      obtain ⟨x79, hc80, hf81⟩ := ob1_ex hf74
      refine jd_ci (va_runS (As := [.int x38, .int (I0 5 0)]) (rest := []) cx (cm_L_setAfter l D ca (wC ca ad hs I0 J72) (I0 := I0) (J0 := J72) hc80 H75.size) (va_cwS 2 hts (jd_gS2 tb_246 tb_247 tb_45 tb_248) rfl rfl rfl ⟨by decide, by decide, rfl⟩ (by rw [hR]; decide)) ⟨jd_blind nWc, (jd_pre (av := [.int x38, .int (I0 5 0)]) hP77 hK (hD I0 J72) (fun U h => nWm h hN))⟩ rfl rfl hl46.1 rfl (lv_room (Nat.le_of_ble_eq_true rfl)) d_L_countHeads_52 ⟨Nat.zero_le _, Nat.zero_le _⟩) hS78 (hD I0 J72) hA (fun H82 L83 hP84 hS85 => ?_)
      refine lv_istore_n hx hb d_L_countHeads_55 rfl hl46 (by decide) (lv' := [(3, .int x79), (0, .ref (ad 21)), (1, .ref (ad 0)), (2, .int x25), (4, .int x39)]) rfl (fun ls86 hl87 => ?_)
      obtain ⟨x88, e89, hf90⟩ := bnd_ex hf81
      refine lv_iinc hx hb d_L_countHeads_56 hl87 (k := 4) rfl (v := x88) (by rw [e89]; rfl) (by decide) (lv' := [(4, .int x88), (3, .int x79), (0, .ref (ad 21)), (1, .ref (ad 0)), (2, .int x25)]) rfl (fun ls91 hl92 => ?_)
      refine lv_goto (tgt := 24) hx hb d_L_countHeads_59 rfl ?_
      cases hf90
      exact hc34 rfl H82 L83 ls91 hP84 hS85 (lv_sub hl92 [2, 3, 4, 1, 0] rfl)
theorem d_L_gather_0 : decode b_L_gather 0 = .ok (.aload_n 0, 1) := by decide +kernel
theorem d_L_gather_1 : decode b_L_gather 1 = .ok (.aload_n 1, 1) := by decide +kernel
theorem d_L_gather_2 : decode b_L_gather 2 = .ok (.getfield 42, 3) := by decide +kernel
theorem d_L_gather_5 : decode b_L_gather 5 = .ok (.iload_n 2, 1) := by decide +kernel
theorem d_L_gather_6 : decode b_L_gather 6 = .ok (.iconst (-1), 1) := by decide +kernel
theorem d_L_gather_7 : decode b_L_gather 7 = .ok (.ixor, 1) := by decide +kernel
theorem d_L_gather_8 : decode b_L_gather 8 = .ok (.iand, 1) := by decide +kernel
theorem d_L_gather_9 : decode b_L_gather 9 = .ok (.invokevirtual 80, 3) := by decide +kernel
theorem d_L_gather_12 : decode b_L_gather 12 = .ok (.istore_n 3, 1) := by decide +kernel
theorem d_L_gather_13 : decode b_L_gather 13 = .ok (.lconst 0, 1) := by decide +kernel
theorem d_L_gather_14 : decode b_L_gather 14 = .ok (.lstore 4, 2) := by decide +kernel
theorem d_L_gather_16 : decode b_L_gather 16 = .ok (.iconst 0, 1) := by decide +kernel
theorem d_L_gather_17 : decode b_L_gather 17 = .ok (.istore 6, 2) := by decide +kernel
theorem d_L_gather_19 : decode b_L_gather 19 = .ok (.iload 6, 2) := by decide +kernel
theorem d_L_gather_21 : decode b_L_gather 21 = .ok (.bipush 16, 2) := by decide +kernel
theorem d_L_gather_23 : decode b_L_gather 23 = .ok (.if_icmp .ge 34, 3) := by decide +kernel
theorem d_L_gather_26 : decode b_L_gather 26 = .ok (.iload_n 3, 1) := by decide +kernel
theorem d_L_gather_27 : decode b_L_gather 27 = .ok (.iload 6, 2) := by decide +kernel
theorem d_L_gather_29 : decode b_L_gather 29 = .ok (.ishr, 1) := by decide +kernel
theorem d_L_gather_30 : decode b_L_gather 30 = .ok (.iconst 1, 1) := by decide +kernel
theorem d_L_gather_31 : decode b_L_gather 31 = .ok (.iand, 1) := by decide +kernel
theorem d_L_gather_32 : decode b_L_gather 32 = .ok (.ifCond .eq 19, 3) := by decide +kernel
theorem d_L_gather_35 : decode b_L_gather 35 = .ok (.lload 4, 2) := by decide +kernel
theorem d_L_gather_37 : decode b_L_gather 37 = .ok (.aload_n 0, 1) := by decide +kernel
theorem d_L_gather_38 : decode b_L_gather 38 = .ok (.getfield 16, 3) := by decide +kernel
theorem d_L_gather_41 : decode b_L_gather 41 = .ok (.iload_n 2, 1) := by decide +kernel
theorem d_L_gather_42 : decode b_L_gather 42 = .ok (.iconst 1, 1) := by decide +kernel
theorem d_L_gather_43 : decode b_L_gather 43 = .ok (.iload 6, 2) := by decide +kernel
theorem d_L_gather_45 : decode b_L_gather 45 = .ok (.ishl, 1) := by decide +kernel
theorem d_L_gather_46 : decode b_L_gather 46 = .ok (.ior, 1) := by decide +kernel
theorem d_L_gather_47 : decode b_L_gather 47 = .ok (.laload, 1) := by decide +kernel
theorem d_L_gather_48 : decode b_L_gather 48 = .ok (.ladd, 1) := by decide +kernel
theorem d_L_gather_49 : decode b_L_gather 49 = .ok (.lstore 4, 2) := by decide +kernel
theorem d_L_gather_51 : decode b_L_gather 51 = .ok (.iinc 6 1, 3) := by decide +kernel
theorem d_L_gather_54 : decode b_L_gather 54 = .ok (.goto (-35), 3) := by decide +kernel
theorem d_L_gather_57 : decode b_L_gather 57 = .ok (.lload 4, 2) := by decide +kernel
theorem d_L_gather_59 : decode b_L_gather 59 = .ok (.lreturn, 1) := by decide +kernel
def fm_L_gather_B19 (p1 : Int32) (J0 : JS) (x1 : Int32) (y18 : Int64) (x19 : Int32) : Option (Nat × Int64 × Int32) :=
  if (16 : Int32) ≤ x19 then some (1, y18, x19) else if ((x1 >>> (x19 &&& 31)) &&& (1 : Int32)) = 0 then bnd (x19 + (1 : Int32)) (fun x35 => some (0, y18, x35)) else grd (inB (p1 ||| ((1 : Int32) <<< (x19 &&& 31))) 65536) (bnd (y18 + (J0 4 (p1 ||| ((1 : Int32) <<< (x19 &&& 31))).toNatClampNeg)) (fun y42 => bnd (x19 + (1 : Int32)) (fun x47 => some (0, y42, x47))))
def fm_L_gather (p1 : Int32) (I0 : IS) (J0 : JS) : Option (Int64) :=
  ob1 (fm_L_readyOf ((I0 5 0) &&& (p1 ^^^ (-1 : Int32))) I0) (fun x1 => ob3 (iter (fun z : Int64 × Int32 => fm_L_gather_B19 p1 J0 x1 z.1 z.2) FU ((0 : Int64), (0 : Int32))) (fun _ y53 x54 => some y53))
set_option maxHeartbeats 4000000 in
set_option maxRecDepth 100000 in
theorem cm_L_gather (l : Launch) (D : va_G) (ca : Nat → ClassId) (ad : Nat → Nat) (hs : Nat → Option Nat) {p1 : Int32} {I0 : IS} {J0 : JS} {r : Int64} (hf : fm_L_gather p1 I0 J0 = some r) : CtL l y_L_gather (Cond.code y_L_gather b_L_gather 7 (some .long) :: TB) { frames := 1, cells := 0, slots := 0, locals := 21 } [.ref (ad 21), .ref (ad 0), .int p1] D cls_all (tysC ca) NN (wC ca ad hs I0 J0) (wC ca ad hs I0 J0) r := by
  refine jd_metL (cc := b_L_gather) (by decide) rfl (Nat.le_of_ble_eq_true rfl) (lv := [(0, .ref (ad 21)), (1, .ref (ad 0)), (2, .int p1)]) rfl ?_
  intro p e R s m args below meth c A Q ls cx hR hK hN hD0 hA hP hS hl hend
  have hx := cx.1
  have hb := cx.2.1
  have hml := cx.2.2.1
  have hown := cx.2.2.2.1
  have hts := cx.2.2.2.2
  have hD : ∀ I J, va_D A (wC ca ad hs I J) := fun I J => jd_Dc hD0 rfl
  unfold fm_L_gather at hf
  refine lv_aload_n hx hb d_L_gather_0 rfl (lv_at hl 0 rfl) ?_
  refine lv_aload_n hx hb d_L_gather_1 rfl (lv_at hl 1 rfl) ?_
  refine va_get (D := D) (ci := 0) (v := .int (I0 5 0)) (C := R_H) (T := F_H) (N := 9) hx hb hts (fun w h => List.mem_cons_of_mem _ (uw_H w h)) hown hK hP 0 rfl rfl 7 (by decide) (hts _ (List.mem_cons_of_mem _ tb_555)) (fun _ h => h) rfl d_L_gather_2 ?_
  refine lv_iload_n hx hb d_L_gather_5 rfl (lv_at hl 2 rfl) ?_
  refine lv_iconst (v := -1) hx hb d_L_gather_6 (by decide) ?_
  refine lv_ixor hx hb d_L_gather_7 ?_
  refine lv_iand hx hb d_L_gather_8 ?_
  obtain ⟨x1, hc2, hf3⟩ := ob1_ex hf
  refine jd_ci (va_runV (As := [.int ((I0 5 0) &&& (p1 ^^^ (-1 : Int32)))]) (rest := []) cx (cm_L_readyOf l D ca ad hs hc2 s.heap.size) (cwV 1 hts (jd_gV tb_252 tb_253 tb_13 tb_45 tb_254) rfl rfl rfl ⟨rfl, by decide, by decide, rfl⟩ (by rw [hR]; decide)) ⟨jd_blind nWc, (va_recv hK hP (ci := 5) (q0 := 21) rfl rfl), (jd_pre (av := [.ref (ad 21), .int ((I0 5 0) &&& (p1 ^^^ (-1 : Int32)))]) hP hK (hD I0 J0) (fun U h => nWm h hN))⟩ rfl rfl hl.1 rfl (lv_room (Nat.le_of_ble_eq_true rfl)) d_L_gather_9 ⟨Nat.zero_le _, Nat.zero_le _⟩) hS (hD I0 J0) hA (fun H4 L5 hP6 hS7 => ?_)
  refine lv_istore_n hx hb d_L_gather_12 rfl hl (by decide) (lv' := [(3, .int x1), (0, .ref (ad 21)), (1, .ref (ad 0)), (2, .int p1)]) rfl (fun ls8 hl9 => ?_)
  refine lv_lconst (v := 0) hx hb d_L_gather_13 (by decide) ?_
  refine lv_lstore hx hb d_L_gather_14 hl9 (by decide) (lv' := [(4, .long (0 : Int64)), (3, .int x1), (0, .ref (ad 21)), (1, .ref (ad 0)), (2, .int p1)]) rfl (fun ls10 hl11 => ?_)
  refine lv_iconst (v := 0) hx hb d_L_gather_16 (by decide) ?_
  refine lv_istore hx hb d_L_gather_17 hl11 (by decide) (lv' := [(6, .int (0 : Int32)), (4, .long (0 : Int64)), (3, .int x1), (0, .ref (ad 21)), (1, .ref (ad 0)), (2, .int p1)]) rfl (fun ls12 hl13 => ?_)
  obtain ⟨tg52, y53, x54, ho55, hf56⟩ := ob3_ex hf3
  have kx19_1 : ∀ (H57 : Heap) (L58 : List Loc) (ls59 : Array Slot), va_P D cls_all (wC ca ad hs I0 J0) H57 → va_S A s.heap H57 L58 → lv_has ls59 7 [(4, .long y53)] → W p l e R s m args below meth c H57 L58 0 0 Q (F0 m 57 ls59 []) := by
    intro H57 L58 ls59 hP60 hS61 hl62
    refine lv_lload hx hb d_L_gather_57 (lv_at hl62 0 rfl) ?_
    cases hf56
    exact hend H57 L58 59 ls59 hP60 hS61 d_L_gather_59
  refine iter_ind (C := fun z : Int64 × Int32 => ∀ (H20 : Heap) (L21 : List Loc) (ls22 : Array Slot), va_P D cls_all (wC ca ad hs I0 J0) H20 → va_S A s.heap H20 L21 → lv_has ls22 7 [(0, .ref (ad 21)), (2, .int p1), (3, .int x1), (4, .long z.1), (6, .int z.2)] → W p l e R s m args below meth c H20 L21 0 0 Q (F0 m 19 ls22 [])) (fun z17 o16 hz27 hc14 he15 => ?_) _ _ ho55 H4 L5 ls12 hP6 hS7 (lv_sub hl13 [3, 5, 2, 1, 0] rfl)
  obtain ⟨y18, x19⟩ := z17
  intro H20 L21 ls22 hP23 hS24 hl25
  have hf26 : fm_L_gather_B19 p1 J0 x1 y18 x19 = some o16 := hz27
  unfold fm_L_gather_B19 at hf26
  refine lv_iload hx hb d_L_gather_19 (lv_at hl25 4 rfl) ?_
  refine lv_bipush (v := 16) hx hb d_L_gather_21 (by decide) ?_
  refine lv_icmp_ge (tgt := 57) hx hb d_L_gather_23 rfl (fun h28 => ?_) (fun h28 => ?_)
  · have hf29 := ifp hf26 h28
    cases hf29
    have e31 := he15 (by show (1 : Nat) ≠ 0; decide)
    cases e31
    exact kx19_1 H20 L21 ls22 hP23 hS24 (lv_sub hl25 [3] rfl)
  · have hf30 := ifn hf26 h28
    refine lv_iload_n hx hb d_L_gather_26 rfl (lv_at hl25 2 rfl) ?_
    refine lv_iload hx hb d_L_gather_27 (lv_at hl25 4 rfl) ?_
    refine lv_ishr hx hb d_L_gather_29 ?_
    refine lv_iconst (v := 1) hx hb d_L_gather_30 (by decide) ?_
    refine lv_iand hx hb d_L_gather_31 ?_
    refine lv_if_eq (tgt := 51) hx hb d_L_gather_32 rfl (fun h32 => ?_) (fun h32 => ?_)
    · have hf33 := ifp hf30 h32
      obtain ⟨x35, e36, hf37⟩ := bnd_ex hf33
      refine lv_iinc hx hb d_L_gather_51 hl25 (k := 4) rfl (v := x35) (by rw [e36]; rfl) (by decide) (lv' := [(6, .int x35), (0, .ref (ad 21)), (2, .int p1), (3, .int x1), (4, .long y18)]) rfl (fun ls38 hl39 => ?_)
      refine lv_goto (tgt := 19) hx hb d_L_gather_54 rfl ?_
      cases hf37
      exact hc14 rfl H20 L21 ls38 hP23 hS24 (lv_sub hl39 [1, 2, 3, 4, 0] rfl)
    · have hf34 := ifn hf30 h32
      refine lv_lload hx hb d_L_gather_35 (lv_at hl25 3 rfl) ?_
      refine lv_aload_n hx hb d_L_gather_37 rfl (lv_at hl25 0 rfl) ?_
      refine va_get (D := D) (ci := 5) (v := .ref (ad 23)) (C := R_L) (T := F_L) (N := 4) hx hb hts (fun w h => List.mem_cons_of_mem _ (uw_L w h)) hown hK hP23 21 rfl rfl 1 (by decide) (hts _ (List.mem_cons_of_mem _ tb_90)) (fun _ h => h) rfl d_L_gather_38 ?_
      refine lv_iload_n hx hb d_L_gather_41 rfl (lv_at hl25 1 rfl) ?_
      refine lv_iconst (v := 1) hx hb d_L_gather_42 (by decide) ?_
      refine lv_iload hx hb d_L_gather_43 (lv_at hl25 4 rfl) ?_
      refine lv_ishl hx hb d_L_gather_45 ?_
      refine lv_ior hx hb d_L_gather_46 ?_
      obtain ⟨hg40, hf41⟩ := grd_ex hf34
      refine va_lald hx hb hK hP23 23 3 rfl rfl (inB_in hg40) d_L_gather_47 ?_
      refine lv_ladd hx hb d_L_gather_48 ?_
      obtain ⟨y42, e43, hf44⟩ := bnd_ex hf41
      refine jd_tnl e43 ?_
      refine lv_lstore hx hb d_L_gather_49 hl25 (by decide) (lv' := [(4, .long y42), (0, .ref (ad 21)), (2, .int p1), (3, .int x1), (6, .int x19)]) rfl (fun ls45 hl46 => ?_)
      obtain ⟨x47, e48, hf49⟩ := bnd_ex hf44
      refine lv_iinc hx hb d_L_gather_51 hl46 (k := 4) rfl (v := x47) (by rw [e48]; rfl) (by decide) (lv' := [(6, .int x47), (4, .long y42), (0, .ref (ad 21)), (2, .int p1), (3, .int x1)]) rfl (fun ls50 hl51 => ?_)
      refine lv_goto (tgt := 19) hx hb d_L_gather_54 rfl ?_
      cases hf49
      exact hc14 rfl H20 L21 ls50 hP23 hS24 (lv_sub hl51 [2, 3, 4, 1, 0] rfl)
theorem d_L_countTails_0 : decode b_L_countTails 0 = .ok (.aload_n 0, 1) := by decide +kernel
theorem d_L_countTails_1 : decode b_L_countTails 1 = .ok (.getfield 16, 3) := by decide +kernel
theorem d_L_countTails_4 : decode b_L_countTails 4 = .ok (.aload_n 1, 1) := by decide +kernel
theorem d_L_countTails_5 : decode b_L_countTails 5 = .ok (.getfield 42, 3) := by decide +kernel
theorem d_L_countTails_8 : decode b_L_countTails 8 = .ok (.lconst 1, 1) := by decide +kernel
theorem d_L_countTails_9 : decode b_L_countTails 9 = .ok (.lastore, 1) := by decide +kernel
theorem d_L_countTails_10 : decode b_L_countTails 10 = .ok (.iconst 1, 1) := by decide +kernel
theorem d_L_countTails_11 : decode b_L_countTails 11 = .ok (.aload_n 1, 1) := by decide +kernel
theorem d_L_countTails_12 : decode b_L_countTails 12 = .ok (.invokevirtual 50, 3) := by decide +kernel
theorem d_L_countTails_15 : decode b_L_countTails 15 = .ok (.ishl, 1) := by decide +kernel
theorem d_L_countTails_16 : decode b_L_countTails 16 = .ok (.istore_n 2, 1) := by decide +kernel
theorem d_L_countTails_17 : decode b_L_countTails 17 = .ok (.aload_n 1, 1) := by decide +kernel
theorem d_L_countTails_18 : decode b_L_countTails 18 = .ok (.getfield 42, 3) := by decide +kernel
theorem d_L_countTails_21 : decode b_L_countTails 21 = .ok (.istore_n 3, 1) := by decide +kernel
theorem d_L_countTails_22 : decode b_L_countTails 22 = .ok (.iconst 1, 1) := by decide +kernel
theorem d_L_countTails_23 : decode b_L_countTails 23 = .ok (.istore 4, 2) := by decide +kernel
theorem d_L_countTails_25 : decode b_L_countTails 25 = .ok (.iload 4, 2) := by decide +kernel
theorem d_L_countTails_27 : decode b_L_countTails 27 = .ok (.iload_n 2, 1) := by decide +kernel
theorem d_L_countTails_28 : decode b_L_countTails 28 = .ok (.if_icmp .ge 41, 3) := by decide +kernel
theorem d_L_countTails_31 : decode b_L_countTails 31 = .ok (.iload_n 3, 1) := by decide +kernel
theorem d_L_countTails_32 : decode b_L_countTails 32 = .ok (.iconst 1, 1) := by decide +kernel
theorem d_L_countTails_33 : decode b_L_countTails 33 = .ok (.isub, 1) := by decide +kernel
theorem d_L_countTails_34 : decode b_L_countTails 34 = .ok (.aload_n 1, 1) := by decide +kernel
theorem d_L_countTails_35 : decode b_L_countTails 35 = .ok (.getfield 42, 3) := by decide +kernel
theorem d_L_countTails_38 : decode b_L_countTails 38 = .ok (.iand, 1) := by decide +kernel
theorem d_L_countTails_39 : decode b_L_countTails 39 = .ok (.istore_n 3, 1) := by decide +kernel
theorem d_L_countTails_40 : decode b_L_countTails 40 = .ok (.aload_n 0, 1) := by decide +kernel
theorem d_L_countTails_41 : decode b_L_countTails 41 = .ok (.getfield 10, 3) := by decide +kernel
theorem d_L_countTails_44 : decode b_L_countTails 44 = .ok (.iload_n 3, 1) := by decide +kernel
theorem d_L_countTails_45 : decode b_L_countTails 45 = .ok (.laload, 1) := by decide +kernel
theorem d_L_countTails_46 : decode b_L_countTails 46 = .ok (.lconst 0, 1) := by decide +kernel
theorem d_L_countTails_47 : decode b_L_countTails 47 = .ok (.lcmp, 1) := by decide +kernel
theorem d_L_countTails_48 : decode b_L_countTails 48 = .ok (.ifCond .eq 15, 3) := by decide +kernel
theorem d_L_countTails_51 : decode b_L_countTails 51 = .ok (.aload_n 0, 1) := by decide +kernel
theorem d_L_countTails_52 : decode b_L_countTails 52 = .ok (.getfield 16, 3) := by decide +kernel
theorem d_L_countTails_55 : decode b_L_countTails 55 = .ok (.iload_n 3, 1) := by decide +kernel
theorem d_L_countTails_56 : decode b_L_countTails 56 = .ok (.aload_n 0, 1) := by decide +kernel
theorem d_L_countTails_57 : decode b_L_countTails 57 = .ok (.aload_n 1, 1) := by decide +kernel
theorem d_L_countTails_58 : decode b_L_countTails 58 = .ok (.iload_n 3, 1) := by decide +kernel
theorem d_L_countTails_59 : decode b_L_countTails 59 = .ok (.invokevirtual 99, 3) := by decide +kernel
theorem d_L_countTails_62 : decode b_L_countTails 62 = .ok (.lastore, 1) := by decide +kernel
theorem d_L_countTails_63 : decode b_L_countTails 63 = .ok (.iinc 4 1, 3) := by decide +kernel
theorem d_L_countTails_66 : decode b_L_countTails 66 = .ok (.goto (-41), 3) := by decide +kernel
theorem d_L_countTails_69 : decode b_L_countTails 69 = .ok (.return_, 1) := by decide +kernel
def fm_L_countTails_B25 (I0 : IS) (x18 : Int32) (x34 : Int32) (x35 : Int32) (J36 : JS) : Option (Nat × Int32 × Int32 × JS) :=
  if x18 ≤ x35 then some (1, x34, x35, J36) else bnd ((x34 - (1 : Int32)) &&& (I0 5 0)) (fun x49 => grd (inB x49 65536) (if (lg_cmp (J36 3 x49.toNatClampNeg) (0 : Int64)) = 0 then bnd (x35 + (1 : Int32)) (fun x59 => some (0, x49, x59, J36)) else ob1 (fm_L_gather x49 I0 J36) (fun y64 => grd (inB x49 65536) (bnd (sJ J36 4 x49.toNatClampNeg y64) (fun J73 => bnd (x35 + (1 : Int32)) (fun x81 => some (0, x49, x81, J73)))))))
def fm_L_countTails (I0 : IS) (J0 : JS) : Option (JS) :=
  grd (inB (I0 5 0) 65536) (bnd (sJ J0 4 (I0 5 0).toNatClampNeg (1 : Int64)) (fun J3 => ob1 (fm_H_size I0) (fun x11 => bnd ((1 : Int32) <<< (x11 &&& 31)) (fun x18 => bnd (I0 5 0) (fun x23 => ob4 (iter (fun z : Int32 × Int32 × JS => fm_L_countTails_B25 I0 x18 z.1 z.2.1 z.2.2) FU (x23, (1 : Int32), J3)) (fun _ x87 x88 J89 => some J89))))))
set_option maxHeartbeats 4000000 in
set_option maxRecDepth 100000 in
theorem cm_L_countTails (l : Launch) (D : va_G) (ca : Nat → ClassId) (ad : Nat → Nat) (hs : Nat → Option Nat) {I0 : IS} {J0 : JS} {r : JS} (hf : fm_L_countTails I0 J0 = some r) : CtV l y_L_countTails (Cond.code y_L_countTails b_L_countTails 5 none :: TB) { frames := 2, cells := 0, slots := 0, locals := 47 } [.ref (ad 21), .ref (ad 0)] D cls_all (tysC ca) NN (wC ca ad hs I0 J0) (wC ca ad hs I0 r) := by
  refine jd_metV (cc := b_L_countTails) (by decide) rfl (Nat.le_of_ble_eq_true rfl) (lv := [(0, .ref (ad 21)), (1, .ref (ad 0))]) rfl ?_
  intro p e R s m args below meth c A Q ls cx hR hK hN hD0 hA hP hS hl hend
  have hx := cx.1
  have hb := cx.2.1
  have hml := cx.2.2.1
  have hown := cx.2.2.2.1
  have hts := cx.2.2.2.2
  have hD : ∀ I J, va_D A (wC ca ad hs I J) := fun I J => jd_Dc hD0 rfl
  unfold fm_L_countTails at hf
  refine lv_aload_n hx hb d_L_countTails_0 rfl (lv_at hl 0 rfl) ?_
  refine va_get (D := D) (ci := 5) (v := .ref (ad 23)) (C := R_L) (T := F_L) (N := 4) hx hb hts (fun w h => List.mem_cons_of_mem _ (uw_L w h)) hown hK hP 21 rfl rfl 1 (by decide) (hts _ (List.mem_cons_of_mem _ tb_90)) (fun _ h => h) rfl d_L_countTails_1 ?_
  refine lv_aload_n hx hb d_L_countTails_4 rfl (lv_at hl 1 rfl) ?_
  refine va_get (D := D) (ci := 0) (v := .int (I0 5 0)) (C := R_H) (T := F_H) (N := 9) hx hb hts (fun w h => List.mem_cons_of_mem _ (uw_H w h)) hown hK hP 0 rfl rfl 7 (by decide) (hts _ (List.mem_cons_of_mem _ tb_555)) (fun _ h => h) rfl d_L_countTails_5 ?_
  refine lv_lconst (v := 1) hx hb d_L_countTails_8 (by decide) ?_
  obtain ⟨hg1, hf2⟩ := grd_ex hf
  obtain ⟨J3, e4, hf5⟩ := bnd_ex hf2
  refine va_last hx hb hK hP (hD I0 J0) hS 23 3 rfl rfl (inB_in hg1) d_L_countTails_9 (fun H6 L7 hp10 _ hS9 => ?_)
  have hP8 : va_P D cls_all (wC ca ad hs I0 J3) H6 := by rw [e4]; exact hp10
  refine lv_iconst (v := 1) hx hb d_L_countTails_10 (by decide) ?_
  refine lv_aload_n hx hb d_L_countTails_11 rfl (lv_at hl 1 rfl) ?_
  obtain ⟨x11, hc12, hf13⟩ := ob1_ex hf5
  refine jd_ci (va_runV (As := []) (rest := [.int (1 : Int32)]) cx (cm_H_size l D ca ad hs hc12 H6.size) (cwV 0 hts (jd_gV tb_245 tb_197 tb_198 tb_52 tb_199) rfl rfl rfl ⟨rfl, by decide, by decide, rfl⟩ (by rw [hR]; decide)) ⟨jd_blind nWc, (va_recv hK hP8 (ci := 0) (q0 := 0) rfl rfl), (jd_pre (av := [.ref (ad 0)]) hP8 hK (hD I0 J3) (fun U h => nWm h hN))⟩ rfl rfl hl.1 rfl (lv_room (Nat.le_of_ble_eq_true rfl)) d_L_countTails_12 ⟨Nat.zero_le _, Nat.zero_le _⟩) hS9 (hD I0 J3) hA (fun H14 L15 hP16 hS17 => ?_)
  refine lv_ishl hx hb d_L_countTails_15 ?_
  obtain ⟨x18, e19, hf20⟩ := bnd_ex hf13
  refine jd_tni e19 ?_
  refine lv_istore_n hx hb d_L_countTails_16 rfl hl (by decide) (lv' := [(2, .int x18), (0, .ref (ad 21)), (1, .ref (ad 0))]) rfl (fun ls21 hl22 => ?_)
  refine lv_aload_n hx hb d_L_countTails_17 rfl (lv_at hl22 2 rfl) ?_
  refine va_get (D := D) (ci := 0) (v := .int (I0 5 0)) (C := R_H) (T := F_H) (N := 9) hx hb hts (fun w h => List.mem_cons_of_mem _ (uw_H w h)) hown hK hP16 0 rfl rfl 7 (by decide) (hts _ (List.mem_cons_of_mem _ tb_555)) (fun _ h => h) rfl d_L_countTails_18 ?_
  obtain ⟨x23, e24, hf25⟩ := bnd_ex hf20
  refine jd_tni e24 ?_
  refine lv_istore_n hx hb d_L_countTails_21 rfl hl22 (by decide) (lv' := [(3, .int x23), (2, .int x18), (0, .ref (ad 21)), (1, .ref (ad 0))]) rfl (fun ls26 hl27 => ?_)
  refine lv_iconst (v := 1) hx hb d_L_countTails_22 (by decide) ?_
  refine lv_istore hx hb d_L_countTails_23 hl27 (by decide) (lv' := [(4, .int (1 : Int32)), (3, .int x23), (2, .int x18), (0, .ref (ad 21)), (1, .ref (ad 0))]) rfl (fun ls28 hl29 => ?_)
  obtain ⟨tg86, x87, x88, J89, ho90, hf91⟩ := ob4_ex hf25
  have kx25_1 : ∀ (H92 : Heap) (L93 : List Loc) (ls94 : Array Slot), va_P D cls_all (wC ca ad hs I0 J89) H92 → va_S A s.heap H92 L93 → lv_has ls94 5 [] → W p l e R s m args below meth c H92 L93 0 0 Q (F0 m 69 ls94 []) := by
    intro H92 L93 ls94 hP95 hS96 hl97
    cases hf91
    exact hend H92 L93 69 ls94 hP95 hS96 d_L_countTails_69
  refine iter_ind (C := fun z : Int32 × Int32 × JS => ∀ (H37 : Heap) (L38 : List Loc) (ls39 : Array Slot), va_P D cls_all (wC ca ad hs I0 z.2.2) H37 → va_S A s.heap H37 L38 → lv_has ls39 5 [(0, .ref (ad 21)), (1, .ref (ad 0)), (2, .int x18), (3, .int z.1), (4, .int z.2.1)] → W p l e R s m args below meth c H37 L38 0 0 Q (F0 m 25 ls39 [])) (fun z33 o32 hz44 hc30 he31 => ?_) _ _ ho90 H14 L15 ls28 hP16 hS17 (lv_sub hl29 [3, 4, 2, 1, 0] rfl)
  obtain ⟨x34, x35, J36⟩ := z33
  intro H37 L38 ls39 hP40 hS41 hl42
  have hf43 : fm_L_countTails_B25 I0 x18 x34 x35 J36 = some o32 := hz44
  unfold fm_L_countTails_B25 at hf43
  refine lv_iload hx hb d_L_countTails_25 (lv_at hl42 4 rfl) ?_
  refine lv_iload_n hx hb d_L_countTails_27 rfl (lv_at hl42 2 rfl) ?_
  refine lv_icmp_ge (tgt := 69) hx hb d_L_countTails_28 rfl (fun h45 => ?_) (fun h45 => ?_)
  · have hf46 := ifp hf43 h45
    cases hf46
    have e48 := he31 (by show (1 : Nat) ≠ 0; decide)
    cases e48
    exact kx25_1 H37 L38 ls39 hP40 hS41 (lv_sub hl42 [] rfl)
  · have hf47 := ifn hf43 h45
    refine lv_iload_n hx hb d_L_countTails_31 rfl (lv_at hl42 3 rfl) ?_
    refine lv_iconst (v := 1) hx hb d_L_countTails_32 (by decide) ?_
    refine lv_isub hx hb d_L_countTails_33 ?_
    refine lv_aload_n hx hb d_L_countTails_34 rfl (lv_at hl42 1 rfl) ?_
    refine va_get (D := D) (ci := 0) (v := .int (I0 5 0)) (C := R_H) (T := F_H) (N := 9) hx hb hts (fun w h => List.mem_cons_of_mem _ (uw_H w h)) hown hK hP40 0 rfl rfl 7 (by decide) (hts _ (List.mem_cons_of_mem _ tb_555)) (fun _ h => h) rfl d_L_countTails_35 ?_
    refine lv_iand hx hb d_L_countTails_38 ?_
    obtain ⟨x49, e50, hf51⟩ := bnd_ex hf47
    refine jd_tni e50 ?_
    refine lv_istore_n hx hb d_L_countTails_39 rfl hl42 (by decide) (lv' := [(3, .int x49), (0, .ref (ad 21)), (1, .ref (ad 0)), (2, .int x18), (4, .int x35)]) rfl (fun ls52 hl53 => ?_)
    refine lv_aload_n hx hb d_L_countTails_40 rfl (lv_at hl53 1 rfl) ?_
    refine va_get (D := D) (ci := 5) (v := .ref (ad 22)) (C := R_L) (T := F_L) (N := 4) hx hb hts (fun w h => List.mem_cons_of_mem _ (uw_L w h)) hown hK hP40 21 rfl rfl 0 (by decide) (hts _ (List.mem_cons_of_mem _ tb_89)) (fun _ h => h) rfl d_L_countTails_41 ?_
    refine lv_iload_n hx hb d_L_countTails_44 rfl (lv_at hl53 0 rfl) ?_
    obtain ⟨hg54, hf55⟩ := grd_ex hf51
    refine va_lald hx hb hK hP40 22 3 rfl rfl (inB_in hg54) d_L_countTails_45 ?_
    refine lv_lconst (v := 0) hx hb d_L_countTails_46 (by decide) ?_
    refine W.lcmp hx hb d_L_countTails_47 ?_
    refine lv_if_eq (tgt := 63) hx hb d_L_countTails_48 rfl (fun h56 => ?_) (fun h56 => ?_)
    · have hf57 := ifp hf55 h56
      obtain ⟨x59, e60, hf61⟩ := bnd_ex hf57
      refine lv_iinc hx hb d_L_countTails_63 hl53 (k := 4) rfl (v := x59) (by rw [e60]; rfl) (by decide) (lv' := [(4, .int x59), (3, .int x49), (0, .ref (ad 21)), (1, .ref (ad 0)), (2, .int x18)]) rfl (fun ls62 hl63 => ?_)
      refine lv_goto (tgt := 25) hx hb d_L_countTails_66 rfl ?_
      cases hf61
      exact hc30 rfl H37 L38 ls62 hP40 hS41 (lv_sub hl63 [2, 3, 4, 1, 0] rfl)
    · have hf58 := ifn hf55 h56
      refine lv_aload_n hx hb d_L_countTails_51 rfl (lv_at hl53 1 rfl) ?_
      refine va_get (D := D) (ci := 5) (v := .ref (ad 23)) (C := R_L) (T := F_L) (N := 4) hx hb hts (fun w h => List.mem_cons_of_mem _ (uw_L w h)) hown hK hP40 21 rfl rfl 1 (by decide) (hts _ (List.mem_cons_of_mem _ tb_90)) (fun _ h => h) rfl d_L_countTails_52 ?_
      refine lv_iload_n hx hb d_L_countTails_55 rfl (lv_at hl53 0 rfl) ?_
      refine lv_aload_n hx hb d_L_countTails_56 rfl (lv_at hl53 1 rfl) ?_
      refine lv_aload_n hx hb d_L_countTails_57 rfl (lv_at hl53 2 rfl) ?_
      refine lv_iload_n hx hb d_L_countTails_58 rfl (lv_at hl53 0 rfl) ?_
      obtain ⟨y64, hc65, hf66⟩ := ob1_ex hf58
      refine jd_cl (va_runV (As := [.ref (ad 0), .int x49]) (rest := [.int x49, .ref (ad 23)]) cx (cm_L_gather l D ca ad hs hc65 H37.size) (cwV 2 hts (jd_gV tb_258 tb_259 tb_15 tb_45 tb_260) rfl rfl rfl ⟨rfl, by decide, by decide, rfl⟩ (by rw [hR]; decide)) ⟨jd_blind nWc, (va_recv hK hP40 (ci := 5) (q0 := 21) rfl rfl), (jd_pre (av := [.ref (ad 21), .ref (ad 0), .int x49]) hP40 hK (hD I0 J36) (fun U h => nWm h hN))⟩ rfl rfl hl53.1 rfl (lv_room (Nat.le_of_ble_eq_true rfl)) d_L_countTails_59 ⟨Nat.zero_le _, Nat.zero_le _⟩) hS41 (hD I0 J36) hA (fun H67 L68 hP69 hS70 => ?_)
      obtain ⟨hg71, hf72⟩ := grd_ex hf66
      obtain ⟨J73, e74, hf75⟩ := bnd_ex hf72
      refine va_last hx hb hK hP69 (hD I0 J36) hS70 23 3 rfl rfl (inB_in hg71) d_L_countTails_62 (fun H76 L77 hp80 _ hS79 => ?_)
      have hP78 : va_P D cls_all (wC ca ad hs I0 J73) H76 := by rw [e74]; exact hp80
      obtain ⟨x81, e82, hf83⟩ := bnd_ex hf75
      refine lv_iinc hx hb d_L_countTails_63 hl53 (k := 4) rfl (v := x81) (by rw [e82]; rfl) (by decide) (lv' := [(4, .int x81), (3, .int x49), (0, .ref (ad 21)), (1, .ref (ad 0)), (2, .int x18)]) rfl (fun ls84 hl85 => ?_)
      refine lv_goto (tgt := 25) hx hb d_L_countTails_66 rfl ?_
      cases hf83
      exact hc30 rfl H76 L77 ls84 hP78 hS79 (lv_sub hl85 [2, 3, 4, 1, 0] rfl)
theorem d_L_load_0 : decode b_L_load 0 = .ok (.aload_n 0, 1) := by decide +kernel
theorem d_L_load_1 : decode b_L_load 1 = .ok (.aload_n 1, 1) := by decide +kernel
theorem d_L_load_2 : decode b_L_load 2 = .ok (.getfield 26, 3) := by decide +kernel
theorem d_L_load_5 : decode b_L_load 5 = .ok (.invokevirtual 31, 3) := by decide +kernel
theorem d_L_load_8 : decode b_L_load 8 = .ok (.aload_n 0, 1) := by decide +kernel
theorem d_L_load_9 : decode b_L_load 9 = .ok (.aload_n 1, 1) := by decide +kernel
theorem d_L_load_10 : decode b_L_load 10 = .ok (.invokevirtual 35, 3) := by decide +kernel
theorem d_L_load_13 : decode b_L_load 13 = .ok (.aload_n 0, 1) := by decide +kernel
theorem d_L_load_14 : decode b_L_load 14 = .ok (.aload_n 1, 1) := by decide +kernel
theorem d_L_load_15 : decode b_L_load 15 = .ok (.invokevirtual 39, 3) := by decide +kernel
theorem d_L_load_18 : decode b_L_load 18 = .ok (.return_, 1) := by decide +kernel
def fm_L_load (I0 : IS) (J0 : JS) : Option (IS × JS) :=
  ob1 (fm_L_setBars I0) (fun I1 => ob1 (fm_L_countHeads I1 J0) (fun J8 => ob1 (fm_L_countTails I1 J8) (fun J15 => some (I1, J15))))
set_option maxHeartbeats 4000000 in
set_option maxRecDepth 100000 in
theorem cm_L_load (l : Launch) (D : va_G) (ca : Nat → ClassId) (ad : Nat → Nat) (hs : Nat → Option Nat) {I0 : IS} {J0 : JS} {r : IS × JS} (hf : fm_L_load I0 J0 = some r) : CtV l y_L_load (Cond.code y_L_load b_L_load 2 none :: TB) { frames := 4, cells := 0, slots := 0, locals := 88 } [.ref (ad 21), .ref (ad 0)] D cls_all (tysC ca) NN (wC ca ad hs I0 J0) (wC ca ad hs r.1 r.2) := by
  refine jd_metV (cc := b_L_load) (by decide) rfl (Nat.le_of_ble_eq_true rfl) (lv := [(0, .ref (ad 21)), (1, .ref (ad 0))]) rfl ?_
  intro p e R s m args below meth c A Q ls cx hR hK hN hD0 hA hP hS hl hend
  have hx := cx.1
  have hb := cx.2.1
  have hml := cx.2.2.1
  have hown := cx.2.2.2.1
  have hts := cx.2.2.2.2
  have hD : ∀ I J, va_D A (wC ca ad hs I J) := fun I J => jd_Dc hD0 rfl
  unfold fm_L_load at hf
  refine lv_aload_n hx hb d_L_load_0 rfl (lv_at hl 0 rfl) ?_
  refine lv_aload_n hx hb d_L_load_1 rfl (lv_at hl 1 rfl) ?_
  refine va_get (D := D) (ci := 0) (v := .ref (ad 4)) (C := R_H) (T := F_H) (N := 9) hx hb hts (fun w h => List.mem_cons_of_mem _ (uw_H w h)) hown hK hP 0 rfl rfl 3 (by decide) (hts _ (List.mem_cons_of_mem _ tb_542)) (fun _ h => h) rfl d_L_load_2 ?_
  obtain ⟨I1, hc2, hf3⟩ := ob1_ex hf
  refine jd_cv (va_runV (As := [.ref (ad 4)]) (rest := []) cx (cm_L_setBars l D ca ad hs hc2 s.heap.size) (cwV 1 hts (jd_gV tb_232 tb_233 tb_9 tb_45 tb_234) rfl rfl rfl ⟨rfl, by decide, by decide, rfl⟩ (by rw [hR]; decide)) ⟨jd_blind nWc, (va_recv hK hP (ci := 5) (q0 := 21) rfl rfl), (jd_pre (av := [.ref (ad 21), .ref (ad 4)]) hP hK (hD I0 J0) (fun U h => nWm h hN))⟩ rfl rfl hl.1 rfl (lv_room (Nat.le_of_ble_eq_true rfl)) d_L_load_5 ⟨Nat.zero_le _, Nat.zero_le _⟩) hS (hD I0 J0) hA (fun H4 L5 hP6 hS7 => ?_)
  refine lv_aload_n hx hb d_L_load_8 rfl (lv_at hl 0 rfl) ?_
  refine lv_aload_n hx hb d_L_load_9 rfl (lv_at hl 1 rfl) ?_
  obtain ⟨J8, hc9, hf10⟩ := ob1_ex hf3
  refine jd_cv (va_runV (As := [.ref (ad 0)]) (rest := []) cx (cm_L_countHeads l D ca ad hs hc9 H4.size) (cwV 1 hts (jd_gV tb_239 tb_240 tb_10 tb_45 tb_241) rfl rfl rfl ⟨rfl, by decide, by decide, rfl⟩ (by rw [hR]; decide)) ⟨jd_blind nWc, (va_recv hK hP6 (ci := 5) (q0 := 21) rfl rfl), (jd_pre (av := [.ref (ad 21), .ref (ad 0)]) hP6 hK (hD I1 J0) (fun U h => nWm h hN))⟩ rfl rfl hl.1 rfl (lv_room (Nat.le_of_ble_eq_true rfl)) d_L_load_10 ⟨Nat.zero_le _, Nat.zero_le _⟩) hS7 (hD I1 J0) hA (fun H11 L12 hP13 hS14 => ?_)
  refine lv_aload_n hx hb d_L_load_13 rfl (lv_at hl 0 rfl) ?_
  refine lv_aload_n hx hb d_L_load_14 rfl (lv_at hl 1 rfl) ?_
  obtain ⟨J15, hc16, hf17⟩ := ob1_ex hf10
  refine jd_cv (va_runV (As := [.ref (ad 0)]) (rest := []) cx (cm_L_countTails l D ca ad hs hc16 H11.size) (cwV 1 hts (jd_gV tb_255 tb_256 tb_14 tb_45 tb_257) rfl rfl rfl ⟨rfl, by decide, by decide, rfl⟩ (by rw [hR]; decide)) ⟨jd_blind nWc, (va_recv hK hP13 (ci := 5) (q0 := 21) rfl rfl), (jd_pre (av := [.ref (ad 21), .ref (ad 0)]) hP13 hK (hD I1 J8) (fun U h => nWm h hN))⟩ rfl rfl hl.1 rfl (lv_room (Nat.le_of_ble_eq_true rfl)) d_L_load_15 ⟨Nat.zero_le _, Nat.zero_le _⟩) hS14 (hD I1 J8) hA (fun H18 L19 hP20 hS21 => ?_)
  cases hf17
  exact hend H18 L19 18 ls hP20 hS21 d_L_load_18
theorem d_L_total_0 : decode b_L_total 0 = .ok (.aload_n 0, 1) := by decide +kernel
theorem d_L_total_1 : decode b_L_total 1 = .ok (.getfield 10, 3) := by decide +kernel
theorem d_L_total_4 : decode b_L_total 4 = .ok (.aload_n 1, 1) := by decide +kernel
theorem d_L_total_5 : decode b_L_total 5 = .ok (.getfield 42, 3) := by decide +kernel
theorem d_L_total_8 : decode b_L_total 8 = .ok (.laload, 1) := by decide +kernel
theorem d_L_total_9 : decode b_L_total 9 = .ok (.lreturn, 1) := by decide +kernel
def fm_L_total (I0 : IS) (J0 : JS) : Option (Int64) :=
  grd (inB (I0 5 0) 65536) (some (J0 3 (I0 5 0).toNatClampNeg))
set_option maxHeartbeats 4000000 in
set_option maxRecDepth 100000 in
theorem cm_L_total (l : Launch) (D : va_G) (ca : Nat → ClassId) (ad : Nat → Nat) (hs : Nat → Option Nat) {I0 : IS} {J0 : JS} {r : Int64} (hf : fm_L_total I0 J0 = some r) : CtL l y_L_total (Cond.code y_L_total b_L_total 2 (some .long) :: TB) { frames := 0, cells := 0, slots := 0, locals := 0 } [.ref (ad 21), .ref (ad 0)] D cls_all (tysC ca) NN (wC ca ad hs I0 J0) (wC ca ad hs I0 J0) r := by
  refine jd_metL (cc := b_L_total) (by decide) rfl (Nat.le_of_ble_eq_true rfl) (lv := [(0, .ref (ad 21)), (1, .ref (ad 0))]) rfl ?_
  intro p e R s m args below meth c A Q ls cx hR hK hN hD0 hA hP hS hl hend
  have hx := cx.1
  have hb := cx.2.1
  have hml := cx.2.2.1
  have hown := cx.2.2.2.1
  have hts := cx.2.2.2.2
  have hD : ∀ I J, va_D A (wC ca ad hs I J) := fun I J => jd_Dc hD0 rfl
  unfold fm_L_total at hf
  refine lv_aload_n hx hb d_L_total_0 rfl (lv_at hl 0 rfl) ?_
  refine va_get (D := D) (ci := 5) (v := .ref (ad 22)) (C := R_L) (T := F_L) (N := 4) hx hb hts (fun w h => List.mem_cons_of_mem _ (uw_L w h)) hown hK hP 21 rfl rfl 0 (by decide) (hts _ (List.mem_cons_of_mem _ tb_89)) (fun _ h => h) rfl d_L_total_1 ?_
  refine lv_aload_n hx hb d_L_total_4 rfl (lv_at hl 1 rfl) ?_
  refine va_get (D := D) (ci := 0) (v := .int (I0 5 0)) (C := R_H) (T := F_H) (N := 9) hx hb hts (fun w h => List.mem_cons_of_mem _ (uw_H w h)) hown hK hP 0 rfl rfl 7 (by decide) (hts _ (List.mem_cons_of_mem _ tb_555)) (fun _ h => h) rfl d_L_total_5 ?_
  obtain ⟨hg1, hf2⟩ := grd_ex hf
  refine va_lald hx hb hK hP 22 3 rfl rfl (inB_in hg1) d_L_total_8 ?_
  cases hf2
  exact hend s.heap [] 9 ls hP hS d_L_total_9
theorem d_L_entryAt_0 : decode b_L_entryAt 0 = .ok (.lload_n 2, 1) := by decide +kernel
theorem d_L_entryAt_1 : decode b_L_entryAt 1 = .ok (.lstore 5, 2) := by decide +kernel
theorem d_L_entryAt_3 : decode b_L_entryAt 3 = .ok (.iconst 0, 1) := by decide +kernel
theorem d_L_entryAt_4 : decode b_L_entryAt 4 = .ok (.istore 7, 2) := by decide +kernel
theorem d_L_entryAt_6 : decode b_L_entryAt 6 = .ok (.iconst (-1), 1) := by decide +kernel
theorem d_L_entryAt_7 : decode b_L_entryAt 7 = .ok (.istore 8, 2) := by decide +kernel
theorem d_L_entryAt_9 : decode b_L_entryAt 9 = .ok (.iconst 1, 1) := by decide +kernel
theorem d_L_entryAt_10 : decode b_L_entryAt 10 = .ok (.istore 9, 2) := by decide +kernel
theorem d_L_entryAt_12 : decode b_L_entryAt 12 = .ok (.iload 9, 2) := by decide +kernel
theorem d_L_entryAt_14 : decode b_L_entryAt 14 = .ok (.iload 4, 2) := by decide +kernel
theorem d_L_entryAt_16 : decode b_L_entryAt 16 = .ok (.if_icmp .gt 94, 3) := by decide +kernel
theorem d_L_entryAt_19 : decode b_L_entryAt 19 = .ok (.iconst (-1), 1) := by decide +kernel
theorem d_L_entryAt_20 : decode b_L_entryAt 20 = .ok (.istore 8, 2) := by decide +kernel
theorem d_L_entryAt_22 : decode b_L_entryAt 22 = .ok (.iconst 0, 1) := by decide +kernel
theorem d_L_entryAt_23 : decode b_L_entryAt 23 = .ok (.istore 10, 2) := by decide +kernel
theorem d_L_entryAt_25 : decode b_L_entryAt 25 = .ok (.iload 10, 2) := by decide +kernel
theorem d_L_entryAt_27 : decode b_L_entryAt 27 = .ok (.bipush 16, 2) := by decide +kernel
theorem d_L_entryAt_29 : decode b_L_entryAt 29 = .ok (.if_icmp .ge 75, 3) := by decide +kernel
theorem d_L_entryAt_32 : decode b_L_entryAt 32 = .ok (.iload 8, 2) := by decide +kernel
theorem d_L_entryAt_34 : decode b_L_entryAt 34 = .ok (.iconst (-1), 1) := by decide +kernel
theorem d_L_entryAt_35 : decode b_L_entryAt 35 = .ok (.if_icmp .ne 69, 3) := by decide +kernel
theorem d_L_entryAt_38 : decode b_L_entryAt 38 = .ok (.aload_n 1, 1) := by decide +kernel
theorem d_L_entryAt_39 : decode b_L_entryAt 39 = .ok (.iload 10, 2) := by decide +kernel
theorem d_L_entryAt_41 : decode b_L_entryAt 41 = .ok (.iload 7, 2) := by decide +kernel
theorem d_L_entryAt_43 : decode b_L_entryAt 43 = .ok (.invokevirtual 46, 3) := by decide +kernel
theorem d_L_entryAt_46 : decode b_L_entryAt 46 = .ok (.ifCond .eq 18, 3) := by decide +kernel
theorem d_L_entryAt_49 : decode b_L_entryAt 49 = .ok (.aload_n 0, 1) := by decide +kernel
theorem d_L_entryAt_50 : decode b_L_entryAt 50 = .ok (.getfield 16, 3) := by decide +kernel
theorem d_L_entryAt_53 : decode b_L_entryAt 53 = .ok (.iload 7, 2) := by decide +kernel
theorem d_L_entryAt_55 : decode b_L_entryAt 55 = .ok (.iconst 1, 1) := by decide +kernel
theorem d_L_entryAt_56 : decode b_L_entryAt 56 = .ok (.iload 10, 2) := by decide +kernel
theorem d_L_entryAt_58 : decode b_L_entryAt 58 = .ok (.ishl, 1) := by decide +kernel
theorem d_L_entryAt_59 : decode b_L_entryAt 59 = .ok (.ior, 1) := by decide +kernel
theorem d_L_entryAt_60 : decode b_L_entryAt 60 = .ok (.laload, 1) := by decide +kernel
theorem d_L_entryAt_61 : decode b_L_entryAt 61 = .ok (.goto 4, 3) := by decide +kernel
theorem d_L_entryAt_64 : decode b_L_entryAt 64 = .ok (.lconst 0, 1) := by decide +kernel
theorem d_L_entryAt_65 : decode b_L_entryAt 65 = .ok (.lstore 11, 2) := by decide +kernel
theorem d_L_entryAt_67 : decode b_L_entryAt 67 = .ok (.lload 5, 2) := by decide +kernel
theorem d_L_entryAt_69 : decode b_L_entryAt 69 = .ok (.lload 11, 2) := by decide +kernel
theorem d_L_entryAt_71 : decode b_L_entryAt 71 = .ok (.lcmp, 1) := by decide +kernel
theorem d_L_entryAt_72 : decode b_L_entryAt 72 = .ok (.ifCond .ge 19, 3) := by decide +kernel
theorem d_L_entryAt_75 : decode b_L_entryAt 75 = .ok (.iload 10, 2) := by decide +kernel
theorem d_L_entryAt_77 : decode b_L_entryAt 77 = .ok (.istore 8, 2) := by decide +kernel
theorem d_L_entryAt_79 : decode b_L_entryAt 79 = .ok (.iload 7, 2) := by decide +kernel
theorem d_L_entryAt_81 : decode b_L_entryAt 81 = .ok (.iconst 1, 1) := by decide +kernel
theorem d_L_entryAt_82 : decode b_L_entryAt 82 = .ok (.iload 10, 2) := by decide +kernel
theorem d_L_entryAt_84 : decode b_L_entryAt 84 = .ok (.ishl, 1) := by decide +kernel
theorem d_L_entryAt_85 : decode b_L_entryAt 85 = .ok (.ior, 1) := by decide +kernel
theorem d_L_entryAt_86 : decode b_L_entryAt 86 = .ok (.istore 7, 2) := by decide +kernel
theorem d_L_entryAt_88 : decode b_L_entryAt 88 = .ok (.goto 10, 3) := by decide +kernel
theorem d_L_entryAt_91 : decode b_L_entryAt 91 = .ok (.lload 5, 2) := by decide +kernel
theorem d_L_entryAt_93 : decode b_L_entryAt 93 = .ok (.lload 11, 2) := by decide +kernel
theorem d_L_entryAt_95 : decode b_L_entryAt 95 = .ok (.lsub, 1) := by decide +kernel
theorem d_L_entryAt_96 : decode b_L_entryAt 96 = .ok (.lstore 5, 2) := by decide +kernel
theorem d_L_entryAt_98 : decode b_L_entryAt 98 = .ok (.iinc 10 1, 3) := by decide +kernel
theorem d_L_entryAt_101 : decode b_L_entryAt 101 = .ok (.goto (-76), 3) := by decide +kernel
theorem d_L_entryAt_104 : decode b_L_entryAt 104 = .ok (.iinc 9 1, 3) := by decide +kernel
theorem d_L_entryAt_107 : decode b_L_entryAt 107 = .ok (.goto (-95), 3) := by decide +kernel
theorem d_L_entryAt_110 : decode b_L_entryAt 110 = .ok (.iload 8, 2) := by decide +kernel
theorem d_L_entryAt_112 : decode b_L_entryAt 112 = .ok (.ireturn, 1) := by decide +kernel
def fm_L_entryAt_j65  (y49 : Int64) (x50 : Int32) (x51 : Int32) (x52 : Int32) (y53 : Int64) : Option (Nat × Int64 × Int32 × Int32 × Int32) :=
  if 0 ≤ (lg_cmp y49 y53) then bnd (y49 - y53) (fun y66 => bnd (x52 + (1 : Int32)) (fun x71 => some (0, y66, x50, x51, x71))) else bnd (x50 ||| ((1 : Int32) <<< (x52 &&& 31))) (fun x78 => bnd (x52 + (1 : Int32)) (fun x83 => some (0, y49, x78, x52, x83)))
def fm_L_entryAt_B25 (I0 : IS) (J0 : JS) (y37 : Int64) (x38 : Int32) (x39 : Int32) (x40 : Int32) : Option (Nat × Int64 × Int32 × Int32 × Int32) :=
  if (16 : Int32) ≤ x40 then some (1, y37, x38, x39, x40) else if x39 = (-1 : Int32) then ob1 (fm_H_mayCome x40 x38 I0) (fun x96 => if x96 = 0 then fm_L_entryAt_j65 y37 x38 x39 x40 (0 : Int64) else grd (inB (x38 ||| ((1 : Int32) <<< (x40 &&& 31))) 65536) (fm_L_entryAt_j65 y37 x38 x39 x40 (J0 4 (x38 ||| ((1 : Int32) <<< (x40 &&& 31))).toNatClampNeg))) else some (1, y37, x38, x39, x40)
def fm_L_entryAt_B12 (p2 : Int32) (I0 : IS) (J0 : JS) (y13 : Int64) (x14 : Int32) (x15 : Int32) (x16 : Int32) : Option (Nat × Int64 × Int32 × Int32 × Int32) :=
  if p2 < x16 then some (1, y13, x14, x15, x16) else ob5 (iter (fun z : Int64 × Int32 × Int32 × Int32 => fm_L_entryAt_B25 I0 J0 z.1 z.2.1 z.2.2.1 z.2.2.2) FU (y13, x14, (-1 : Int32), (0 : Int32))) (fun _ y109 x110 x111 x112 => bnd (x16 + (1 : Int32)) (fun x121 => some (0, y109, x110, x111, x121)))
def fm_L_entryAt (p1 : Int64) (p2 : Int32) (I0 : IS) (J0 : JS) : Option (Int32) :=
  ob5 (iter (fun z : Int64 × Int32 × Int32 × Int32 => fm_L_entryAt_B12 p2 I0 J0 z.1 z.2.1 z.2.2.1 z.2.2.2) FU (p1, (0 : Int32), (-1 : Int32), (1 : Int32))) (fun _ y127 x128 x129 x130 => some x129)
set_option maxHeartbeats 4000000 in
set_option maxRecDepth 100000 in
theorem cm_L_entryAt (l : Launch) (D : va_G) (ca : Nat → ClassId) (ad : Nat → Nat) (hs : Nat → Option Nat) {p1 : Int64} {p2 : Int32} {I0 : IS} {J0 : JS} {r : Int32} (hf : fm_L_entryAt p1 p2 I0 J0 = some r) : CtI l y_L_entryAt (Cond.code y_L_entryAt b_L_entryAt 13 (some .int) :: TB) { frames := 2, cells := 0, slots := 0, locals := 43 } [.ref (ad 21), .ref (ad 0), .long p1, .int p2] D cls_all (tysC ca) NN (wC ca ad hs I0 J0) (wC ca ad hs I0 J0) r := by
  refine jd_metI (cc := b_L_entryAt) (by decide) rfl (Nat.le_of_ble_eq_true rfl) (lv := [(0, .ref (ad 21)), (1, .ref (ad 0)), (2, .long p1), (4, .int p2)]) rfl ?_
  intro p e R s m args below meth c A Q ls cx hR hK hN hD0 hA hP hS hl hend
  have hx := cx.1
  have hb := cx.2.1
  have hml := cx.2.2.1
  have hown := cx.2.2.2.1
  have hts := cx.2.2.2.2
  have hD : ∀ I J, va_D A (wC ca ad hs I J) := fun I J => jd_Dc hD0 rfl
  unfold fm_L_entryAt at hf
  refine lv_lload_n hx hb d_L_entryAt_0 rfl (lv_at hl 2 rfl) ?_
  refine lv_lstore hx hb d_L_entryAt_1 hl (by decide) (lv' := [(5, .long p1), (0, .ref (ad 21)), (1, .ref (ad 0)), (2, .long p1), (4, .int p2)]) rfl (fun ls1 hl2 => ?_)
  refine lv_iconst (v := 0) hx hb d_L_entryAt_3 (by decide) ?_
  refine lv_istore hx hb d_L_entryAt_4 hl2 (by decide) (lv' := [(7, .int (0 : Int32)), (5, .long p1), (0, .ref (ad 21)), (1, .ref (ad 0)), (2, .long p1), (4, .int p2)]) rfl (fun ls3 hl4 => ?_)
  refine lv_iconst (v := -1) hx hb d_L_entryAt_6 (by decide) ?_
  refine lv_istore hx hb d_L_entryAt_7 hl4 (by decide) (lv' := [(8, .int (-1 : Int32)), (7, .int (0 : Int32)), (5, .long p1), (0, .ref (ad 21)), (1, .ref (ad 0)), (2, .long p1), (4, .int p2)]) rfl (fun ls5 hl6 => ?_)
  refine lv_iconst (v := 1) hx hb d_L_entryAt_9 (by decide) ?_
  refine lv_istore hx hb d_L_entryAt_10 hl6 (by decide) (lv' := [(9, .int (1 : Int32)), (8, .int (-1 : Int32)), (7, .int (0 : Int32)), (5, .long p1), (0, .ref (ad 21)), (1, .ref (ad 0)), (2, .long p1), (4, .int p2)]) rfl (fun ls7 hl8 => ?_)
  obtain ⟨tg126, y127, x128, x129, x130, ho131, hf132⟩ := ob5_ex hf
  have kx12_1 : ∀ (H133 : Heap) (L134 : List Loc) (ls135 : Array Slot), va_P D cls_all (wC ca ad hs I0 J0) H133 → va_S A s.heap H133 L134 → lv_has ls135 13 [(8, .int x129)] → W p l e R s m args below meth c H133 L134 0 0 Q (F0 m 110 ls135 []) := by
    intro H133 L134 ls135 hP136 hS137 hl138
    refine lv_iload hx hb d_L_entryAt_110 (lv_at hl138 0 rfl) ?_
    cases hf132
    exact hend H133 L134 112 ls135 hP136 hS137 d_L_entryAt_112
  refine iter_ind (C := fun z : Int64 × Int32 × Int32 × Int32 => ∀ (H17 : Heap) (L18 : List Loc) (ls19 : Array Slot), va_P D cls_all (wC ca ad hs I0 J0) H17 → va_S A s.heap H17 L18 → lv_has ls19 13 [(0, .ref (ad 21)), (1, .ref (ad 0)), (4, .int p2), (5, .long z.1), (7, .int z.2.1), (8, .int z.2.2.1), (9, .int z.2.2.2)] → W p l e R s m args below meth c H17 L18 0 0 Q (F0 m 12 ls19 [])) (fun z12 o11 hz24 hc9 he10 => ?_) _ _ ho131 s.heap [] ls7 hP hS (lv_sub hl8 [4, 5, 7, 3, 2, 1, 0] rfl)
  obtain ⟨y13, x14, x15, x16⟩ := z12
  intro H17 L18 ls19 hP20 hS21 hl22
  have hf23 : fm_L_entryAt_B12 p2 I0 J0 y13 x14 x15 x16 = some o11 := hz24
  unfold fm_L_entryAt_B12 at hf23
  refine lv_iload hx hb d_L_entryAt_12 (lv_at hl22 6 rfl) ?_
  refine lv_iload hx hb d_L_entryAt_14 (lv_at hl22 2 rfl) ?_
  refine lv_icmp_gt (tgt := 110) hx hb d_L_entryAt_16 rfl (fun h25 => ?_) (fun h25 => ?_)
  · have hf26 := ifp hf23 h25
    cases hf26
    have e28 := he10 (by show (1 : Nat) ≠ 0; decide)
    cases e28
    exact kx12_1 H17 L18 ls19 hP20 hS21 (lv_sub hl22 [5] rfl)
  · have hf27 := ifn hf23 h25
    refine lv_iconst (v := -1) hx hb d_L_entryAt_19 (by decide) ?_
    refine lv_istore hx hb d_L_entryAt_20 hl22 (by decide) (lv' := [(8, .int (-1 : Int32)), (0, .ref (ad 21)), (1, .ref (ad 0)), (4, .int p2), (5, .long y13), (7, .int x14), (9, .int x16)]) rfl (fun ls29 hl30 => ?_)
    refine lv_iconst (v := 0) hx hb d_L_entryAt_22 (by decide) ?_
    refine lv_istore hx hb d_L_entryAt_23 hl30 (by decide) (lv' := [(10, .int (0 : Int32)), (8, .int (-1 : Int32)), (0, .ref (ad 21)), (1, .ref (ad 0)), (4, .int p2), (5, .long y13), (7, .int x14), (9, .int x16)]) rfl (fun ls31 hl32 => ?_)
    obtain ⟨tg108, y109, x110, x111, x112, ho113, hf114⟩ := ob5_ex hf27
    have kx25_1 : ∀ (H115 : Heap) (L116 : List Loc) (ls117 : Array Slot), va_P D cls_all (wC ca ad hs I0 J0) H115 → va_S A s.heap H115 L116 → lv_has ls117 13 [(0, .ref (ad 21)), (1, .ref (ad 0)), (4, .int p2), (5, .long y109), (7, .int x110), (8, .int x111), (9, .int x16)] → W p l e R s m args below meth c H115 L116 0 0 Q (F0 m 104 ls117 []) := by
      intro H115 L116 ls117 hP118 hS119 hl120
      obtain ⟨x121, e122, hf123⟩ := bnd_ex hf114
      refine lv_iinc hx hb d_L_entryAt_104 hl120 (k := 6) rfl (v := x121) (by rw [e122]; rfl) (by decide) (lv' := [(9, .int x121), (0, .ref (ad 21)), (1, .ref (ad 0)), (4, .int p2), (5, .long y109), (7, .int x110), (8, .int x111)]) rfl (fun ls124 hl125 => ?_)
      refine lv_goto (tgt := 12) hx hb d_L_entryAt_107 rfl ?_
      cases hf123
      exact hc9 rfl H115 L116 ls124 hP118 hS119 (lv_sub hl125 [1, 2, 3, 4, 5, 6, 0] rfl)
    refine iter_ind (C := fun z : Int64 × Int32 × Int32 × Int32 => ∀ (H41 : Heap) (L42 : List Loc) (ls43 : Array Slot), va_P D cls_all (wC ca ad hs I0 J0) H41 → va_S A s.heap H41 L42 → lv_has ls43 13 [(0, .ref (ad 21)), (1, .ref (ad 0)), (4, .int p2), (5, .long z.1), (7, .int z.2.1), (8, .int z.2.2.1), (9, .int x16), (10, .int z.2.2.2)] → W p l e R s m args below meth c H41 L42 0 0 Q (F0 m 25 ls43 [])) (fun z36 o35 hz48 hc33 he34 => ?_) _ _ ho113 H17 L18 ls31 hP20 hS21 (lv_sub hl32 [2, 3, 4, 5, 6, 1, 7, 0] rfl)
    obtain ⟨y37, x38, x39, x40⟩ := z36
    intro H41 L42 ls43 hP44 hS45 hl46
    have hf47 : fm_L_entryAt_B25 I0 J0 y37 x38 x39 x40 = some o35 := hz48
    unfold fm_L_entryAt_B25 at hf47
    have kj65 : ∀ (y49 : Int64) (x50 : Int32) (x51 : Int32) (x52 : Int32) (y53 : Int64), fm_L_entryAt_j65 y49 x50 x51 x52 y53 = some o35 → ∀ (H54 : Heap) (L55 : List Loc) (ls56 : Array Slot), va_P D cls_all (wC ca ad hs I0 J0) H54 → va_S A s.heap H54 L55 → lv_has ls56 13 [(0, .ref (ad 21)), (1, .ref (ad 0)), (4, .int p2), (5, .long y49), (7, .int x50), (8, .int x51), (9, .int x16), (10, .int x52)] → W p l e R s m args below meth c H54 L55 0 0 Q (F0 m 65 ls56 [.long y53]) := by
      intro y49 x50 x51 x52 y53 hf60 H54 L55 ls56 hP57 hS58 hl59
      unfold fm_L_entryAt_j65 at hf60
      refine lv_lstore hx hb d_L_entryAt_65 hl59 (by decide) (lv' := [(11, .long y53), (0, .ref (ad 21)), (1, .ref (ad 0)), (4, .int p2), (5, .long y49), (7, .int x50), (8, .int x51), (9, .int x16), (10, .int x52)]) rfl (fun ls61 hl62 => ?_)
      refine lv_lload hx hb d_L_entryAt_67 (lv_at hl62 4 rfl) ?_
      refine lv_lload hx hb d_L_entryAt_69 (lv_at hl62 0 rfl) ?_
      refine W.lcmp hx hb d_L_entryAt_71 ?_
      refine lv_if_ge (tgt := 91) hx hb d_L_entryAt_72 rfl (fun h63 => ?_) (fun h63 => ?_)
      · have hf64 := ifp hf60 h63
        refine lv_lload hx hb d_L_entryAt_91 (lv_at hl62 4 rfl) ?_
        refine lv_lload hx hb d_L_entryAt_93 (lv_at hl62 0 rfl) ?_
        refine lv_lsub hx hb d_L_entryAt_95 ?_
        obtain ⟨y66, e67, hf68⟩ := bnd_ex hf64
        refine jd_tnl e67 ?_
        refine lv_lstore hx hb d_L_entryAt_96 hl62 (by decide) (lv' := [(5, .long y66), (11, .long y53), (0, .ref (ad 21)), (1, .ref (ad 0)), (4, .int p2), (7, .int x50), (8, .int x51), (9, .int x16), (10, .int x52)]) rfl (fun ls69 hl70 => ?_)
        obtain ⟨x71, e72, hf73⟩ := bnd_ex hf68
        refine lv_iinc hx hb d_L_entryAt_98 hl70 (k := 8) rfl (v := x71) (by rw [e72]; rfl) (by decide) (lv' := [(10, .int x71), (5, .long y66), (11, .long y53), (0, .ref (ad 21)), (1, .ref (ad 0)), (4, .int p2), (7, .int x50), (8, .int x51), (9, .int x16)]) rfl (fun ls74 hl75 => ?_)
        refine lv_goto (tgt := 25) hx hb d_L_entryAt_101 rfl ?_
        cases hf73
        exact hc33 rfl H54 L55 ls74 hP57 hS58 (lv_sub hl75 [3, 4, 5, 1, 6, 7, 8, 0] rfl)
      · have hf65 := ifn hf60 h63
        refine lv_iload hx hb d_L_entryAt_75 (lv_at hl62 8 rfl) ?_
        refine lv_istore hx hb d_L_entryAt_77 hl62 (by decide) (lv' := [(8, .int x52), (11, .long y53), (0, .ref (ad 21)), (1, .ref (ad 0)), (4, .int p2), (5, .long y49), (7, .int x50), (9, .int x16), (10, .int x52)]) rfl (fun ls76 hl77 => ?_)
        refine lv_iload hx hb d_L_entryAt_79 (lv_at hl77 6 rfl) ?_
        refine lv_iconst (v := 1) hx hb d_L_entryAt_81 (by decide) ?_
        refine lv_iload hx hb d_L_entryAt_82 (lv_at hl77 8 rfl) ?_
        refine lv_ishl hx hb d_L_entryAt_84 ?_
        refine lv_ior hx hb d_L_entryAt_85 ?_
        obtain ⟨x78, e79, hf80⟩ := bnd_ex hf65
        refine jd_tni e79 ?_
        refine lv_istore hx hb d_L_entryAt_86 hl77 (by decide) (lv' := [(7, .int x78), (8, .int x52), (11, .long y53), (0, .ref (ad 21)), (1, .ref (ad 0)), (4, .int p2), (5, .long y49), (9, .int x16), (10, .int x52)]) rfl (fun ls81 hl82 => ?_)
        refine lv_goto (tgt := 98) hx hb d_L_entryAt_88 rfl ?_
        obtain ⟨x83, e84, hf85⟩ := bnd_ex hf80
        refine lv_iinc hx hb d_L_entryAt_98 hl82 (k := 8) rfl (v := x83) (by rw [e84]; rfl) (by decide) (lv' := [(10, .int x83), (7, .int x78), (8, .int x52), (11, .long y53), (0, .ref (ad 21)), (1, .ref (ad 0)), (4, .int p2), (5, .long y49), (9, .int x16)]) rfl (fun ls86 hl87 => ?_)
        refine lv_goto (tgt := 25) hx hb d_L_entryAt_101 rfl ?_
        cases hf85
        exact hc33 rfl H54 L55 ls86 hP57 hS58 (lv_sub hl87 [4, 5, 6, 7, 1, 2, 8, 0] rfl)
    refine lv_iload hx hb d_L_entryAt_25 (lv_at hl46 7 rfl) ?_
    refine lv_bipush (v := 16) hx hb d_L_entryAt_27 (by decide) ?_
    refine lv_icmp_ge (tgt := 104) hx hb d_L_entryAt_29 rfl (fun h88 => ?_) (fun h88 => ?_)
    · have hf89 := ifp hf47 h88
      cases hf89
      have e91 := he34 (by show (1 : Nat) ≠ 0; decide)
      cases e91
      exact kx25_1 H41 L42 ls43 hP44 hS45 (lv_sub hl46 [0, 1, 2, 3, 4, 5, 6] rfl)
    · have hf90 := ifn hf47 h88
      refine lv_iload hx hb d_L_entryAt_32 (lv_at hl46 5 rfl) ?_
      refine lv_iconst (v := -1) hx hb d_L_entryAt_34 (by decide) ?_
      refine lv_icmp_ne (tgt := 104) hx hb d_L_entryAt_35 rfl (fun h92 => ?_) (fun h92 => ?_)
      · have hf93 := ifn hf90 h92
        cases hf93
        have e95 := he34 (by show (1 : Nat) ≠ 0; decide)
        cases e95
        exact kx25_1 H41 L42 ls43 hP44 hS45 (lv_sub hl46 [0, 1, 2, 3, 4, 5, 6] rfl)
      · have hf94 := ifp hf90 h92
        refine lv_aload_n hx hb d_L_entryAt_38 rfl (lv_at hl46 1 rfl) ?_
        refine lv_iload hx hb d_L_entryAt_39 (lv_at hl46 7 rfl) ?_
        refine lv_iload hx hb d_L_entryAt_41 (lv_at hl46 4 rfl) ?_
        obtain ⟨x96, hc97, hf98⟩ := ob1_ex hf94
        refine jd_ci (va_runV (As := [.int x40, .int x38]) (rest := []) cx (cm_H_mayCome l D ca ad hs hc97 H41.size) (cwV 2 hts (jd_gV tb_322 tb_323 tb_324 tb_52 tb_325) rfl rfl rfl ⟨rfl, by decide, by decide, rfl⟩ (by rw [hR]; decide)) ⟨jd_blind nWc, (va_recv hK hP44 (ci := 0) (q0 := 0) rfl rfl), (jd_pre (av := [.ref (ad 0), .int x40, .int x38]) hP44 hK (hD I0 J0) (fun U h => nWm h hN))⟩ rfl rfl hl46.1 rfl (lv_room (Nat.le_of_ble_eq_true rfl)) d_L_entryAt_43 ⟨Nat.zero_le _, Nat.zero_le _⟩) hS45 (hD I0 J0) hA (fun H99 L100 hP101 hS102 => ?_)
        refine lv_if_eq (tgt := 64) hx hb d_L_entryAt_46 rfl (fun h103 => ?_) (fun h103 => ?_)
        · have hf104 := ifp hf98 h103
          refine lv_lconst (v := 0) hx hb d_L_entryAt_64 (by decide) ?_
          exact kj65 y37 x38 x39 x40 (0 : Int64) hf104 H99 L100 ls43 hP101 hS102 (lv_sub hl46 [0, 1, 2, 3, 4, 5, 6, 7] rfl)
        · have hf105 := ifn hf98 h103
          refine lv_aload_n hx hb d_L_entryAt_49 rfl (lv_at hl46 0 rfl) ?_
          refine va_get (D := D) (ci := 5) (v := .ref (ad 23)) (C := R_L) (T := F_L) (N := 4) hx hb hts (fun w h => List.mem_cons_of_mem _ (uw_L w h)) hown hK hP101 21 rfl rfl 1 (by decide) (hts _ (List.mem_cons_of_mem _ tb_90)) (fun _ h => h) rfl d_L_entryAt_50 ?_
          refine lv_iload hx hb d_L_entryAt_53 (lv_at hl46 4 rfl) ?_
          refine lv_iconst (v := 1) hx hb d_L_entryAt_55 (by decide) ?_
          refine lv_iload hx hb d_L_entryAt_56 (lv_at hl46 7 rfl) ?_
          refine lv_ishl hx hb d_L_entryAt_58 ?_
          refine lv_ior hx hb d_L_entryAt_59 ?_
          obtain ⟨hg106, hf107⟩ := grd_ex hf105
          refine va_lald hx hb hK hP101 23 3 rfl rfl (inB_in hg106) d_L_entryAt_60 ?_
          refine lv_goto (tgt := 65) hx hb d_L_entryAt_61 rfl ?_
          exact kj65 y37 x38 x39 x40 (J0 4 (x38 ||| ((1 : Int32) <<< (x40 &&& 31))).toNatClampNeg) hf107 H99 L100 ls43 hP101 hS102 (lv_sub hl46 [0, 1, 2, 3, 4, 5, 6, 7] rfl)
theorem d_L_numberOfRow_0 : decode b_L_numberOfRow 0 = .ok (.lconst 0, 1) := by decide +kernel
theorem d_L_numberOfRow_1 : decode b_L_numberOfRow 1 = .ok (.lstore_n 3, 1) := by decide +kernel
theorem d_L_numberOfRow_2 : decode b_L_numberOfRow 2 = .ok (.iconst 0, 1) := by decide +kernel
theorem d_L_numberOfRow_3 : decode b_L_numberOfRow 3 = .ok (.istore 5, 2) := by decide +kernel
theorem d_L_numberOfRow_5 : decode b_L_numberOfRow 5 = .ok (.iconst 0, 1) := by decide +kernel
theorem d_L_numberOfRow_6 : decode b_L_numberOfRow 6 = .ok (.istore 6, 2) := by decide +kernel
theorem d_L_numberOfRow_8 : decode b_L_numberOfRow 8 = .ok (.iload 6, 2) := by decide +kernel
theorem d_L_numberOfRow_10 : decode b_L_numberOfRow 10 = .ok (.aload_n 1, 1) := by decide +kernel
theorem d_L_numberOfRow_11 : decode b_L_numberOfRow 11 = .ok (.invokevirtual 50, 3) := by decide +kernel
theorem d_L_numberOfRow_14 : decode b_L_numberOfRow 14 = .ok (.if_icmp .ge 68, 3) := by decide +kernel
theorem d_L_numberOfRow_17 : decode b_L_numberOfRow 17 = .ok (.iconst 0, 1) := by decide +kernel
theorem d_L_numberOfRow_18 : decode b_L_numberOfRow 18 = .ok (.istore 7, 2) := by decide +kernel
theorem d_L_numberOfRow_20 : decode b_L_numberOfRow 20 = .ok (.iload 7, 2) := by decide +kernel
theorem d_L_numberOfRow_22 : decode b_L_numberOfRow 22 = .ok (.aload_n 2, 1) := by decide +kernel
theorem d_L_numberOfRow_23 : decode b_L_numberOfRow 23 = .ok (.iload 6, 2) := by decide +kernel
theorem d_L_numberOfRow_25 : decode b_L_numberOfRow 25 = .ok (.iaload, 1) := by decide +kernel
theorem d_L_numberOfRow_26 : decode b_L_numberOfRow 26 = .ok (.if_icmp .ge 39, 3) := by decide +kernel
theorem d_L_numberOfRow_29 : decode b_L_numberOfRow 29 = .ok (.lload_n 3, 1) := by decide +kernel
theorem d_L_numberOfRow_30 : decode b_L_numberOfRow 30 = .ok (.aload_n 1, 1) := by decide +kernel
theorem d_L_numberOfRow_31 : decode b_L_numberOfRow 31 = .ok (.iload 7, 2) := by decide +kernel
theorem d_L_numberOfRow_33 : decode b_L_numberOfRow 33 = .ok (.iload 5, 2) := by decide +kernel
theorem d_L_numberOfRow_35 : decode b_L_numberOfRow 35 = .ok (.invokevirtual 46, 3) := by decide +kernel
theorem d_L_numberOfRow_38 : decode b_L_numberOfRow 38 = .ok (.ifCond .eq 18, 3) := by decide +kernel
theorem d_L_numberOfRow_41 : decode b_L_numberOfRow 41 = .ok (.aload_n 0, 1) := by decide +kernel
theorem d_L_numberOfRow_42 : decode b_L_numberOfRow 42 = .ok (.getfield 16, 3) := by decide +kernel
theorem d_L_numberOfRow_45 : decode b_L_numberOfRow 45 = .ok (.iload 5, 2) := by decide +kernel
theorem d_L_numberOfRow_47 : decode b_L_numberOfRow 47 = .ok (.iconst 1, 1) := by decide +kernel
theorem d_L_numberOfRow_48 : decode b_L_numberOfRow 48 = .ok (.iload 7, 2) := by decide +kernel
theorem d_L_numberOfRow_50 : decode b_L_numberOfRow 50 = .ok (.ishl, 1) := by decide +kernel
theorem d_L_numberOfRow_51 : decode b_L_numberOfRow 51 = .ok (.ior, 1) := by decide +kernel
theorem d_L_numberOfRow_52 : decode b_L_numberOfRow 52 = .ok (.laload, 1) := by decide +kernel
theorem d_L_numberOfRow_53 : decode b_L_numberOfRow 53 = .ok (.goto 4, 3) := by decide +kernel
theorem d_L_numberOfRow_56 : decode b_L_numberOfRow 56 = .ok (.lconst 0, 1) := by decide +kernel
theorem d_L_numberOfRow_57 : decode b_L_numberOfRow 57 = .ok (.ladd, 1) := by decide +kernel
theorem d_L_numberOfRow_58 : decode b_L_numberOfRow 58 = .ok (.lstore_n 3, 1) := by decide +kernel
theorem d_L_numberOfRow_59 : decode b_L_numberOfRow 59 = .ok (.iinc 7 1, 3) := by decide +kernel
theorem d_L_numberOfRow_62 : decode b_L_numberOfRow 62 = .ok (.goto (-42), 3) := by decide +kernel
theorem d_L_numberOfRow_65 : decode b_L_numberOfRow 65 = .ok (.iload 5, 2) := by decide +kernel
theorem d_L_numberOfRow_67 : decode b_L_numberOfRow 67 = .ok (.iconst 1, 1) := by decide +kernel
theorem d_L_numberOfRow_68 : decode b_L_numberOfRow 68 = .ok (.aload_n 2, 1) := by decide +kernel
theorem d_L_numberOfRow_69 : decode b_L_numberOfRow 69 = .ok (.iload 6, 2) := by decide +kernel
theorem d_L_numberOfRow_71 : decode b_L_numberOfRow 71 = .ok (.iaload, 1) := by decide +kernel
theorem d_L_numberOfRow_72 : decode b_L_numberOfRow 72 = .ok (.ishl, 1) := by decide +kernel
theorem d_L_numberOfRow_73 : decode b_L_numberOfRow 73 = .ok (.ior, 1) := by decide +kernel
theorem d_L_numberOfRow_74 : decode b_L_numberOfRow 74 = .ok (.istore 5, 2) := by decide +kernel
theorem d_L_numberOfRow_76 : decode b_L_numberOfRow 76 = .ok (.iinc 6 1, 3) := by decide +kernel
theorem d_L_numberOfRow_79 : decode b_L_numberOfRow 79 = .ok (.goto (-71), 3) := by decide +kernel
theorem d_L_numberOfRow_82 : decode b_L_numberOfRow 82 = .ok (.lload_n 3, 1) := by decide +kernel
theorem d_L_numberOfRow_83 : decode b_L_numberOfRow 83 = .ok (.lreturn, 1) := by decide +kernel
def fm_L_numberOfRow_B20 (I0 : IS) (J0 : JS) (x12 : Int32) (x13 : Int32) (y39 : Int64) (x40 : Int32) : Option (Nat × Int64 × Int32) :=
  grd (inB x13 16) (if (I0 16 x13.toNatClampNeg) ≤ x40 then some (1, y39, x40) else ob1 (fm_H_mayCome x40 x12 I0) (fun x55 => if x55 = 0 then bnd (y39 + (0 : Int64)) (fun y65 => bnd (x40 + (1 : Int32)) (fun x70 => some (0, y65, x70))) else grd (inB (x12 ||| ((1 : Int32) <<< (x40 &&& 31))) 65536) (bnd (y39 + (J0 4 (x12 ||| ((1 : Int32) <<< (x40 &&& 31))).toNatClampNeg)) (fun y77 => bnd (x40 + (1 : Int32)) (fun x82 => some (0, y77, x82))))))
def fm_L_numberOfRow_B8 (I0 : IS) (J0 : JS) (y11 : Int64) (x12 : Int32) (x13 : Int32) : Option (Nat × Int64 × Int32 × Int32) :=
  ob1 (fm_H_size I0) (fun x22 => if x22 ≤ x13 then some (1, y11, x12, x13) else ob3 (iter (fun z : Int64 × Int32 => fm_L_numberOfRow_B20 I0 J0 x12 x13 z.1 z.2) FU (y11, (0 : Int32))) (fun _ y88 x89 => grd (inB x13 16) (bnd (x12 ||| ((1 : Int32) <<< ((I0 16 x13.toNatClampNeg) &&& 31))) (fun x100 => bnd (x13 + (1 : Int32)) (fun x105 => some (0, y88, x100, x105))))))
def fm_L_numberOfRow (I0 : IS) (J0 : JS) : Option (Int64) :=
  ob4 (iter (fun z : Int64 × Int32 × Int32 => fm_L_numberOfRow_B8 I0 J0 z.1 z.2.1 z.2.2) FU ((0 : Int64), (0 : Int32), (0 : Int32))) (fun _ y111 x112 x113 => some y111)
set_option maxHeartbeats 4000000 in
set_option maxRecDepth 100000 in
theorem cm_L_numberOfRow (l : Launch) (D : va_G) (ca : Nat → ClassId) (ad : Nat → Nat) (hs : Nat → Option Nat) {I0 : IS} {J0 : JS} {r : Int64} (hf : fm_L_numberOfRow I0 J0 = some r) : CtL l y_L_numberOfRow (Cond.code y_L_numberOfRow b_L_numberOfRow 8 (some .long) :: TB) { frames := 2, cells := 0, slots := 0, locals := 43 } [.ref (ad 21), .ref (ad 0), .ref (ad 17)] D cls_all (tysC ca) NN (wC ca ad hs I0 J0) (wC ca ad hs I0 J0) r := by
  refine jd_metL (cc := b_L_numberOfRow) (by decide) rfl (Nat.le_of_ble_eq_true rfl) (lv := [(0, .ref (ad 21)), (1, .ref (ad 0)), (2, .ref (ad 17))]) rfl ?_
  intro p e R s m args below meth c A Q ls cx hR hK hN hD0 hA hP hS hl hend
  have hx := cx.1
  have hb := cx.2.1
  have hml := cx.2.2.1
  have hown := cx.2.2.2.1
  have hts := cx.2.2.2.2
  have hD : ∀ I J, va_D A (wC ca ad hs I J) := fun I J => jd_Dc hD0 rfl
  unfold fm_L_numberOfRow at hf
  refine lv_lconst (v := 0) hx hb d_L_numberOfRow_0 (by decide) ?_
  refine lv_lstore_n hx hb d_L_numberOfRow_1 rfl hl (by decide) (lv' := [(3, .long (0 : Int64)), (0, .ref (ad 21)), (1, .ref (ad 0)), (2, .ref (ad 17))]) rfl (fun ls1 hl2 => ?_)
  refine lv_iconst (v := 0) hx hb d_L_numberOfRow_2 (by decide) ?_
  refine lv_istore hx hb d_L_numberOfRow_3 hl2 (by decide) (lv' := [(5, .int (0 : Int32)), (3, .long (0 : Int64)), (0, .ref (ad 21)), (1, .ref (ad 0)), (2, .ref (ad 17))]) rfl (fun ls3 hl4 => ?_)
  refine lv_iconst (v := 0) hx hb d_L_numberOfRow_5 (by decide) ?_
  refine lv_istore hx hb d_L_numberOfRow_6 hl4 (by decide) (lv' := [(6, .int (0 : Int32)), (5, .int (0 : Int32)), (3, .long (0 : Int64)), (0, .ref (ad 21)), (1, .ref (ad 0)), (2, .ref (ad 17))]) rfl (fun ls5 hl6 => ?_)
  obtain ⟨tg110, y111, x112, x113, ho114, hf115⟩ := ob4_ex hf
  have kx8_1 : ∀ (H116 : Heap) (L117 : List Loc) (ls118 : Array Slot), va_P D cls_all (wC ca ad hs I0 J0) H116 → va_S A s.heap H116 L117 → lv_has ls118 8 [(3, .long y111)] → W p l e R s m args below meth c H116 L117 0 0 Q (F0 m 82 ls118 []) := by
    intro H116 L117 ls118 hP119 hS120 hl121
    refine lv_lload_n hx hb d_L_numberOfRow_82 rfl (lv_at hl121 0 rfl) ?_
    cases hf115
    exact hend H116 L117 83 ls118 hP119 hS120 d_L_numberOfRow_83
  refine iter_ind (C := fun z : Int64 × Int32 × Int32 => ∀ (H14 : Heap) (L15 : List Loc) (ls16 : Array Slot), va_P D cls_all (wC ca ad hs I0 J0) H14 → va_S A s.heap H14 L15 → lv_has ls16 8 [(0, .ref (ad 21)), (1, .ref (ad 0)), (2, .ref (ad 17)), (3, .long z.1), (5, .int z.2.1), (6, .int z.2.2)] → W p l e R s m args below meth c H14 L15 0 0 Q (F0 m 8 ls16 [])) (fun z10 o9 hz21 hc7 he8 => ?_) _ _ ho114 s.heap [] ls5 hP hS (lv_sub hl6 [3, 4, 5, 2, 1, 0] rfl)
  obtain ⟨y11, x12, x13⟩ := z10
  intro H14 L15 ls16 hP17 hS18 hl19
  have hf20 : fm_L_numberOfRow_B8 I0 J0 y11 x12 x13 = some o9 := hz21
  unfold fm_L_numberOfRow_B8 at hf20
  refine lv_iload hx hb d_L_numberOfRow_8 (lv_at hl19 5 rfl) ?_
  refine lv_aload_n hx hb d_L_numberOfRow_10 rfl (lv_at hl19 1 rfl) ?_
  obtain ⟨x22, hc23, hf24⟩ := ob1_ex hf20
  refine jd_ci (va_runV (As := []) (rest := [.int x13]) cx (cm_H_size l D ca ad hs hc23 H14.size) (cwV 0 hts (jd_gV tb_245 tb_197 tb_198 tb_52 tb_199) rfl rfl rfl ⟨rfl, by decide, by decide, rfl⟩ (by rw [hR]; decide)) ⟨jd_blind nWc, (va_recv hK hP17 (ci := 0) (q0 := 0) rfl rfl), (jd_pre (av := [.ref (ad 0)]) hP17 hK (hD I0 J0) (fun U h => nWm h hN))⟩ rfl rfl hl19.1 rfl (lv_room (Nat.le_of_ble_eq_true rfl)) d_L_numberOfRow_11 ⟨Nat.zero_le _, Nat.zero_le _⟩) hS18 (hD I0 J0) hA (fun H25 L26 hP27 hS28 => ?_)
  refine lv_icmp_ge (tgt := 82) hx hb d_L_numberOfRow_14 rfl (fun h29 => ?_) (fun h29 => ?_)
  · have hf30 := ifp hf24 h29
    cases hf30
    have e32 := he8 (by show (1 : Nat) ≠ 0; decide)
    cases e32
    exact kx8_1 H25 L26 ls16 hP27 hS28 (lv_sub hl19 [3] rfl)
  · have hf31 := ifn hf24 h29
    refine lv_iconst (v := 0) hx hb d_L_numberOfRow_17 (by decide) ?_
    refine lv_istore hx hb d_L_numberOfRow_18 hl19 (by decide) (lv' := [(7, .int (0 : Int32)), (0, .ref (ad 21)), (1, .ref (ad 0)), (2, .ref (ad 17)), (3, .long y11), (5, .int x12), (6, .int x13)]) rfl (fun ls33 hl34 => ?_)
    obtain ⟨tg87, y88, x89, ho90, hf91⟩ := ob3_ex hf31
    have kx20_1 : ∀ (H92 : Heap) (L93 : List Loc) (ls94 : Array Slot), va_P D cls_all (wC ca ad hs I0 J0) H92 → va_S A s.heap H92 L93 → lv_has ls94 8 [(0, .ref (ad 21)), (1, .ref (ad 0)), (2, .ref (ad 17)), (3, .long y88), (5, .int x12), (6, .int x13)] → W p l e R s m args below meth c H92 L93 0 0 Q (F0 m 65 ls94 []) := by
      intro H92 L93 ls94 hP95 hS96 hl97
      refine lv_iload hx hb d_L_numberOfRow_65 (lv_at hl97 4 rfl) ?_
      refine lv_iconst (v := 1) hx hb d_L_numberOfRow_67 (by decide) ?_
      refine lv_aload_n hx hb d_L_numberOfRow_68 rfl (lv_at hl97 2 rfl) ?_
      refine lv_iload hx hb d_L_numberOfRow_69 (lv_at hl97 5 rfl) ?_
      obtain ⟨hg98, hf99⟩ := grd_ex hf91
      refine va_iald hx hb hK hP95 17 2 rfl rfl (inB_in hg98) d_L_numberOfRow_71 ?_
      refine lv_ishl hx hb d_L_numberOfRow_72 ?_
      refine lv_ior hx hb d_L_numberOfRow_73 ?_
      obtain ⟨x100, e101, hf102⟩ := bnd_ex hf99
      refine jd_tni e101 ?_
      refine lv_istore hx hb d_L_numberOfRow_74 hl97 (by decide) (lv' := [(5, .int x100), (0, .ref (ad 21)), (1, .ref (ad 0)), (2, .ref (ad 17)), (3, .long y88), (6, .int x13)]) rfl (fun ls103 hl104 => ?_)
      obtain ⟨x105, e106, hf107⟩ := bnd_ex hf102
      refine lv_iinc hx hb d_L_numberOfRow_76 hl104 (k := 5) rfl (v := x105) (by rw [e106]; rfl) (by decide) (lv' := [(6, .int x105), (5, .int x100), (0, .ref (ad 21)), (1, .ref (ad 0)), (2, .ref (ad 17)), (3, .long y88)]) rfl (fun ls108 hl109 => ?_)
      refine lv_goto (tgt := 8) hx hb d_L_numberOfRow_79 rfl ?_
      cases hf107
      exact hc7 rfl H92 L93 ls108 hP95 hS96 (lv_sub hl109 [2, 3, 4, 5, 1, 0] rfl)
    refine iter_ind (C := fun z : Int64 × Int32 => ∀ (H41 : Heap) (L42 : List Loc) (ls43 : Array Slot), va_P D cls_all (wC ca ad hs I0 J0) H41 → va_S A s.heap H41 L42 → lv_has ls43 8 [(0, .ref (ad 21)), (1, .ref (ad 0)), (2, .ref (ad 17)), (3, .long z.1), (5, .int x12), (6, .int x13), (7, .int z.2)] → W p l e R s m args below meth c H41 L42 0 0 Q (F0 m 20 ls43 [])) (fun z38 o37 hz48 hc35 he36 => ?_) _ _ ho90 H25 L26 ls33 hP27 hS28 (lv_sub hl34 [1, 2, 3, 4, 5, 6, 0] rfl)
    obtain ⟨y39, x40⟩ := z38
    intro H41 L42 ls43 hP44 hS45 hl46
    have hf47 : fm_L_numberOfRow_B20 I0 J0 x12 x13 y39 x40 = some o37 := hz48
    unfold fm_L_numberOfRow_B20 at hf47
    refine lv_iload hx hb d_L_numberOfRow_20 (lv_at hl46 6 rfl) ?_
    refine lv_aload_n hx hb d_L_numberOfRow_22 rfl (lv_at hl46 2 rfl) ?_
    refine lv_iload hx hb d_L_numberOfRow_23 (lv_at hl46 5 rfl) ?_
    obtain ⟨hg49, hf50⟩ := grd_ex hf47
    refine va_iald hx hb hK hP44 17 2 rfl rfl (inB_in hg49) d_L_numberOfRow_25 ?_
    refine lv_icmp_ge (tgt := 65) hx hb d_L_numberOfRow_26 rfl (fun h51 => ?_) (fun h51 => ?_)
    · have hf52 := ifp hf50 h51
      cases hf52
      have e54 := he36 (by show (1 : Nat) ≠ 0; decide)
      cases e54
      exact kx20_1 H41 L42 ls43 hP44 hS45 (lv_sub hl46 [0, 1, 2, 3, 4, 5] rfl)
    · have hf53 := ifn hf50 h51
      refine lv_lload_n hx hb d_L_numberOfRow_29 rfl (lv_at hl46 3 rfl) ?_
      refine lv_aload_n hx hb d_L_numberOfRow_30 rfl (lv_at hl46 1 rfl) ?_
      refine lv_iload hx hb d_L_numberOfRow_31 (lv_at hl46 6 rfl) ?_
      refine lv_iload hx hb d_L_numberOfRow_33 (lv_at hl46 4 rfl) ?_
      obtain ⟨x55, hc56, hf57⟩ := ob1_ex hf53
      refine jd_ci (va_runV (As := [.int x40, .int x12]) (rest := [.long y39]) cx (cm_H_mayCome l D ca ad hs hc56 H41.size) (cwV 2 hts (jd_gV tb_322 tb_323 tb_324 tb_52 tb_325) rfl rfl rfl ⟨rfl, by decide, by decide, rfl⟩ (by rw [hR]; decide)) ⟨jd_blind nWc, (va_recv hK hP44 (ci := 0) (q0 := 0) rfl rfl), (jd_pre (av := [.ref (ad 0), .int x40, .int x12]) hP44 hK (hD I0 J0) (fun U h => nWm h hN))⟩ rfl rfl hl46.1 rfl (lv_room (Nat.le_of_ble_eq_true rfl)) d_L_numberOfRow_35 ⟨Nat.zero_le _, Nat.zero_le _⟩) hS45 (hD I0 J0) hA (fun H58 L59 hP60 hS61 => ?_)
      refine lv_if_eq (tgt := 56) hx hb d_L_numberOfRow_38 rfl (fun h62 => ?_) (fun h62 => ?_)
      · have hf63 := ifp hf57 h62
        refine lv_lconst (v := 0) hx hb d_L_numberOfRow_56 (by decide) ?_
        refine lv_ladd hx hb d_L_numberOfRow_57 ?_
        obtain ⟨y65, e66, hf67⟩ := bnd_ex hf63
        refine jd_tnl e66 ?_
        refine lv_lstore_n hx hb d_L_numberOfRow_58 rfl hl46 (by decide) (lv' := [(3, .long y65), (0, .ref (ad 21)), (1, .ref (ad 0)), (2, .ref (ad 17)), (5, .int x12), (6, .int x13), (7, .int x40)]) rfl (fun ls68 hl69 => ?_)
        obtain ⟨x70, e71, hf72⟩ := bnd_ex hf67
        refine lv_iinc hx hb d_L_numberOfRow_59 hl69 (k := 6) rfl (v := x70) (by rw [e71]; rfl) (by decide) (lv' := [(7, .int x70), (3, .long y65), (0, .ref (ad 21)), (1, .ref (ad 0)), (2, .ref (ad 17)), (5, .int x12), (6, .int x13)]) rfl (fun ls73 hl74 => ?_)
        refine lv_goto (tgt := 20) hx hb d_L_numberOfRow_62 rfl ?_
        cases hf72
        exact hc35 rfl H58 L59 ls73 hP60 hS61 (lv_sub hl74 [2, 3, 4, 1, 5, 6, 0] rfl)
      · have hf64 := ifn hf57 h62
        refine lv_aload_n hx hb d_L_numberOfRow_41 rfl (lv_at hl46 0 rfl) ?_
        refine va_get (D := D) (ci := 5) (v := .ref (ad 23)) (C := R_L) (T := F_L) (N := 4) hx hb hts (fun w h => List.mem_cons_of_mem _ (uw_L w h)) hown hK hP60 21 rfl rfl 1 (by decide) (hts _ (List.mem_cons_of_mem _ tb_90)) (fun _ h => h) rfl d_L_numberOfRow_42 ?_
        refine lv_iload hx hb d_L_numberOfRow_45 (lv_at hl46 4 rfl) ?_
        refine lv_iconst (v := 1) hx hb d_L_numberOfRow_47 (by decide) ?_
        refine lv_iload hx hb d_L_numberOfRow_48 (lv_at hl46 6 rfl) ?_
        refine lv_ishl hx hb d_L_numberOfRow_50 ?_
        refine lv_ior hx hb d_L_numberOfRow_51 ?_
        obtain ⟨hg75, hf76⟩ := grd_ex hf64
        refine va_lald hx hb hK hP60 23 3 rfl rfl (inB_in hg75) d_L_numberOfRow_52 ?_
        refine lv_goto (tgt := 57) hx hb d_L_numberOfRow_53 rfl ?_
        refine lv_ladd hx hb d_L_numberOfRow_57 ?_
        obtain ⟨y77, e78, hf79⟩ := bnd_ex hf76
        refine jd_tnl e78 ?_
        refine lv_lstore_n hx hb d_L_numberOfRow_58 rfl hl46 (by decide) (lv' := [(3, .long y77), (0, .ref (ad 21)), (1, .ref (ad 0)), (2, .ref (ad 17)), (5, .int x12), (6, .int x13), (7, .int x40)]) rfl (fun ls80 hl81 => ?_)
        obtain ⟨x82, e83, hf84⟩ := bnd_ex hf79
        refine lv_iinc hx hb d_L_numberOfRow_59 hl81 (k := 6) rfl (v := x82) (by rw [e83]; rfl) (by decide) (lv' := [(7, .int x82), (3, .long y77), (0, .ref (ad 21)), (1, .ref (ad 0)), (2, .ref (ad 17)), (5, .int x12), (6, .int x13)]) rfl (fun ls85 hl86 => ?_)
        refine lv_goto (tgt := 20) hx hb d_L_numberOfRow_62 rfl ?_
        cases hf84
        exact hc35 rfl H58 L59 ls85 hP60 hS61 (lv_sub hl86 [2, 3, 4, 1, 5, 6, 0] rfl)
