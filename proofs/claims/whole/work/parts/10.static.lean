theorem d_K_holds_0 : decode b_K_holds 0 = .ok (.iload_n 0, 1) := by decide +kernel
theorem d_K_holds_1 : decode b_K_holds 1 = .ok (.iload_n 1, 1) := by decide +kernel
theorem d_K_holds_2 : decode b_K_holds 2 = .ok (.ishr, 1) := by decide +kernel
theorem d_K_holds_3 : decode b_K_holds 3 = .ok (.iconst 1, 1) := by decide +kernel
theorem d_K_holds_4 : decode b_K_holds 4 = .ok (.iand, 1) := by decide +kernel
theorem d_K_holds_5 : decode b_K_holds 5 = .ok (.ifCond .eq 7, 3) := by decide +kernel
theorem d_K_holds_8 : decode b_K_holds 8 = .ok (.iconst 1, 1) := by decide +kernel
theorem d_K_holds_9 : decode b_K_holds 9 = .ok (.goto 4, 3) := by decide +kernel
theorem d_K_holds_12 : decode b_K_holds 12 = .ok (.iconst 0, 1) := by decide +kernel
theorem d_K_holds_13 : decode b_K_holds 13 = .ok (.ireturn, 1) := by decide +kernel
def fm_K_holds (p0 : Int32) (p1 : Int32) : Option (Int32) :=
  if ((p0 >>> (p1 &&& 31)) &&& (1 : Int32)) = 0 then some (0 : Int32) else some (1 : Int32)
set_option maxHeartbeats 4000000 in
set_option maxRecDepth 100000 in
theorem cm_K_holds (l : Launch) (D : va_G) (ca : Nat → ClassId) (w : va_W) {p0 : Int32} {p1 : Int32} {I0 : IS} {J0 : JS} {r : Int32} (hf : fm_K_holds p0 p1 = some r) : CtI l y_K_holds (Cond.code y_K_holds b_K_holds 2 (some .boolean) :: TB) { frames := 0, cells := 0, slots := 0, locals := 0 } [.int p0, .int p1] D cls_all (tysC ca) NN (kw w I0 J0) (kw w I0 J0) r := by
  refine jd_metZ (cc := b_K_holds) (by decide) rfl (Nat.le_of_ble_eq_true rfl) (lv := [(0, .int p0), (1, .int p1)]) rfl ?_
  intro p e R s m args below meth c A Q ls cx hR hK hN hD0 hA hP hS hl hend
  have hx := cx.1
  have hb := cx.2.1
  have hml := cx.2.2.1
  have hown := cx.2.2.2.1
  have hts := cx.2.2.2.2
  have hD : ∀ I J, va_D A (kw w I J) := fun I J => jd_Dc hD0 rfl
  unfold fm_K_holds at hf
  refine lv_iload_n hx hb d_K_holds_0 rfl (lv_at hl 0 rfl) ?_
  refine lv_iload_n hx hb d_K_holds_1 rfl (lv_at hl 1 rfl) ?_
  refine lv_ishr hx hb d_K_holds_2 ?_
  refine lv_iconst (v := 1) hx hb d_K_holds_3 (by decide) ?_
  refine lv_iand hx hb d_K_holds_4 ?_
  refine lv_if_eq (tgt := 12) hx hb d_K_holds_5 rfl (fun h1 => ?_) (fun h1 => ?_)
  · have hf2 := ifp hf h1
    refine lv_iconst (v := 0) hx hb d_K_holds_12 (by decide) ?_
    cases hf2
    exact hend s.heap [] 13 ls (show narrow .boolean (.int (0 : Int32)) = .int (0 : Int32) from rfl) hP hS d_K_holds_13
  · have hf3 := ifn hf h1
    refine lv_iconst (v := 1) hx hb d_K_holds_8 (by decide) ?_
    refine lv_goto (tgt := 13) hx hb d_K_holds_9 rfl ?_
    cases hf3
    exact hend s.heap [] 13 ls (show narrow .boolean (.int (1 : Int32)) = .int (1 : Int32) from rfl) hP hS d_K_holds_13
theorem d_L_setAfter_0 : decode b_L_setAfter 0 = .ok (.iload_n 0, 1) := by decide +kernel
theorem d_L_setAfter_1 : decode b_L_setAfter 1 = .ok (.iload_n 1, 1) := by decide +kernel
theorem d_L_setAfter_2 : decode b_L_setAfter 2 = .ok (.isub, 1) := by decide +kernel
theorem d_L_setAfter_3 : decode b_L_setAfter 3 = .ok (.iload_n 1, 1) := by decide +kernel
theorem d_L_setAfter_4 : decode b_L_setAfter 4 = .ok (.iand, 1) := by decide +kernel
theorem d_L_setAfter_5 : decode b_L_setAfter 5 = .ok (.ireturn, 1) := by decide +kernel
def fm_L_setAfter (p0 : Int32) (p1 : Int32) : Option (Int32) :=
  some ((p0 - p1) &&& p1)
set_option maxHeartbeats 4000000 in
set_option maxRecDepth 100000 in
theorem cm_L_setAfter (l : Launch) (D : va_G) (ca : Nat → ClassId) (w : va_W) {p0 : Int32} {p1 : Int32} {I0 : IS} {J0 : JS} {r : Int32} (hf : fm_L_setAfter p0 p1 = some r) : CtI l y_L_setAfter (Cond.code y_L_setAfter b_L_setAfter 2 (some .int) :: TB) { frames := 0, cells := 0, slots := 0, locals := 0 } [.int p0, .int p1] D cls_all (tysC ca) NN (kw w I0 J0) (kw w I0 J0) r := by
  refine jd_metI (cc := b_L_setAfter) (by decide) rfl (Nat.le_of_ble_eq_true rfl) (lv := [(0, .int p0), (1, .int p1)]) rfl ?_
  intro p e R s m args below meth c A Q ls cx hR hK hN hD0 hA hP hS hl hend
  have hx := cx.1
  have hb := cx.2.1
  have hml := cx.2.2.1
  have hown := cx.2.2.2.1
  have hts := cx.2.2.2.2
  have hD : ∀ I J, va_D A (kw w I J) := fun I J => jd_Dc hD0 rfl
  unfold fm_L_setAfter at hf
  refine lv_iload_n hx hb d_L_setAfter_0 rfl (lv_at hl 0 rfl) ?_
  refine lv_iload_n hx hb d_L_setAfter_1 rfl (lv_at hl 1 rfl) ?_
  refine lv_isub hx hb d_L_setAfter_2 ?_
  refine lv_iload_n hx hb d_L_setAfter_3 rfl (lv_at hl 1 rfl) ?_
  refine lv_iand hx hb d_L_setAfter_4 ?_
  cases hf
  exact hend s.heap [] 5 ls hP hS d_L_setAfter_5
theorem d_G_bitCount_0 : decode b_G_bitCount 0 = .ok (.iload_n 0, 1) := by decide +kernel
theorem d_G_bitCount_1 : decode b_G_bitCount 1 = .ok (.iload_n 0, 1) := by decide +kernel
theorem d_G_bitCount_2 : decode b_G_bitCount 2 = .ok (.iconst 1, 1) := by decide +kernel
theorem d_G_bitCount_3 : decode b_G_bitCount 3 = .ok (.iushr, 1) := by decide +kernel
theorem d_G_bitCount_4 : decode b_G_bitCount 4 = .ok (.ldc_w 265, 3) := by decide +kernel
theorem d_G_bitCount_7 : decode b_G_bitCount 7 = .ok (.iand, 1) := by decide +kernel
theorem d_G_bitCount_8 : decode b_G_bitCount 8 = .ok (.isub, 1) := by decide +kernel
theorem d_G_bitCount_9 : decode b_G_bitCount 9 = .ok (.istore_n 0, 1) := by decide +kernel
theorem d_G_bitCount_10 : decode b_G_bitCount 10 = .ok (.iload_n 0, 1) := by decide +kernel
theorem d_G_bitCount_11 : decode b_G_bitCount 11 = .ok (.ldc_w 266, 3) := by decide +kernel
theorem d_G_bitCount_14 : decode b_G_bitCount 14 = .ok (.iand, 1) := by decide +kernel
theorem d_G_bitCount_15 : decode b_G_bitCount 15 = .ok (.iload_n 0, 1) := by decide +kernel
theorem d_G_bitCount_16 : decode b_G_bitCount 16 = .ok (.iconst 2, 1) := by decide +kernel
theorem d_G_bitCount_17 : decode b_G_bitCount 17 = .ok (.iushr, 1) := by decide +kernel
theorem d_G_bitCount_18 : decode b_G_bitCount 18 = .ok (.ldc_w 266, 3) := by decide +kernel
theorem d_G_bitCount_21 : decode b_G_bitCount 21 = .ok (.iand, 1) := by decide +kernel
theorem d_G_bitCount_22 : decode b_G_bitCount 22 = .ok (.iadd, 1) := by decide +kernel
theorem d_G_bitCount_23 : decode b_G_bitCount 23 = .ok (.istore_n 0, 1) := by decide +kernel
theorem d_G_bitCount_24 : decode b_G_bitCount 24 = .ok (.iload_n 0, 1) := by decide +kernel
theorem d_G_bitCount_25 : decode b_G_bitCount 25 = .ok (.iload_n 0, 1) := by decide +kernel
theorem d_G_bitCount_26 : decode b_G_bitCount 26 = .ok (.iconst 4, 1) := by decide +kernel
theorem d_G_bitCount_27 : decode b_G_bitCount 27 = .ok (.iushr, 1) := by decide +kernel
theorem d_G_bitCount_28 : decode b_G_bitCount 28 = .ok (.iadd, 1) := by decide +kernel
theorem d_G_bitCount_29 : decode b_G_bitCount 29 = .ok (.ldc_w 267, 3) := by decide +kernel
theorem d_G_bitCount_32 : decode b_G_bitCount 32 = .ok (.iand, 1) := by decide +kernel
theorem d_G_bitCount_33 : decode b_G_bitCount 33 = .ok (.istore_n 0, 1) := by decide +kernel
theorem d_G_bitCount_34 : decode b_G_bitCount 34 = .ok (.iload_n 0, 1) := by decide +kernel
theorem d_G_bitCount_35 : decode b_G_bitCount 35 = .ok (.iload_n 0, 1) := by decide +kernel
theorem d_G_bitCount_36 : decode b_G_bitCount 36 = .ok (.bipush 8, 2) := by decide +kernel
theorem d_G_bitCount_38 : decode b_G_bitCount 38 = .ok (.iushr, 1) := by decide +kernel
theorem d_G_bitCount_39 : decode b_G_bitCount 39 = .ok (.iadd, 1) := by decide +kernel
theorem d_G_bitCount_40 : decode b_G_bitCount 40 = .ok (.istore_n 0, 1) := by decide +kernel
theorem d_G_bitCount_41 : decode b_G_bitCount 41 = .ok (.iload_n 0, 1) := by decide +kernel
theorem d_G_bitCount_42 : decode b_G_bitCount 42 = .ok (.iload_n 0, 1) := by decide +kernel
theorem d_G_bitCount_43 : decode b_G_bitCount 43 = .ok (.bipush 16, 2) := by decide +kernel
theorem d_G_bitCount_45 : decode b_G_bitCount 45 = .ok (.iushr, 1) := by decide +kernel
theorem d_G_bitCount_46 : decode b_G_bitCount 46 = .ok (.iadd, 1) := by decide +kernel
theorem d_G_bitCount_47 : decode b_G_bitCount 47 = .ok (.istore_n 0, 1) := by decide +kernel
theorem d_G_bitCount_48 : decode b_G_bitCount 48 = .ok (.iload_n 0, 1) := by decide +kernel
theorem d_G_bitCount_49 : decode b_G_bitCount 49 = .ok (.bipush 63, 2) := by decide +kernel
theorem d_G_bitCount_51 : decode b_G_bitCount 51 = .ok (.iand, 1) := by decide +kernel
theorem d_G_bitCount_52 : decode b_G_bitCount 52 = .ok (.ireturn, 1) := by decide +kernel
def fm_G_bitCount (p0 : Int32) : Option (Int32) :=
  bnd (p0 - (((p0.toUInt32 >>> ((1 : Int32).toUInt32 &&& Int32.toUInt32 31)).toInt32) &&& (1431655765 : Int32))) (fun x1 => bnd ((x1 &&& (858993459 : Int32)) + (((x1.toUInt32 >>> ((2 : Int32).toUInt32 &&& Int32.toUInt32 31)).toInt32) &&& (858993459 : Int32))) (fun x6 => bnd ((x6 + ((x6.toUInt32 >>> ((4 : Int32).toUInt32 &&& Int32.toUInt32 31)).toInt32)) &&& (252645135 : Int32)) (fun x11 => bnd (x11 + ((x11.toUInt32 >>> ((8 : Int32).toUInt32 &&& Int32.toUInt32 31)).toInt32)) (fun x16 => bnd (x16 + ((x16.toUInt32 >>> ((16 : Int32).toUInt32 &&& Int32.toUInt32 31)).toInt32)) (fun x21 => some (x21 &&& (63 : Int32)))))))
set_option maxHeartbeats 4000000 in
set_option maxRecDepth 100000 in
theorem cm_G_bitCount (l : Launch) (D : va_G) (ca : Nat → ClassId) (w : va_W) {p0 : Int32} {I0 : IS} {J0 : JS} {r : Int32} (hf : fm_G_bitCount p0 = some r) : CtI l y_G_bitCount (Cond.code y_G_bitCount b_G_bitCount 1 (some .int) :: TB) { frames := 0, cells := 0, slots := 0, locals := 0 } [.int p0] D cls_all (tysC ca) NN (kw w I0 J0) (kw w I0 J0) r := by
  refine jd_metI (cc := b_G_bitCount) (by decide) rfl (Nat.le_of_ble_eq_true rfl) (lv := [(0, .int p0)]) rfl ?_
  intro p e R s m args below meth c A Q ls cx hR hK hN hD0 hA hP hS hl hend
  have hx := cx.1
  have hb := cx.2.1
  have hml := cx.2.2.1
  have hown := cx.2.2.2.1
  have hts := cx.2.2.2.2
  have hD : ∀ I J, va_D A (kw w I J) := fun I J => jd_Dc hD0 rfl
  unfold fm_G_bitCount at hf
  refine lv_iload_n hx hb d_G_bitCount_0 rfl (lv_at hl 0 rfl) ?_
  refine lv_iload_n hx hb d_G_bitCount_1 rfl (lv_at hl 0 rfl) ?_
  refine lv_iconst (v := 1) hx hb d_G_bitCount_2 (by decide) ?_
  refine lv_iushr hx hb d_G_bitCount_3 rfl ?_
  refine lv_ldcw (v := 1431655765) hx hb hown (hts _ (List.mem_cons_of_mem _ tb_203)) d_G_bitCount_4 ?_
  refine lv_iand hx hb d_G_bitCount_7 ?_
  refine lv_isub hx hb d_G_bitCount_8 ?_
  obtain ⟨x1, e2, hf3⟩ := bnd_ex hf
  refine jd_tni e2 ?_
  refine lv_istore_n hx hb d_G_bitCount_9 rfl hl (by decide) (lv' := [(0, .int x1)]) rfl (fun ls4 hl5 => ?_)
  refine lv_iload_n hx hb d_G_bitCount_10 rfl (lv_at hl5 0 rfl) ?_
  refine lv_ldcw (v := 858993459) hx hb hown (hts _ (List.mem_cons_of_mem _ tb_204)) d_G_bitCount_11 ?_
  refine lv_iand hx hb d_G_bitCount_14 ?_
  refine lv_iload_n hx hb d_G_bitCount_15 rfl (lv_at hl5 0 rfl) ?_
  refine lv_iconst (v := 2) hx hb d_G_bitCount_16 (by decide) ?_
  refine lv_iushr hx hb d_G_bitCount_17 rfl ?_
  refine lv_ldcw (v := 858993459) hx hb hown (hts _ (List.mem_cons_of_mem _ tb_204)) d_G_bitCount_18 ?_
  refine lv_iand hx hb d_G_bitCount_21 ?_
  refine lv_iadd hx hb d_G_bitCount_22 ?_
  obtain ⟨x6, e7, hf8⟩ := bnd_ex hf3
  refine jd_tni e7 ?_
  refine lv_istore_n hx hb d_G_bitCount_23 rfl hl5 (by decide) (lv' := [(0, .int x6)]) rfl (fun ls9 hl10 => ?_)
  refine lv_iload_n hx hb d_G_bitCount_24 rfl (lv_at hl10 0 rfl) ?_
  refine lv_iload_n hx hb d_G_bitCount_25 rfl (lv_at hl10 0 rfl) ?_
  refine lv_iconst (v := 4) hx hb d_G_bitCount_26 (by decide) ?_
  refine lv_iushr hx hb d_G_bitCount_27 rfl ?_
  refine lv_iadd hx hb d_G_bitCount_28 ?_
  refine lv_ldcw (v := 252645135) hx hb hown (hts _ (List.mem_cons_of_mem _ tb_205)) d_G_bitCount_29 ?_
  refine lv_iand hx hb d_G_bitCount_32 ?_
  obtain ⟨x11, e12, hf13⟩ := bnd_ex hf8
  refine jd_tni e12 ?_
  refine lv_istore_n hx hb d_G_bitCount_33 rfl hl10 (by decide) (lv' := [(0, .int x11)]) rfl (fun ls14 hl15 => ?_)
  refine lv_iload_n hx hb d_G_bitCount_34 rfl (lv_at hl15 0 rfl) ?_
  refine lv_iload_n hx hb d_G_bitCount_35 rfl (lv_at hl15 0 rfl) ?_
  refine lv_bipush (v := 8) hx hb d_G_bitCount_36 (by decide) ?_
  refine lv_iushr hx hb d_G_bitCount_38 rfl ?_
  refine lv_iadd hx hb d_G_bitCount_39 ?_
  obtain ⟨x16, e17, hf18⟩ := bnd_ex hf13
  refine jd_tni e17 ?_
  refine lv_istore_n hx hb d_G_bitCount_40 rfl hl15 (by decide) (lv' := [(0, .int x16)]) rfl (fun ls19 hl20 => ?_)
  refine lv_iload_n hx hb d_G_bitCount_41 rfl (lv_at hl20 0 rfl) ?_
  refine lv_iload_n hx hb d_G_bitCount_42 rfl (lv_at hl20 0 rfl) ?_
  refine lv_bipush (v := 16) hx hb d_G_bitCount_43 (by decide) ?_
  refine lv_iushr hx hb d_G_bitCount_45 rfl ?_
  refine lv_iadd hx hb d_G_bitCount_46 ?_
  obtain ⟨x21, e22, hf23⟩ := bnd_ex hf18
  refine jd_tni e22 ?_
  refine lv_istore_n hx hb d_G_bitCount_47 rfl hl20 (by decide) (lv' := [(0, .int x21)]) rfl (fun ls24 hl25 => ?_)
  refine lv_iload_n hx hb d_G_bitCount_48 rfl (lv_at hl25 0 rfl) ?_
  refine lv_bipush (v := 63) hx hb d_G_bitCount_49 (by decide) ?_
  refine lv_iand hx hb d_G_bitCount_51 ?_
  cases hf23
  exact hend s.heap [] 52 ls24 hP hS d_G_bitCount_52
theorem d_G_numberOfTrailingZeros_0 : decode b_G_numberOfTrailingZeros 0 = .ok (.iload_n 0, 1) := by decide +kernel
theorem d_G_numberOfTrailingZeros_1 : decode b_G_numberOfTrailingZeros 1 = .ok (.iconst (-1), 1) := by decide +kernel
theorem d_G_numberOfTrailingZeros_2 : decode b_G_numberOfTrailingZeros 2 = .ok (.ixor, 1) := by decide +kernel
theorem d_G_numberOfTrailingZeros_3 : decode b_G_numberOfTrailingZeros 3 = .ok (.iload_n 0, 1) := by decide +kernel
theorem d_G_numberOfTrailingZeros_4 : decode b_G_numberOfTrailingZeros 4 = .ok (.iconst 1, 1) := by decide +kernel
theorem d_G_numberOfTrailingZeros_5 : decode b_G_numberOfTrailingZeros 5 = .ok (.isub, 1) := by decide +kernel
theorem d_G_numberOfTrailingZeros_6 : decode b_G_numberOfTrailingZeros 6 = .ok (.iand, 1) := by decide +kernel
theorem d_G_numberOfTrailingZeros_7 : decode b_G_numberOfTrailingZeros 7 = .ok (.istore_n 0, 1) := by decide +kernel
theorem d_G_numberOfTrailingZeros_8 : decode b_G_numberOfTrailingZeros 8 = .ok (.iload_n 0, 1) := by decide +kernel
theorem d_G_numberOfTrailingZeros_9 : decode b_G_numberOfTrailingZeros 9 = .ok (.ifCond .gt 8, 3) := by decide +kernel
theorem d_G_numberOfTrailingZeros_12 : decode b_G_numberOfTrailingZeros 12 = .ok (.iload_n 0, 1) := by decide +kernel
theorem d_G_numberOfTrailingZeros_13 : decode b_G_numberOfTrailingZeros 13 = .ok (.bipush 32, 2) := by decide +kernel
theorem d_G_numberOfTrailingZeros_15 : decode b_G_numberOfTrailingZeros 15 = .ok (.iand, 1) := by decide +kernel
theorem d_G_numberOfTrailingZeros_16 : decode b_G_numberOfTrailingZeros 16 = .ok (.ireturn, 1) := by decide +kernel
theorem d_G_numberOfTrailingZeros_17 : decode b_G_numberOfTrailingZeros 17 = .ok (.iconst 1, 1) := by decide +kernel
theorem d_G_numberOfTrailingZeros_18 : decode b_G_numberOfTrailingZeros 18 = .ok (.istore_n 1, 1) := by decide +kernel
theorem d_G_numberOfTrailingZeros_19 : decode b_G_numberOfTrailingZeros 19 = .ok (.iload_n 0, 1) := by decide +kernel
theorem d_G_numberOfTrailingZeros_20 : decode b_G_numberOfTrailingZeros 20 = .ok (.ldc_w 264, 3) := by decide +kernel
theorem d_G_numberOfTrailingZeros_23 : decode b_G_numberOfTrailingZeros 23 = .ok (.if_icmp .le 11, 3) := by decide +kernel
theorem d_G_numberOfTrailingZeros_26 : decode b_G_numberOfTrailingZeros 26 = .ok (.iinc 1 16, 3) := by decide +kernel
theorem d_G_numberOfTrailingZeros_29 : decode b_G_numberOfTrailingZeros 29 = .ok (.iload_n 0, 1) := by decide +kernel
theorem d_G_numberOfTrailingZeros_30 : decode b_G_numberOfTrailingZeros 30 = .ok (.bipush 16, 2) := by decide +kernel
theorem d_G_numberOfTrailingZeros_32 : decode b_G_numberOfTrailingZeros 32 = .ok (.iushr, 1) := by decide +kernel
theorem d_G_numberOfTrailingZeros_33 : decode b_G_numberOfTrailingZeros 33 = .ok (.istore_n 0, 1) := by decide +kernel
theorem d_G_numberOfTrailingZeros_34 : decode b_G_numberOfTrailingZeros 34 = .ok (.iload_n 0, 1) := by decide +kernel
theorem d_G_numberOfTrailingZeros_35 : decode b_G_numberOfTrailingZeros 35 = .ok (.sipush 256, 3) := by decide +kernel
theorem d_G_numberOfTrailingZeros_38 : decode b_G_numberOfTrailingZeros 38 = .ok (.if_icmp .le 11, 3) := by decide +kernel
theorem d_G_numberOfTrailingZeros_41 : decode b_G_numberOfTrailingZeros 41 = .ok (.iinc 1 8, 3) := by decide +kernel
theorem d_G_numberOfTrailingZeros_44 : decode b_G_numberOfTrailingZeros 44 = .ok (.iload_n 0, 1) := by decide +kernel
theorem d_G_numberOfTrailingZeros_45 : decode b_G_numberOfTrailingZeros 45 = .ok (.bipush 8, 2) := by decide +kernel
theorem d_G_numberOfTrailingZeros_47 : decode b_G_numberOfTrailingZeros 47 = .ok (.iushr, 1) := by decide +kernel
theorem d_G_numberOfTrailingZeros_48 : decode b_G_numberOfTrailingZeros 48 = .ok (.istore_n 0, 1) := by decide +kernel
theorem d_G_numberOfTrailingZeros_49 : decode b_G_numberOfTrailingZeros 49 = .ok (.iload_n 0, 1) := by decide +kernel
theorem d_G_numberOfTrailingZeros_50 : decode b_G_numberOfTrailingZeros 50 = .ok (.bipush 16, 2) := by decide +kernel
theorem d_G_numberOfTrailingZeros_52 : decode b_G_numberOfTrailingZeros 52 = .ok (.if_icmp .le 10, 3) := by decide +kernel
theorem d_G_numberOfTrailingZeros_55 : decode b_G_numberOfTrailingZeros 55 = .ok (.iinc 1 4, 3) := by decide +kernel
theorem d_G_numberOfTrailingZeros_58 : decode b_G_numberOfTrailingZeros 58 = .ok (.iload_n 0, 1) := by decide +kernel
theorem d_G_numberOfTrailingZeros_59 : decode b_G_numberOfTrailingZeros 59 = .ok (.iconst 4, 1) := by decide +kernel
theorem d_G_numberOfTrailingZeros_60 : decode b_G_numberOfTrailingZeros 60 = .ok (.iushr, 1) := by decide +kernel
theorem d_G_numberOfTrailingZeros_61 : decode b_G_numberOfTrailingZeros 61 = .ok (.istore_n 0, 1) := by decide +kernel
theorem d_G_numberOfTrailingZeros_62 : decode b_G_numberOfTrailingZeros 62 = .ok (.iload_n 0, 1) := by decide +kernel
theorem d_G_numberOfTrailingZeros_63 : decode b_G_numberOfTrailingZeros 63 = .ok (.iconst 4, 1) := by decide +kernel
theorem d_G_numberOfTrailingZeros_64 : decode b_G_numberOfTrailingZeros 64 = .ok (.if_icmp .le 10, 3) := by decide +kernel
theorem d_G_numberOfTrailingZeros_67 : decode b_G_numberOfTrailingZeros 67 = .ok (.iinc 1 2, 3) := by decide +kernel
theorem d_G_numberOfTrailingZeros_70 : decode b_G_numberOfTrailingZeros 70 = .ok (.iload_n 0, 1) := by decide +kernel
theorem d_G_numberOfTrailingZeros_71 : decode b_G_numberOfTrailingZeros 71 = .ok (.iconst 2, 1) := by decide +kernel
theorem d_G_numberOfTrailingZeros_72 : decode b_G_numberOfTrailingZeros 72 = .ok (.iushr, 1) := by decide +kernel
theorem d_G_numberOfTrailingZeros_73 : decode b_G_numberOfTrailingZeros 73 = .ok (.istore_n 0, 1) := by decide +kernel
theorem d_G_numberOfTrailingZeros_74 : decode b_G_numberOfTrailingZeros 74 = .ok (.iload_n 1, 1) := by decide +kernel
theorem d_G_numberOfTrailingZeros_75 : decode b_G_numberOfTrailingZeros 75 = .ok (.iload_n 0, 1) := by decide +kernel
theorem d_G_numberOfTrailingZeros_76 : decode b_G_numberOfTrailingZeros 76 = .ok (.iconst 1, 1) := by decide +kernel
theorem d_G_numberOfTrailingZeros_77 : decode b_G_numberOfTrailingZeros 77 = .ok (.iushr, 1) := by decide +kernel
theorem d_G_numberOfTrailingZeros_78 : decode b_G_numberOfTrailingZeros 78 = .ok (.iadd, 1) := by decide +kernel
theorem d_G_numberOfTrailingZeros_79 : decode b_G_numberOfTrailingZeros 79 = .ok (.ireturn, 1) := by decide +kernel
def fm_G_numberOfTrailingZeros_j62  (x1 : Int32) (x2 : Int32) : Option (Int32) :=
  if x1 ≤ (4 : Int32) then some (x2 + ((x1.toUInt32 >>> ((1 : Int32).toUInt32 &&& Int32.toUInt32 31)).toInt32)) else bnd (x2 + (2 : Int32)) (fun x13 => bnd ((x1.toUInt32 >>> ((2 : Int32).toUInt32 &&& Int32.toUInt32 31)).toInt32) (fun x18 => some (x13 + ((x18.toUInt32 >>> ((1 : Int32).toUInt32 &&& Int32.toUInt32 31)).toInt32))))
def fm_G_numberOfTrailingZeros_j49  (x23 : Int32) (x24 : Int32) : Option (Int32) :=
  if x23 ≤ (16 : Int32) then fm_G_numberOfTrailingZeros_j62 x23 x24 else bnd (x24 + (4 : Int32)) (fun x35 => bnd ((x23.toUInt32 >>> ((4 : Int32).toUInt32 &&& Int32.toUInt32 31)).toInt32) (fun x40 => fm_G_numberOfTrailingZeros_j62 x40 x35))
def fm_G_numberOfTrailingZeros_j34  (x45 : Int32) (x46 : Int32) : Option (Int32) :=
  if x45 ≤ (256 : Int32) then fm_G_numberOfTrailingZeros_j49 x45 x46 else bnd (x46 + (8 : Int32)) (fun x57 => bnd ((x45.toUInt32 >>> ((8 : Int32).toUInt32 &&& Int32.toUInt32 31)).toInt32) (fun x62 => fm_G_numberOfTrailingZeros_j49 x62 x57))
def fm_G_numberOfTrailingZeros (p0 : Int32) : Option (Int32) :=
  bnd ((p0 ^^^ (-1 : Int32)) &&& (p0 - (1 : Int32))) (fun x67 => if 0 < x67 then if x67 ≤ (65536 : Int32) then fm_G_numberOfTrailingZeros_j34 x67 (1 : Int32) else bnd ((1 : Int32) + (16 : Int32)) (fun x80 => bnd ((x67.toUInt32 >>> ((16 : Int32).toUInt32 &&& Int32.toUInt32 31)).toInt32) (fun x85 => fm_G_numberOfTrailingZeros_j34 x85 x80)) else some (x67 &&& (32 : Int32)))
set_option maxHeartbeats 4000000 in
set_option maxRecDepth 100000 in
theorem cm_G_numberOfTrailingZeros (l : Launch) (D : va_G) (ca : Nat → ClassId) (w : va_W) {p0 : Int32} {I0 : IS} {J0 : JS} {r : Int32} (hf : fm_G_numberOfTrailingZeros p0 = some r) : CtI l y_G_numberOfTrailingZeros (Cond.code y_G_numberOfTrailingZeros b_G_numberOfTrailingZeros 2 (some .int) :: TB) { frames := 0, cells := 0, slots := 0, locals := 0 } [.int p0] D cls_all (tysC ca) NN (kw w I0 J0) (kw w I0 J0) r := by
  refine jd_metI (cc := b_G_numberOfTrailingZeros) (by decide) rfl (Nat.le_of_ble_eq_true rfl) (lv := [(0, .int p0)]) rfl ?_
  intro p e R s m args below meth c A Q ls cx hR hK hN hD0 hA hP hS hl hend
  have hx := cx.1
  have hb := cx.2.1
  have hml := cx.2.2.1
  have hown := cx.2.2.2.1
  have hts := cx.2.2.2.2
  have hD : ∀ I J, va_D A (kw w I J) := fun I J => jd_Dc hD0 rfl
  unfold fm_G_numberOfTrailingZeros at hf
  have kj62 : ∀ (x1 : Int32) (x2 : Int32), fm_G_numberOfTrailingZeros_j62 x1 x2 = some r → ∀ (H3 : Heap) (L4 : List Loc) (ls5 : Array Slot), va_P D cls_all (kw w I0 J0) H3 → va_S A s.heap H3 L4 → lv_has ls5 2 [(0, .int x1), (1, .int x2)] → W p l e R s m args below meth c H3 L4 0 0 Q (F0 m 62 ls5 []) := by
    intro x1 x2 hf9 H3 L4 ls5 hP6 hS7 hl8
    unfold fm_G_numberOfTrailingZeros_j62 at hf9
    refine lv_iload_n hx hb d_G_numberOfTrailingZeros_62 rfl (lv_at hl8 0 rfl) ?_
    refine lv_iconst (v := 4) hx hb d_G_numberOfTrailingZeros_63 (by decide) ?_
    refine lv_icmp_le (tgt := 74) hx hb d_G_numberOfTrailingZeros_64 rfl (fun h10 => ?_) (fun h10 => ?_)
    · have hf11 := ifp hf9 h10
      refine lv_iload_n hx hb d_G_numberOfTrailingZeros_74 rfl (lv_at hl8 1 rfl) ?_
      refine lv_iload_n hx hb d_G_numberOfTrailingZeros_75 rfl (lv_at hl8 0 rfl) ?_
      refine lv_iconst (v := 1) hx hb d_G_numberOfTrailingZeros_76 (by decide) ?_
      refine lv_iushr hx hb d_G_numberOfTrailingZeros_77 rfl ?_
      refine lv_iadd hx hb d_G_numberOfTrailingZeros_78 ?_
      cases hf11
      exact hend H3 L4 79 ls5 hP6 hS7 d_G_numberOfTrailingZeros_79
    · have hf12 := ifn hf9 h10
      obtain ⟨x13, e14, hf15⟩ := bnd_ex hf12
      refine lv_iinc hx hb d_G_numberOfTrailingZeros_67 hl8 (k := 1) rfl (v := x13) (by rw [e14]; rfl) (by decide) (lv' := [(1, .int x13), (0, .int x1)]) rfl (fun ls16 hl17 => ?_)
      refine lv_iload_n hx hb d_G_numberOfTrailingZeros_70 rfl (lv_at hl17 1 rfl) ?_
      refine lv_iconst (v := 2) hx hb d_G_numberOfTrailingZeros_71 (by decide) ?_
      refine lv_iushr hx hb d_G_numberOfTrailingZeros_72 rfl ?_
      obtain ⟨x18, e19, hf20⟩ := bnd_ex hf15
      refine jd_tni e19 ?_
      refine lv_istore_n hx hb d_G_numberOfTrailingZeros_73 rfl hl17 (by decide) (lv' := [(0, .int x18), (1, .int x13)]) rfl (fun ls21 hl22 => ?_)
      refine lv_iload_n hx hb d_G_numberOfTrailingZeros_74 rfl (lv_at hl22 1 rfl) ?_
      refine lv_iload_n hx hb d_G_numberOfTrailingZeros_75 rfl (lv_at hl22 0 rfl) ?_
      refine lv_iconst (v := 1) hx hb d_G_numberOfTrailingZeros_76 (by decide) ?_
      refine lv_iushr hx hb d_G_numberOfTrailingZeros_77 rfl ?_
      refine lv_iadd hx hb d_G_numberOfTrailingZeros_78 ?_
      cases hf20
      exact hend H3 L4 79 ls21 hP6 hS7 d_G_numberOfTrailingZeros_79
  have kj49 : ∀ (x23 : Int32) (x24 : Int32), fm_G_numberOfTrailingZeros_j49 x23 x24 = some r → ∀ (H25 : Heap) (L26 : List Loc) (ls27 : Array Slot), va_P D cls_all (kw w I0 J0) H25 → va_S A s.heap H25 L26 → lv_has ls27 2 [(0, .int x23), (1, .int x24)] → W p l e R s m args below meth c H25 L26 0 0 Q (F0 m 49 ls27 []) := by
    intro x23 x24 hf31 H25 L26 ls27 hP28 hS29 hl30
    unfold fm_G_numberOfTrailingZeros_j49 at hf31
    refine lv_iload_n hx hb d_G_numberOfTrailingZeros_49 rfl (lv_at hl30 0 rfl) ?_
    refine lv_bipush (v := 16) hx hb d_G_numberOfTrailingZeros_50 (by decide) ?_
    refine lv_icmp_le (tgt := 62) hx hb d_G_numberOfTrailingZeros_52 rfl (fun h32 => ?_) (fun h32 => ?_)
    · have hf33 := ifp hf31 h32
      exact kj62 x23 x24 hf33 H25 L26 ls27 hP28 hS29 (lv_sub hl30 [0, 1] rfl)
    · have hf34 := ifn hf31 h32
      obtain ⟨x35, e36, hf37⟩ := bnd_ex hf34
      refine lv_iinc hx hb d_G_numberOfTrailingZeros_55 hl30 (k := 1) rfl (v := x35) (by rw [e36]; rfl) (by decide) (lv' := [(1, .int x35), (0, .int x23)]) rfl (fun ls38 hl39 => ?_)
      refine lv_iload_n hx hb d_G_numberOfTrailingZeros_58 rfl (lv_at hl39 1 rfl) ?_
      refine lv_iconst (v := 4) hx hb d_G_numberOfTrailingZeros_59 (by decide) ?_
      refine lv_iushr hx hb d_G_numberOfTrailingZeros_60 rfl ?_
      obtain ⟨x40, e41, hf42⟩ := bnd_ex hf37
      refine jd_tni e41 ?_
      refine lv_istore_n hx hb d_G_numberOfTrailingZeros_61 rfl hl39 (by decide) (lv' := [(0, .int x40), (1, .int x35)]) rfl (fun ls43 hl44 => ?_)
      exact kj62 x40 x35 hf42 H25 L26 ls43 hP28 hS29 (lv_sub hl44 [0, 1] rfl)
  have kj34 : ∀ (x45 : Int32) (x46 : Int32), fm_G_numberOfTrailingZeros_j34 x45 x46 = some r → ∀ (H47 : Heap) (L48 : List Loc) (ls49 : Array Slot), va_P D cls_all (kw w I0 J0) H47 → va_S A s.heap H47 L48 → lv_has ls49 2 [(0, .int x45), (1, .int x46)] → W p l e R s m args below meth c H47 L48 0 0 Q (F0 m 34 ls49 []) := by
    intro x45 x46 hf53 H47 L48 ls49 hP50 hS51 hl52
    unfold fm_G_numberOfTrailingZeros_j34 at hf53
    refine lv_iload_n hx hb d_G_numberOfTrailingZeros_34 rfl (lv_at hl52 0 rfl) ?_
    refine lv_sipush (v := 256) hx hb d_G_numberOfTrailingZeros_35 (by decide) ?_
    refine lv_icmp_le (tgt := 49) hx hb d_G_numberOfTrailingZeros_38 rfl (fun h54 => ?_) (fun h54 => ?_)
    · have hf55 := ifp hf53 h54
      exact kj49 x45 x46 hf55 H47 L48 ls49 hP50 hS51 (lv_sub hl52 [0, 1] rfl)
    · have hf56 := ifn hf53 h54
      obtain ⟨x57, e58, hf59⟩ := bnd_ex hf56
      refine lv_iinc hx hb d_G_numberOfTrailingZeros_41 hl52 (k := 1) rfl (v := x57) (by rw [e58]; rfl) (by decide) (lv' := [(1, .int x57), (0, .int x45)]) rfl (fun ls60 hl61 => ?_)
      refine lv_iload_n hx hb d_G_numberOfTrailingZeros_44 rfl (lv_at hl61 1 rfl) ?_
      refine lv_bipush (v := 8) hx hb d_G_numberOfTrailingZeros_45 (by decide) ?_
      refine lv_iushr hx hb d_G_numberOfTrailingZeros_47 rfl ?_
      obtain ⟨x62, e63, hf64⟩ := bnd_ex hf59
      refine jd_tni e63 ?_
      refine lv_istore_n hx hb d_G_numberOfTrailingZeros_48 rfl hl61 (by decide) (lv' := [(0, .int x62), (1, .int x57)]) rfl (fun ls65 hl66 => ?_)
      exact kj49 x62 x57 hf64 H47 L48 ls65 hP50 hS51 (lv_sub hl66 [0, 1] rfl)
  refine lv_iload_n hx hb d_G_numberOfTrailingZeros_0 rfl (lv_at hl 0 rfl) ?_
  refine lv_iconst (v := -1) hx hb d_G_numberOfTrailingZeros_1 (by decide) ?_
  refine lv_ixor hx hb d_G_numberOfTrailingZeros_2 ?_
  refine lv_iload_n hx hb d_G_numberOfTrailingZeros_3 rfl (lv_at hl 0 rfl) ?_
  refine lv_iconst (v := 1) hx hb d_G_numberOfTrailingZeros_4 (by decide) ?_
  refine lv_isub hx hb d_G_numberOfTrailingZeros_5 ?_
  refine lv_iand hx hb d_G_numberOfTrailingZeros_6 ?_
  obtain ⟨x67, e68, hf69⟩ := bnd_ex hf
  refine jd_tni e68 ?_
  refine lv_istore_n hx hb d_G_numberOfTrailingZeros_7 rfl hl (by decide) (lv' := [(0, .int x67)]) rfl (fun ls70 hl71 => ?_)
  refine lv_iload_n hx hb d_G_numberOfTrailingZeros_8 rfl (lv_at hl71 0 rfl) ?_
  refine lv_if_gt (tgt := 17) hx hb d_G_numberOfTrailingZeros_9 rfl (fun h72 => ?_) (fun h72 => ?_)
  · have hf73 := ifp hf69 h72
    refine lv_iconst (v := 1) hx hb d_G_numberOfTrailingZeros_17 (by decide) ?_
    refine lv_istore_n hx hb d_G_numberOfTrailingZeros_18 rfl hl71 (by decide) (lv' := [(1, .int (1 : Int32)), (0, .int x67)]) rfl (fun ls75 hl76 => ?_)
    refine lv_iload_n hx hb d_G_numberOfTrailingZeros_19 rfl (lv_at hl76 1 rfl) ?_
    refine lv_ldcw (v := 65536) hx hb hown (hts _ (List.mem_cons_of_mem _ tb_238)) d_G_numberOfTrailingZeros_20 ?_
    refine lv_icmp_le (tgt := 34) hx hb d_G_numberOfTrailingZeros_23 rfl (fun h77 => ?_) (fun h77 => ?_)
    · have hf78 := ifp hf73 h77
      exact kj34 x67 (1 : Int32) hf78 s.heap [] ls75 hP hS (lv_sub hl76 [1, 0] rfl)
    · have hf79 := ifn hf73 h77
      obtain ⟨x80, e81, hf82⟩ := bnd_ex hf79
      refine lv_iinc hx hb d_G_numberOfTrailingZeros_26 hl76 (k := 0) rfl (v := x80) (by rw [e81]; rfl) (by decide) (lv' := [(1, .int x80), (0, .int x67)]) rfl (fun ls83 hl84 => ?_)
      refine lv_iload_n hx hb d_G_numberOfTrailingZeros_29 rfl (lv_at hl84 1 rfl) ?_
      refine lv_bipush (v := 16) hx hb d_G_numberOfTrailingZeros_30 (by decide) ?_
      refine lv_iushr hx hb d_G_numberOfTrailingZeros_32 rfl ?_
      obtain ⟨x85, e86, hf87⟩ := bnd_ex hf82
      refine jd_tni e86 ?_
      refine lv_istore_n hx hb d_G_numberOfTrailingZeros_33 rfl hl84 (by decide) (lv' := [(0, .int x85), (1, .int x80)]) rfl (fun ls88 hl89 => ?_)
      exact kj34 x85 x80 hf87 s.heap [] ls88 hP hS (lv_sub hl89 [0, 1] rfl)
  · have hf74 := ifn hf69 h72
    refine lv_iload_n hx hb d_G_numberOfTrailingZeros_12 rfl (lv_at hl71 0 rfl) ?_
    refine lv_bipush (v := 32) hx hb d_G_numberOfTrailingZeros_13 (by decide) ?_
    refine lv_iand hx hb d_G_numberOfTrailingZeros_15 ?_
    cases hf74
    exact hend s.heap [] 16 ls70 hP hS d_G_numberOfTrailingZeros_16
theorem d_K_commonDivisor_0 : decode b_K_commonDivisor 0 = .ok (.lload_n 0, 1) := by decide +kernel
theorem d_K_commonDivisor_1 : decode b_K_commonDivisor 1 = .ok (.lstore 4, 2) := by decide +kernel
theorem d_K_commonDivisor_3 : decode b_K_commonDivisor 3 = .ok (.lload_n 2, 1) := by decide +kernel
theorem d_K_commonDivisor_4 : decode b_K_commonDivisor 4 = .ok (.lstore 6, 2) := by decide +kernel
theorem d_K_commonDivisor_6 : decode b_K_commonDivisor 6 = .ok (.iconst 0, 1) := by decide +kernel
theorem d_K_commonDivisor_7 : decode b_K_commonDivisor 7 = .ok (.istore 8, 2) := by decide +kernel
theorem d_K_commonDivisor_9 : decode b_K_commonDivisor 9 = .ok (.iload 8, 2) := by decide +kernel
theorem d_K_commonDivisor_11 : decode b_K_commonDivisor 11 = .ok (.sipush 200, 3) := by decide +kernel
theorem d_K_commonDivisor_14 : decode b_K_commonDivisor 14 = .ok (.if_icmp .ge 31, 3) := by decide +kernel
theorem d_K_commonDivisor_17 : decode b_K_commonDivisor 17 = .ok (.lload 6, 2) := by decide +kernel
theorem d_K_commonDivisor_19 : decode b_K_commonDivisor 19 = .ok (.lconst 0, 1) := by decide +kernel
theorem d_K_commonDivisor_20 : decode b_K_commonDivisor 20 = .ok (.lcmp, 1) := by decide +kernel
theorem d_K_commonDivisor_21 : decode b_K_commonDivisor 21 = .ok (.ifCond .eq 24, 3) := by decide +kernel
theorem d_K_commonDivisor_24 : decode b_K_commonDivisor 24 = .ok (.lload 4, 2) := by decide +kernel
theorem d_K_commonDivisor_26 : decode b_K_commonDivisor 26 = .ok (.lload 6, 2) := by decide +kernel
theorem d_K_commonDivisor_28 : decode b_K_commonDivisor 28 = .ok (.lrem, 1) := by decide +kernel
theorem d_K_commonDivisor_29 : decode b_K_commonDivisor 29 = .ok (.lstore 9, 2) := by decide +kernel
theorem d_K_commonDivisor_31 : decode b_K_commonDivisor 31 = .ok (.lload 6, 2) := by decide +kernel
theorem d_K_commonDivisor_33 : decode b_K_commonDivisor 33 = .ok (.lstore 4, 2) := by decide +kernel
theorem d_K_commonDivisor_35 : decode b_K_commonDivisor 35 = .ok (.lload 9, 2) := by decide +kernel
theorem d_K_commonDivisor_37 : decode b_K_commonDivisor 37 = .ok (.lstore 6, 2) := by decide +kernel
theorem d_K_commonDivisor_39 : decode b_K_commonDivisor 39 = .ok (.iinc 8 1, 3) := by decide +kernel
theorem d_K_commonDivisor_42 : decode b_K_commonDivisor 42 = .ok (.goto (-33), 3) := by decide +kernel
theorem d_K_commonDivisor_45 : decode b_K_commonDivisor 45 = .ok (.lload 4, 2) := by decide +kernel
theorem d_K_commonDivisor_47 : decode b_K_commonDivisor 47 = .ok (.lconst 1, 1) := by decide +kernel
theorem d_K_commonDivisor_48 : decode b_K_commonDivisor 48 = .ok (.lcmp, 1) := by decide +kernel
theorem d_K_commonDivisor_49 : decode b_K_commonDivisor 49 = .ok (.ifCond .ge 7, 3) := by decide +kernel
theorem d_K_commonDivisor_52 : decode b_K_commonDivisor 52 = .ok (.lconst 1, 1) := by decide +kernel
theorem d_K_commonDivisor_53 : decode b_K_commonDivisor 53 = .ok (.goto 5, 3) := by decide +kernel
theorem d_K_commonDivisor_56 : decode b_K_commonDivisor 56 = .ok (.lload 4, 2) := by decide +kernel
theorem d_K_commonDivisor_58 : decode b_K_commonDivisor 58 = .ok (.lreturn, 1) := by decide +kernel
def fm_K_commonDivisor_B9  (y11 : Int64) (y12 : Int64) (x13 : Int32) : Option (Nat × Int64 × Int64 × Int32) :=
  if (200 : Int32) ≤ x13 then some (1, y11, y12, x13) else if (lg_cmp y12 (0 : Int64)) = 0 then some (1, y11, y12, x13) else grd (decide (¬ y12 = 0)) (bnd (y11 - y11 / y12 * y12) (fun y32 => bnd (x13 + (1 : Int32)) (fun x41 => some (0, y12, y32, x41))))
def fm_K_commonDivisor (p0 : Int64) (p1 : Int64) : Option (Int64) :=
  ob4 (iter (fun z : Int64 × Int64 × Int32 => fm_K_commonDivisor_B9 z.1 z.2.1 z.2.2) FU (p0, p1, (0 : Int32))) (fun _ y47 y48 x49 => if 0 ≤ (lg_cmp y47 (1 : Int64)) then some y47 else some (1 : Int64))
set_option maxHeartbeats 4000000 in
set_option maxRecDepth 100000 in
theorem cm_K_commonDivisor (l : Launch) (D : va_G) (ca : Nat → ClassId) (w : va_W) {p0 : Int64} {p1 : Int64} {I0 : IS} {J0 : JS} {r : Int64} (hf : fm_K_commonDivisor p0 p1 = some r) : CtL l y_K_commonDivisor (Cond.code y_K_commonDivisor b_K_commonDivisor 11 (some .long) :: TB) { frames := 0, cells := 0, slots := 0, locals := 0 } [.long p0, .long p1] D cls_all (tysC ca) NN (kw w I0 J0) (kw w I0 J0) r := by
  refine jd_metL (cc := b_K_commonDivisor) (by decide) rfl (Nat.le_of_ble_eq_true rfl) (lv := [(0, .long p0), (2, .long p1)]) rfl ?_
  intro p e R s m args below meth c A Q ls cx hR hK hN hD0 hA hP hS hl hend
  have hx := cx.1
  have hb := cx.2.1
  have hml := cx.2.2.1
  have hown := cx.2.2.2.1
  have hts := cx.2.2.2.2
  have hD : ∀ I J, va_D A (kw w I J) := fun I J => jd_Dc hD0 rfl
  unfold fm_K_commonDivisor at hf
  refine lv_lload_n hx hb d_K_commonDivisor_0 rfl (lv_at hl 0 rfl) ?_
  refine lv_lstore hx hb d_K_commonDivisor_1 hl (by decide) (lv' := [(4, .long p0), (0, .long p0), (2, .long p1)]) rfl (fun ls1 hl2 => ?_)
  refine lv_lload_n hx hb d_K_commonDivisor_3 rfl (lv_at hl2 2 rfl) ?_
  refine lv_lstore hx hb d_K_commonDivisor_4 hl2 (by decide) (lv' := [(6, .long p1), (4, .long p0), (0, .long p0), (2, .long p1)]) rfl (fun ls3 hl4 => ?_)
  refine lv_iconst (v := 0) hx hb d_K_commonDivisor_6 (by decide) ?_
  refine lv_istore hx hb d_K_commonDivisor_7 hl4 (by decide) (lv' := [(8, .int (0 : Int32)), (6, .long p1), (4, .long p0), (0, .long p0), (2, .long p1)]) rfl (fun ls5 hl6 => ?_)
  obtain ⟨tg46, y47, y48, x49, ho50, hf51⟩ := ob4_ex hf
  have kx9_1 : ∀ (H52 : Heap) (L53 : List Loc) (ls54 : Array Slot), va_P D cls_all (kw w I0 J0) H52 → va_S A s.heap H52 L53 → lv_has ls54 11 [(4, .long y47)] → W p l e R s m args below meth c H52 L53 0 0 Q (F0 m 45 ls54 []) := by
    intro H52 L53 ls54 hP55 hS56 hl57
    refine lv_lload hx hb d_K_commonDivisor_45 (lv_at hl57 0 rfl) ?_
    refine lv_lconst (v := 1) hx hb d_K_commonDivisor_47 (by decide) ?_
    refine W.lcmp hx hb d_K_commonDivisor_48 ?_
    refine lv_if_ge (tgt := 56) hx hb d_K_commonDivisor_49 rfl (fun h58 => ?_) (fun h58 => ?_)
    · have hf59 := ifp hf51 h58
      refine lv_lload hx hb d_K_commonDivisor_56 (lv_at hl57 0 rfl) ?_
      cases hf59
      exact hend H52 L53 58 ls54 hP55 hS56 d_K_commonDivisor_58
    · have hf60 := ifn hf51 h58
      refine lv_lconst (v := 1) hx hb d_K_commonDivisor_52 (by decide) ?_
      refine lv_goto (tgt := 58) hx hb d_K_commonDivisor_53 rfl ?_
      cases hf60
      exact hend H52 L53 58 ls54 hP55 hS56 d_K_commonDivisor_58
  refine iter_ind (C := fun z : Int64 × Int64 × Int32 => ∀ (H14 : Heap) (L15 : List Loc) (ls16 : Array Slot), va_P D cls_all (kw w I0 J0) H14 → va_S A s.heap H14 L15 → lv_has ls16 11 [(4, .long z.1), (6, .long z.2.1), (8, .int z.2.2)] → W p l e R s m args below meth c H14 L15 0 0 Q (F0 m 9 ls16 [])) (fun z10 o9 hz21 hc7 he8 => ?_) _ _ ho50 s.heap [] ls5 hP hS (lv_sub hl6 [2, 1, 0] rfl)
  obtain ⟨y11, y12, x13⟩ := z10
  intro H14 L15 ls16 hP17 hS18 hl19
  have hf20 : fm_K_commonDivisor_B9 y11 y12 x13 = some o9 := hz21
  unfold fm_K_commonDivisor_B9 at hf20
  refine lv_iload hx hb d_K_commonDivisor_9 (lv_at hl19 2 rfl) ?_
  refine lv_sipush (v := 200) hx hb d_K_commonDivisor_11 (by decide) ?_
  refine lv_icmp_ge (tgt := 45) hx hb d_K_commonDivisor_14 rfl (fun h22 => ?_) (fun h22 => ?_)
  · have hf23 := ifp hf20 h22
    cases hf23
    have e25 := he8 (by show (1 : Nat) ≠ 0; decide)
    cases e25
    exact kx9_1 H14 L15 ls16 hP17 hS18 (lv_sub hl19 [0] rfl)
  · have hf24 := ifn hf20 h22
    refine lv_lload hx hb d_K_commonDivisor_17 (lv_at hl19 1 rfl) ?_
    refine lv_lconst (v := 0) hx hb d_K_commonDivisor_19 (by decide) ?_
    refine W.lcmp hx hb d_K_commonDivisor_20 ?_
    refine lv_if_eq (tgt := 45) hx hb d_K_commonDivisor_21 rfl (fun h26 => ?_) (fun h26 => ?_)
    · have hf27 := ifp hf24 h26
      cases hf27
      have e29 := he8 (by show (1 : Nat) ≠ 0; decide)
      cases e29
      exact kx9_1 H14 L15 ls16 hP17 hS18 (lv_sub hl19 [0] rfl)
    · have hf28 := ifn hf24 h26
      refine lv_lload hx hb d_K_commonDivisor_24 (lv_at hl19 0 rfl) ?_
      refine lv_lload hx hb d_K_commonDivisor_26 (lv_at hl19 1 rfl) ?_
      obtain ⟨hg30, hf31⟩ := grd_ex hf28
      refine lv_lrem hx hb d_K_commonDivisor_28 (of_decide_eq_true hg30) ?_
      obtain ⟨y32, e33, hf34⟩ := bnd_ex hf31
      refine jd_tnl e33 ?_
      refine lv_lstore hx hb d_K_commonDivisor_29 hl19 (by decide) (lv' := [(9, .long y32), (4, .long y11), (6, .long y12), (8, .int x13)]) rfl (fun ls35 hl36 => ?_)
      refine lv_lload hx hb d_K_commonDivisor_31 (lv_at hl36 2 rfl) ?_
      refine lv_lstore hx hb d_K_commonDivisor_33 hl36 (by decide) (lv' := [(4, .long y12), (9, .long y32), (6, .long y12), (8, .int x13)]) rfl (fun ls37 hl38 => ?_)
      refine lv_lload hx hb d_K_commonDivisor_35 (lv_at hl38 1 rfl) ?_
      refine lv_lstore hx hb d_K_commonDivisor_37 hl38 (by decide) (lv' := [(6, .long y32), (4, .long y12), (9, .long y32), (8, .int x13)]) rfl (fun ls39 hl40 => ?_)
      obtain ⟨x41, e42, hf43⟩ := bnd_ex hf34
      refine lv_iinc hx hb d_K_commonDivisor_39 hl40 (k := 3) rfl (v := x41) (by rw [e42]; rfl) (by decide) (lv' := [(8, .int x41), (6, .long y32), (4, .long y12), (9, .long y32)]) rfl (fun ls44 hl45 => ?_)
      refine lv_goto (tgt := 9) hx hb d_K_commonDivisor_42 rfl ?_
      cases hf43
      exact hc7 rfl H14 L15 ls44 hP17 hS18 (lv_sub hl45 [2, 1, 0] rfl)
theorem d_K_inLowestTerms_0 : decode b_K_inLowestTerms 0 = .ok (.lload_n 0, 1) := by decide +kernel
theorem d_K_inLowestTerms_1 : decode b_K_inLowestTerms 1 = .ok (.lload_n 2, 1) := by decide +kernel
theorem d_K_inLowestTerms_2 : decode b_K_inLowestTerms 2 = .ok (.invokestatic 205, 3) := by decide +kernel
theorem d_K_inLowestTerms_5 : decode b_K_inLowestTerms 5 = .ok (.lstore 5, 2) := by decide +kernel
theorem d_K_inLowestTerms_7 : decode b_K_inLowestTerms 7 = .ok (.iload 4, 2) := by decide +kernel
theorem d_K_inLowestTerms_9 : decode b_K_inLowestTerms 9 = .ok (.ifCond .eq 10, 3) := by decide +kernel
theorem d_K_inLowestTerms_12 : decode b_K_inLowestTerms 12 = .ok (.lload_n 0, 1) := by decide +kernel
theorem d_K_inLowestTerms_13 : decode b_K_inLowestTerms 13 = .ok (.lload 5, 2) := by decide +kernel
theorem d_K_inLowestTerms_15 : decode b_K_inLowestTerms 15 = .ok (.ldiv, 1) := by decide +kernel
theorem d_K_inLowestTerms_16 : decode b_K_inLowestTerms 16 = .ok (.goto 7, 3) := by decide +kernel
theorem d_K_inLowestTerms_19 : decode b_K_inLowestTerms 19 = .ok (.lload_n 2, 1) := by decide +kernel
theorem d_K_inLowestTerms_20 : decode b_K_inLowestTerms 20 = .ok (.lload 5, 2) := by decide +kernel
theorem d_K_inLowestTerms_22 : decode b_K_inLowestTerms 22 = .ok (.ldiv, 1) := by decide +kernel
theorem d_K_inLowestTerms_23 : decode b_K_inLowestTerms 23 = .ok (.lreturn, 1) := by decide +kernel
def fm_K_inLowestTerms (p0 : Int64) (p1 : Int64) (p2 : Int32) : Option (Int64) :=
  ob1 (fm_K_commonDivisor p0 p1) (fun y1 => if p2 = 0 then grd (decide (¬ y1 = 0)) (some (p1 / y1)) else grd (decide (¬ y1 = 0)) (some (p0 / y1)))
set_option maxHeartbeats 4000000 in
set_option maxRecDepth 100000 in
theorem cm_K_inLowestTerms (l : Launch) (D : va_G) (ca : Nat → ClassId) (w : va_W) {p0 : Int64} {p1 : Int64} {p2 : Int32} {I0 : IS} {J0 : JS} {r : Int64} (hf : fm_K_inLowestTerms p0 p1 p2 = some r) : CtL l y_K_inLowestTerms (Cond.code y_K_inLowestTerms b_K_inLowestTerms 7 (some .long) :: TB) { frames := 1, cells := 0, slots := 0, locals := 30 } [.long p0, .long p1, .int p2] D cls_all (tysC ca) NN (kw w I0 J0) (kw w I0 J0) r := by
  refine jd_metL (cc := b_K_inLowestTerms) (by decide) rfl (Nat.le_of_ble_eq_true rfl) (lv := [(0, .long p0), (2, .long p1), (4, .int p2)]) rfl ?_
  intro p e R s m args below meth c A Q ls cx hR hK hN hD0 hA hP hS hl hend
  have hx := cx.1
  have hb := cx.2.1
  have hml := cx.2.2.1
  have hown := cx.2.2.2.1
  have hts := cx.2.2.2.2
  have hD : ∀ I J, va_D A (kw w I J) := fun I J => jd_Dc hD0 rfl
  unfold fm_K_inLowestTerms at hf
  refine lv_lload_n hx hb d_K_inLowestTerms_0 rfl (lv_at hl 0 rfl) ?_
  refine lv_lload_n hx hb d_K_inLowestTerms_1 rfl (lv_at hl 1 rfl) ?_
  obtain ⟨y1, hc2, hf3⟩ := ob1_ex hf
  refine jd_cl (va_runS (As := [.long p0, .long p1]) (rest := []) cx (cm_K_commonDivisor l D ca (kw w I0 J0) (I0 := I0) (J0 := J0) hc2 s.heap.size) (va_cwS 2 hts (jd_gS2 tb_311 tb_312 tb_43 tb_313) rfl rfl rfl ⟨by decide, by decide, rfl⟩ (by rw [hR]; decide)) ⟨jd_blind nWc, (jd_pre (av := [.long p0, .long p1]) hP hK (hD I0 J0) (fun U h => nWm h hN))⟩ rfl rfl hl.1 rfl (lv_room (Nat.le_of_ble_eq_true rfl)) d_K_inLowestTerms_2 ⟨Nat.zero_le _, Nat.zero_le _⟩) hS (hD I0 J0) hA (fun H4 L5 hP6 hS7 => ?_)
  refine lv_lstore hx hb d_K_inLowestTerms_5 hl (by decide) (lv' := [(5, .long y1), (0, .long p0), (2, .long p1), (4, .int p2)]) rfl (fun ls8 hl9 => ?_)
  refine lv_iload hx hb d_K_inLowestTerms_7 (lv_at hl9 3 rfl) ?_
  refine lv_if_eq (tgt := 19) hx hb d_K_inLowestTerms_9 rfl (fun h10 => ?_) (fun h10 => ?_)
  · have hf11 := ifp hf3 h10
    refine lv_lload_n hx hb d_K_inLowestTerms_19 rfl (lv_at hl9 2 rfl) ?_
    refine lv_lload hx hb d_K_inLowestTerms_20 (lv_at hl9 0 rfl) ?_
    obtain ⟨hg13, hf14⟩ := grd_ex hf11
    refine lv_ldiv hx hb d_K_inLowestTerms_22 (of_decide_eq_true hg13) ?_
    cases hf14
    exact hend H4 L5 23 ls8 hP6 hS7 d_K_inLowestTerms_23
  · have hf12 := ifn hf3 h10
    refine lv_lload_n hx hb d_K_inLowestTerms_12 rfl (lv_at hl9 1 rfl) ?_
    refine lv_lload hx hb d_K_inLowestTerms_13 (lv_at hl9 0 rfl) ?_
    obtain ⟨hg15, hf16⟩ := grd_ex hf12
    refine lv_ldiv hx hb d_K_inLowestTerms_15 (of_decide_eq_true hg15) ?_
    refine lv_goto (tgt := 23) hx hb d_K_inLowestTerms_16 rfl ?_
    cases hf16
    exact hend H4 L5 23 ls8 hP6 hS7 d_K_inLowestTerms_23
