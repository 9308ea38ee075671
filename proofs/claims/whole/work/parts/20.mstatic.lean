theorem d_M_bits_0 : decode b_M_bits 0 = .ok (.iconst 0, 1) := by decide +kernel
theorem d_M_bits_1 : decode b_M_bits 1 = .ok (.istore_n 1, 1) := by decide +kernel
theorem d_M_bits_2 : decode b_M_bits 2 = .ok (.iconst 0, 1) := by decide +kernel
theorem d_M_bits_3 : decode b_M_bits 3 = .ok (.istore_n 2, 1) := by decide +kernel
theorem d_M_bits_4 : decode b_M_bits 4 = .ok (.iload_n 2, 1) := by decide +kernel
theorem d_M_bits_5 : decode b_M_bits 5 = .ok (.bipush 16, 2) := by decide +kernel
theorem d_M_bits_7 : decode b_M_bits 7 = .ok (.if_icmp .ge 17, 3) := by decide +kernel
theorem d_M_bits_10 : decode b_M_bits 10 = .ok (.iload_n 1, 1) := by decide +kernel
theorem d_M_bits_11 : decode b_M_bits 11 = .ok (.iload_n 0, 1) := by decide +kernel
theorem d_M_bits_12 : decode b_M_bits 12 = .ok (.iload_n 2, 1) := by decide +kernel
theorem d_M_bits_13 : decode b_M_bits 13 = .ok (.ishr, 1) := by decide +kernel
theorem d_M_bits_14 : decode b_M_bits 14 = .ok (.iconst 1, 1) := by decide +kernel
theorem d_M_bits_15 : decode b_M_bits 15 = .ok (.iand, 1) := by decide +kernel
theorem d_M_bits_16 : decode b_M_bits 16 = .ok (.iadd, 1) := by decide +kernel
theorem d_M_bits_17 : decode b_M_bits 17 = .ok (.istore_n 1, 1) := by decide +kernel
theorem d_M_bits_18 : decode b_M_bits 18 = .ok (.iinc 2 1, 3) := by decide +kernel
theorem d_M_bits_21 : decode b_M_bits 21 = .ok (.goto (-17), 3) := by decide +kernel
theorem d_M_bits_24 : decode b_M_bits 24 = .ok (.iload_n 1, 1) := by decide +kernel
theorem d_M_bits_25 : decode b_M_bits 25 = .ok (.ireturn, 1) := by decide +kernel
def fm_M_bits_B4 (p0 : Int32) (x9 : Int32) (x10 : Int32) : Option (Nat × Int32 × Int32) :=
  if (16 : Int32) ≤ x10 then some (1, x9, x10) else bnd (x9 + ((p0 >>> (x10 &&& 31)) &&& (1 : Int32))) (fun x23 => bnd (x10 + (1 : Int32)) (fun x28 => some (0, x23, x28)))
def fm_M_bits (p0 : Int32) : Option (Int32) :=
  ob3 (iter (fun z : Int32 × Int32 => fm_M_bits_B4 p0 z.1 z.2) FU ((0 : Int32), (0 : Int32))) (fun _ x34 x35 => some x34)
set_option maxHeartbeats 4000000 in
set_option maxRecDepth 100000 in
theorem cm_M_bits (l : Launch) (D : va_G) (ca : Nat → ClassId) (w : va_W) {p0 : Int32} {I0 : IS} {J0 : JS} {r : Int32} (hf : fm_M_bits p0 = some r) : CtI l y_M_bits (Cond.code y_M_bits b_M_bits 3 (some .int) :: TB) { frames := 0, cells := 0, slots := 0, locals := 0 } [.int p0] D cls_all (tysC ca) NN (kw w I0 J0) (kw w I0 J0) r := by
  refine jd_metI (cc := b_M_bits) (by decide) rfl (Nat.le_of_ble_eq_true rfl) (lv := [(0, .int p0)]) rfl ?_
  intro p e R s m args below meth c A Q ls cx hR hK hN hD0 hA hP hS hl hend
  have hx := cx.1
  have hb := cx.2.1
  have hml := cx.2.2.1
  have hown := cx.2.2.2.1
  have hts := cx.2.2.2.2
  have hD : ∀ I J, va_D A (kw w I J) := fun I J => jd_Dc hD0 rfl
  unfold fm_M_bits at hf
  refine lv_iconst (v := 0) hx hb d_M_bits_0 (by decide) ?_
  refine lv_istore_n hx hb d_M_bits_1 rfl hl (by decide) (lv' := [(1, .int (0 : Int32)), (0, .int p0)]) rfl (fun ls1 hl2 => ?_)
  refine lv_iconst (v := 0) hx hb d_M_bits_2 (by decide) ?_
  refine lv_istore_n hx hb d_M_bits_3 rfl hl2 (by decide) (lv' := [(2, .int (0 : Int32)), (1, .int (0 : Int32)), (0, .int p0)]) rfl (fun ls3 hl4 => ?_)
  obtain ⟨tg33, x34, x35, ho36, hf37⟩ := ob3_ex hf
  have kx4_1 : ∀ (H38 : Heap) (L39 : List Loc) (ls40 : Array Slot), va_P D cls_all (kw w I0 J0) H38 → va_S A s.heap H38 L39 → lv_has ls40 3 [(1, .int x34)] → W p l e R s m args below meth c H38 L39 0 0 Q (F0 m 24 ls40 []) := by
    intro H38 L39 ls40 hP41 hS42 hl43
    refine lv_iload_n hx hb d_M_bits_24 rfl (lv_at hl43 0 rfl) ?_
    cases hf37
    exact hend H38 L39 25 ls40 hP41 hS42 d_M_bits_25
  refine iter_ind (C := fun z : Int32 × Int32 => ∀ (H11 : Heap) (L12 : List Loc) (ls13 : Array Slot), va_P D cls_all (kw w I0 J0) H11 → va_S A s.heap H11 L12 → lv_has ls13 3 [(0, .int p0), (1, .int z.1), (2, .int z.2)] → W p l e R s m args below meth c H11 L12 0 0 Q (F0 m 4 ls13 [])) (fun z8 o7 hz18 hc5 he6 => ?_) _ _ ho36 s.heap [] ls3 hP hS (lv_sub hl4 [2, 1, 0] rfl)
  obtain ⟨x9, x10⟩ := z8
  intro H11 L12 ls13 hP14 hS15 hl16
  have hf17 : fm_M_bits_B4 p0 x9 x10 = some o7 := hz18
  unfold fm_M_bits_B4 at hf17
  refine lv_iload_n hx hb d_M_bits_4 rfl (lv_at hl16 2 rfl) ?_
  refine lv_bipush (v := 16) hx hb d_M_bits_5 (by decide) ?_
  refine lv_icmp_ge (tgt := 24) hx hb d_M_bits_7 rfl (fun h19 => ?_) (fun h19 => ?_)
  · have hf20 := ifp hf17 h19
    cases hf20
    have e22 := he6 (by show (1 : Nat) ≠ 0; decide)
    cases e22
    exact kx4_1 H11 L12 ls13 hP14 hS15 (lv_sub hl16 [1] rfl)
  · have hf21 := ifn hf17 h19
    refine lv_iload_n hx hb d_M_bits_10 rfl (lv_at hl16 1 rfl) ?_
    refine lv_iload_n hx hb d_M_bits_11 rfl (lv_at hl16 0 rfl) ?_
    refine lv_iload_n hx hb d_M_bits_12 rfl (lv_at hl16 2 rfl) ?_
    refine lv_ishr hx hb d_M_bits_13 ?_
    refine lv_iconst (v := 1) hx hb d_M_bits_14 (by decide) ?_
    refine lv_iand hx hb d_M_bits_15 ?_
    refine lv_iadd hx hb d_M_bits_16 ?_
    obtain ⟨x23, e24, hf25⟩ := bnd_ex hf21
    refine jd_tni e24 ?_
    refine lv_istore_n hx hb d_M_bits_17 rfl hl16 (by decide) (lv' := [(1, .int x23), (0, .int p0), (2, .int x10)]) rfl (fun ls26 hl27 => ?_)
    obtain ⟨x28, e29, hf30⟩ := bnd_ex hf25
    refine lv_iinc hx hb d_M_bits_18 hl27 (k := 2) rfl (v := x28) (by rw [e29]; rfl) (by decide) (lv' := [(2, .int x28), (1, .int x23), (0, .int p0)]) rfl (fun ls31 hl32 => ?_)
    refine lv_goto (tgt := 4) hx hb d_M_bits_21 rfl ?_
    cases hf30
    exact hc5 rfl H11 L12 ls31 hP14 hS15 (lv_sub hl32 [2, 1, 0] rfl)
theorem d_M_earlier_0 : decode b_M_earlier 0 = .ok (.iload_n 0, 1) := by decide +kernel
theorem d_M_earlier_1 : decode b_M_earlier 1 = .ok (.iload_n 1, 1) := by decide +kernel
theorem d_M_earlier_2 : decode b_M_earlier 2 = .ok (.ixor, 1) := by decide +kernel
theorem d_M_earlier_3 : decode b_M_earlier 3 = .ok (.istore_n 2, 1) := by decide +kernel
theorem d_M_earlier_4 : decode b_M_earlier 4 = .ok (.iconst 0, 1) := by decide +kernel
theorem d_M_earlier_5 : decode b_M_earlier 5 = .ok (.istore_n 3, 1) := by decide +kernel
theorem d_M_earlier_6 : decode b_M_earlier 6 = .ok (.iload_n 3, 1) := by decide +kernel
theorem d_M_earlier_7 : decode b_M_earlier 7 = .ok (.bipush 16, 2) := by decide +kernel
theorem d_M_earlier_9 : decode b_M_earlier 9 = .ok (.if_icmp .ge 33, 3) := by decide +kernel
theorem d_M_earlier_12 : decode b_M_earlier 12 = .ok (.iload_n 2, 1) := by decide +kernel
theorem d_M_earlier_13 : decode b_M_earlier 13 = .ok (.iload_n 3, 1) := by decide +kernel
theorem d_M_earlier_14 : decode b_M_earlier 14 = .ok (.ishr, 1) := by decide +kernel
theorem d_M_earlier_15 : decode b_M_earlier 15 = .ok (.iconst 1, 1) := by decide +kernel
theorem d_M_earlier_16 : decode b_M_earlier 16 = .ok (.iand, 1) := by decide +kernel
theorem d_M_earlier_17 : decode b_M_earlier 17 = .ok (.iconst 1, 1) := by decide +kernel
theorem d_M_earlier_18 : decode b_M_earlier 18 = .ok (.if_icmp .ne 18, 3) := by decide +kernel
theorem d_M_earlier_21 : decode b_M_earlier 21 = .ok (.iload_n 0, 1) := by decide +kernel
theorem d_M_earlier_22 : decode b_M_earlier 22 = .ok (.iload_n 3, 1) := by decide +kernel
theorem d_M_earlier_23 : decode b_M_earlier 23 = .ok (.ishr, 1) := by decide +kernel
theorem d_M_earlier_24 : decode b_M_earlier 24 = .ok (.iconst 1, 1) := by decide +kernel
theorem d_M_earlier_25 : decode b_M_earlier 25 = .ok (.iand, 1) := by decide +kernel
theorem d_M_earlier_26 : decode b_M_earlier 26 = .ok (.iconst 1, 1) := by decide +kernel
theorem d_M_earlier_27 : decode b_M_earlier 27 = .ok (.if_icmp .ne 7, 3) := by decide +kernel
theorem d_M_earlier_30 : decode b_M_earlier 30 = .ok (.iconst 1, 1) := by decide +kernel
theorem d_M_earlier_31 : decode b_M_earlier 31 = .ok (.goto 4, 3) := by decide +kernel
theorem d_M_earlier_34 : decode b_M_earlier 34 = .ok (.iconst 0, 1) := by decide +kernel
theorem d_M_earlier_35 : decode b_M_earlier 35 = .ok (.ireturn, 1) := by decide +kernel
theorem d_M_earlier_36 : decode b_M_earlier 36 = .ok (.iinc 3 1, 3) := by decide +kernel
theorem d_M_earlier_39 : decode b_M_earlier 39 = .ok (.goto (-33), 3) := by decide +kernel
theorem d_M_earlier_42 : decode b_M_earlier 42 = .ok (.iconst 0, 1) := by decide +kernel
theorem d_M_earlier_43 : decode b_M_earlier 43 = .ok (.ireturn, 1) := by decide +kernel
def fm_M_earlier_B6 (x1 : Int32) (x12 : Int32) : Option (Nat × Int32) :=
  if (16 : Int32) ≤ x12 then some (1, x12) else if ((x1 >>> (x12 &&& 31)) &&& (1 : Int32)) = (1 : Int32) then some (2, x12) else bnd (x12 + (1 : Int32)) (fun x28 => some (0, x28))
def fm_M_earlier (p0 : Int32) (p1 : Int32) : Option (Int32) :=
  bnd (p0 ^^^ p1) (fun x1 => ob2 (iter (fun z : Int32 => fm_M_earlier_B6 x1 z) FU (0 : Int32)) (fun tg34 x35 => if tg34 = 1 then some (0 : Int32) else if ((p0 >>> (x35 &&& 31)) &&& (1 : Int32)) = (1 : Int32) then some (1 : Int32) else some (0 : Int32)))
set_option maxHeartbeats 4000000 in
set_option maxRecDepth 100000 in
theorem cm_M_earlier (l : Launch) (D : va_G) (ca : Nat → ClassId) (w : va_W) {p0 : Int32} {p1 : Int32} {I0 : IS} {J0 : JS} {r : Int32} (hf : fm_M_earlier p0 p1 = some r) : CtI l y_M_earlier (Cond.code y_M_earlier b_M_earlier 4 (some .boolean) :: TB) { frames := 0, cells := 0, slots := 0, locals := 0 } [.int p0, .int p1] D cls_all (tysC ca) NN (kw w I0 J0) (kw w I0 J0) r := by
  refine jd_metZ (cc := b_M_earlier) (by decide) rfl (Nat.le_of_ble_eq_true rfl) (lv := [(0, .int p0), (1, .int p1)]) rfl ?_
  intro p e R s m args below meth c A Q ls cx hR hK hN hD0 hA hP hS hl hend
  have hx := cx.1
  have hb := cx.2.1
  have hml := cx.2.2.1
  have hown := cx.2.2.2.1
  have hts := cx.2.2.2.2
  have hD : ∀ I J, va_D A (kw w I J) := fun I J => jd_Dc hD0 rfl
  unfold fm_M_earlier at hf
  refine lv_iload_n hx hb d_M_earlier_0 rfl (lv_at hl 0 rfl) ?_
  refine lv_iload_n hx hb d_M_earlier_1 rfl (lv_at hl 1 rfl) ?_
  refine lv_ixor hx hb d_M_earlier_2 ?_
  obtain ⟨x1, e2, hf3⟩ := bnd_ex hf
  refine jd_tni e2 ?_
  refine lv_istore_n hx hb d_M_earlier_3 rfl hl (by decide) (lv' := [(2, .int x1), (0, .int p0), (1, .int p1)]) rfl (fun ls4 hl5 => ?_)
  refine lv_iconst (v := 0) hx hb d_M_earlier_4 (by decide) ?_
  refine lv_istore_n hx hb d_M_earlier_5 rfl hl5 (by decide) (lv' := [(3, .int (0 : Int32)), (2, .int x1), (0, .int p0), (1, .int p1)]) rfl (fun ls6 hl7 => ?_)
  obtain ⟨tg34, x35, ho36, hf37⟩ := ob2_ex hf3
  have kx6_1 : tg34 = 1 → ∀ (H38 : Heap) (L39 : List Loc) (ls40 : Array Slot), va_P D cls_all (kw w I0 J0) H38 → va_S A s.heap H38 L39 → lv_has ls40 4 [] → W p l e R s m args below meth c H38 L39 0 0 Q (F0 m 42 ls40 []) := by
    intro ht45 H38 L39 ls40 hP41 hS42 hl43
    have hf44 := ifp hf37 ht45
    refine lv_iconst (v := 0) hx hb d_M_earlier_42 (by decide) ?_
    cases hf44
    exact hend H38 L39 43 ls40 (show narrow .boolean (.int (0 : Int32)) = .int (0 : Int32) from rfl) hP41 hS42 d_M_earlier_43
  have kx6_2 : tg34 = 2 → ∀ (H46 : Heap) (L47 : List Loc) (ls48 : Array Slot), va_P D cls_all (kw w I0 J0) H46 → va_S A s.heap H46 L47 → lv_has ls48 4 [(0, .int p0), (3, .int x35)] → W p l e R s m args below meth c H46 L47 0 0 Q (F0 m 21 ls48 []) := by
    intro ht53 H46 L47 ls48 hP49 hS50 hl51
    have hf54 := ifn hf37 (by rw [ht53]; decide)
    have hf52 := hf54
    refine lv_iload_n hx hb d_M_earlier_21 rfl (lv_at hl51 0 rfl) ?_
    refine lv_iload_n hx hb d_M_earlier_22 rfl (lv_at hl51 1 rfl) ?_
    refine lv_ishr hx hb d_M_earlier_23 ?_
    refine lv_iconst (v := 1) hx hb d_M_earlier_24 (by decide) ?_
    refine lv_iand hx hb d_M_earlier_25 ?_
    refine lv_iconst (v := 1) hx hb d_M_earlier_26 (by decide) ?_
    refine lv_icmp_ne (tgt := 34) hx hb d_M_earlier_27 rfl (fun h55 => ?_) (fun h55 => ?_)
    · have hf56 := ifn hf52 h55
      refine lv_iconst (v := 0) hx hb d_M_earlier_34 (by decide) ?_
      cases hf56
      exact hend H46 L47 35 ls48 (show narrow .boolean (.int (0 : Int32)) = .int (0 : Int32) from rfl) hP49 hS50 d_M_earlier_35
    · have hf57 := ifp hf52 h55
      refine lv_iconst (v := 1) hx hb d_M_earlier_30 (by decide) ?_
      refine lv_goto (tgt := 35) hx hb d_M_earlier_31 rfl ?_
      cases hf57
      exact hend H46 L47 35 ls48 (show narrow .boolean (.int (1 : Int32)) = .int (1 : Int32) from rfl) hP49 hS50 d_M_earlier_35
  refine iter_ind (C := fun z : Int32 => ∀ (H13 : Heap) (L14 : List Loc) (ls15 : Array Slot), va_P D cls_all (kw w I0 J0) H13 → va_S A s.heap H13 L14 → lv_has ls15 4 [(0, .int p0), (2, .int x1), (3, .int z)] → W p l e R s m args below meth c H13 L14 0 0 Q (F0 m 6 ls15 [])) (fun x12 o10 hz20 hc8 he9 => ?_) _ _ ho36 s.heap [] ls6 hP hS (lv_sub hl7 [2, 1, 0] rfl)
  intro H13 L14 ls15 hP16 hS17 hl18
  have hf19 : fm_M_earlier_B6 x1 x12 = some o10 := hz20
  unfold fm_M_earlier_B6 at hf19
  refine lv_iload_n hx hb d_M_earlier_6 rfl (lv_at hl18 2 rfl) ?_
  refine lv_bipush (v := 16) hx hb d_M_earlier_7 (by decide) ?_
  refine lv_icmp_ge (tgt := 42) hx hb d_M_earlier_9 rfl (fun h21 => ?_) (fun h21 => ?_)
  · have hf22 := ifp hf19 h21
    cases hf22
    have e24 := he9 (by show (1 : Nat) ≠ 0; decide)
    cases e24
    exact kx6_1 rfl H13 L14 ls15 hP16 hS17 (lv_sub hl18 [] rfl)
  · have hf23 := ifn hf19 h21
    refine lv_iload_n hx hb d_M_earlier_12 rfl (lv_at hl18 1 rfl) ?_
    refine lv_iload_n hx hb d_M_earlier_13 rfl (lv_at hl18 2 rfl) ?_
    refine lv_ishr hx hb d_M_earlier_14 ?_
    refine lv_iconst (v := 1) hx hb d_M_earlier_15 (by decide) ?_
    refine lv_iand hx hb d_M_earlier_16 ?_
    refine lv_iconst (v := 1) hx hb d_M_earlier_17 (by decide) ?_
    refine lv_icmp_ne (tgt := 36) hx hb d_M_earlier_18 rfl (fun h25 => ?_) (fun h25 => ?_)
    · have hf26 := ifn hf23 h25
      obtain ⟨x28, e29, hf30⟩ := bnd_ex hf26
      refine lv_iinc hx hb d_M_earlier_36 hl18 (k := 2) rfl (v := x28) (by rw [e29]; rfl) (by decide) (lv' := [(3, .int x28), (0, .int p0), (2, .int x1)]) rfl (fun ls31 hl32 => ?_)
      refine lv_goto (tgt := 6) hx hb d_M_earlier_39 rfl ?_
      cases hf30
      exact hc8 rfl H13 L14 ls31 hP16 hS17 (lv_sub hl32 [1, 2, 0] rfl)
    · have hf27 := ifp hf23 h25
      cases hf27
      have e33 := he9 (by show (2 : Nat) ≠ 0; decide)
      cases e33
      exact kx6_2 rfl H13 L14 ls15 hP16 hS17 (lv_sub hl18 [0, 2] rfl)
theorem d_M_common_0 : decode b_M_common 0 = .ok (.lload_n 0, 1) := by decide +kernel
theorem d_M_common_1 : decode b_M_common 1 = .ok (.lstore 4, 2) := by decide +kernel
theorem d_M_common_3 : decode b_M_common 3 = .ok (.lload_n 2, 1) := by decide +kernel
theorem d_M_common_4 : decode b_M_common 4 = .ok (.lstore 6, 2) := by decide +kernel
theorem d_M_common_6 : decode b_M_common 6 = .ok (.lload 6, 2) := by decide +kernel
theorem d_M_common_8 : decode b_M_common 8 = .ok (.lconst 0, 1) := by decide +kernel
theorem d_M_common_9 : decode b_M_common 9 = .ok (.lcmp, 1) := by decide +kernel
theorem d_M_common_10 : decode b_M_common 10 = .ok (.ifCond .eq 21, 3) := by decide +kernel
theorem d_M_common_13 : decode b_M_common 13 = .ok (.lload 4, 2) := by decide +kernel
theorem d_M_common_15 : decode b_M_common 15 = .ok (.lload 6, 2) := by decide +kernel
theorem d_M_common_17 : decode b_M_common 17 = .ok (.lrem, 1) := by decide +kernel
theorem d_M_common_18 : decode b_M_common 18 = .ok (.lstore 8, 2) := by decide +kernel
theorem d_M_common_20 : decode b_M_common 20 = .ok (.lload 6, 2) := by decide +kernel
theorem d_M_common_22 : decode b_M_common 22 = .ok (.lstore 4, 2) := by decide +kernel
theorem d_M_common_24 : decode b_M_common 24 = .ok (.lload 8, 2) := by decide +kernel
theorem d_M_common_26 : decode b_M_common 26 = .ok (.lstore 6, 2) := by decide +kernel
theorem d_M_common_28 : decode b_M_common 28 = .ok (.goto (-22), 3) := by decide +kernel
theorem d_M_common_31 : decode b_M_common 31 = .ok (.lload 4, 2) := by decide +kernel
theorem d_M_common_33 : decode b_M_common 33 = .ok (.lreturn, 1) := by decide +kernel
def fm_M_common_B6  (y9 : Int64) (y10 : Int64) : Option (Nat × Int64 × Int64) :=
  if (lg_cmp y10 (0 : Int64)) = 0 then some (1, y9, y10) else grd (decide (¬ y10 = 0)) (bnd (y9 - y9 / y10 * y10) (fun y25 => some (0, y10, y25)))
def fm_M_common (p0 : Int64) (p1 : Int64) : Option (Int64) :=
  ob3 (iter (fun z : Int64 × Int64 => fm_M_common_B6 z.1 z.2) FU (p0, p1)) (fun _ y35 y36 => some y35)
set_option maxHeartbeats 4000000 in
set_option maxRecDepth 100000 in
theorem cm_M_common (l : Launch) (D : va_G) (ca : Nat → ClassId) (w : va_W) {p0 : Int64} {p1 : Int64} {I0 : IS} {J0 : JS} {r : Int64} (hf : fm_M_common p0 p1 = some r) : CtL l y_M_common (Cond.code y_M_common b_M_common 10 (some .long) :: TB) { frames := 0, cells := 0, slots := 0, locals := 0 } [.long p0, .long p1] D cls_all (tysC ca) NN (kw w I0 J0) (kw w I0 J0) r := by
  refine jd_metL (cc := b_M_common) (by decide) rfl (Nat.le_of_ble_eq_true rfl) (lv := [(0, .long p0), (2, .long p1)]) rfl ?_
  intro p e R s m args below meth c A Q ls cx hR hK hN hD0 hA hP hS hl hend
  have hx := cx.1
  have hb := cx.2.1
  have hml := cx.2.2.1
  have hown := cx.2.2.2.1
  have hts := cx.2.2.2.2
  have hD : ∀ I J, va_D A (kw w I J) := fun I J => jd_Dc hD0 rfl
  unfold fm_M_common at hf
  refine lv_lload_n hx hb d_M_common_0 rfl (lv_at hl 0 rfl) ?_
  refine lv_lstore hx hb d_M_common_1 hl (by decide) (lv' := [(4, .long p0), (0, .long p0), (2, .long p1)]) rfl (fun ls1 hl2 => ?_)
  refine lv_lload_n hx hb d_M_common_3 rfl (lv_at hl2 2 rfl) ?_
  refine lv_lstore hx hb d_M_common_4 hl2 (by decide) (lv' := [(6, .long p1), (4, .long p0), (0, .long p0), (2, .long p1)]) rfl (fun ls3 hl4 => ?_)
  obtain ⟨tg34, y35, y36, ho37, hf38⟩ := ob3_ex hf
  have kx6_1 : ∀ (H39 : Heap) (L40 : List Loc) (ls41 : Array Slot), va_P D cls_all (kw w I0 J0) H39 → va_S A s.heap H39 L40 → lv_has ls41 10 [(4, .long y35)] → W p l e R s m args below meth c H39 L40 0 0 Q (F0 m 31 ls41 []) := by
    intro H39 L40 ls41 hP42 hS43 hl44
    refine lv_lload hx hb d_M_common_31 (lv_at hl44 0 rfl) ?_
    cases hf38
    exact hend H39 L40 33 ls41 hP42 hS43 d_M_common_33
  refine iter_ind (C := fun z : Int64 × Int64 => ∀ (H11 : Heap) (L12 : List Loc) (ls13 : Array Slot), va_P D cls_all (kw w I0 J0) H11 → va_S A s.heap H11 L12 → lv_has ls13 10 [(4, .long z.1), (6, .long z.2)] → W p l e R s m args below meth c H11 L12 0 0 Q (F0 m 6 ls13 [])) (fun z8 o7 hz18 hc5 he6 => ?_) _ _ ho37 s.heap [] ls3 hP hS (lv_sub hl4 [1, 0] rfl)
  obtain ⟨y9, y10⟩ := z8
  intro H11 L12 ls13 hP14 hS15 hl16
  have hf17 : fm_M_common_B6 y9 y10 = some o7 := hz18
  unfold fm_M_common_B6 at hf17
  refine lv_lload hx hb d_M_common_6 (lv_at hl16 1 rfl) ?_
  refine lv_lconst (v := 0) hx hb d_M_common_8 (by decide) ?_
  refine W.lcmp hx hb d_M_common_9 ?_
  refine lv_if_eq (tgt := 31) hx hb d_M_common_10 rfl (fun h19 => ?_) (fun h19 => ?_)
  · have hf20 := ifp hf17 h19
    cases hf20
    have e22 := he6 (by show (1 : Nat) ≠ 0; decide)
    cases e22
    exact kx6_1 H11 L12 ls13 hP14 hS15 (lv_sub hl16 [0] rfl)
  · have hf21 := ifn hf17 h19
    refine lv_lload hx hb d_M_common_13 (lv_at hl16 0 rfl) ?_
    refine lv_lload hx hb d_M_common_15 (lv_at hl16 1 rfl) ?_
    obtain ⟨hg23, hf24⟩ := grd_ex hf21
    refine lv_lrem hx hb d_M_common_17 (of_decide_eq_true hg23) ?_
    obtain ⟨y25, e26, hf27⟩ := bnd_ex hf24
    refine jd_tnl e26 ?_
    refine lv_lstore hx hb d_M_common_18 hl16 (by decide) (lv' := [(8, .long y25), (4, .long y9), (6, .long y10)]) rfl (fun ls28 hl29 => ?_)
    refine lv_lload hx hb d_M_common_20 (lv_at hl29 2 rfl) ?_
    refine lv_lstore hx hb d_M_common_22 hl29 (by decide) (lv' := [(4, .long y10), (8, .long y25), (6, .long y10)]) rfl (fun ls30 hl31 => ?_)
    refine lv_lload hx hb d_M_common_24 (lv_at hl31 1 rfl) ?_
    refine lv_lstore hx hb d_M_common_26 hl31 (by decide) (lv' := [(6, .long y25), (4, .long y10), (8, .long y25)]) rfl (fun ls32 hl33 => ?_)
    refine lv_goto (tgt := 6) hx hb d_M_common_28 rfl ?_
    cases hf27
    exact hc5 rfl H11 L12 ls32 hP14 hS15 (lv_sub hl33 [1, 0] rfl)
