theorem d_A_fillI_0 : decode b_A_fillI 0 = .ok (.iconst 0, 1) := by decide +kernel
theorem d_A_fillI_1 : decode b_A_fillI 1 = .ok (.istore_n 2, 1) := by decide +kernel
theorem d_A_fillI_2 : decode b_A_fillI 2 = .ok (.aload_n 0, 1) := by decide +kernel
theorem d_A_fillI_3 : decode b_A_fillI 3 = .ok (.arraylength, 1) := by decide +kernel
theorem d_A_fillI_4 : decode b_A_fillI 4 = .ok (.istore_n 3, 1) := by decide +kernel
theorem d_A_fillI_5 : decode b_A_fillI 5 = .ok (.iload_n 2, 1) := by decide +kernel
theorem d_A_fillI_6 : decode b_A_fillI 6 = .ok (.iload_n 3, 1) := by decide +kernel
theorem d_A_fillI_7 : decode b_A_fillI 7 = .ok (.if_icmp .ge 13, 3) := by decide +kernel
theorem d_A_fillI_10 : decode b_A_fillI 10 = .ok (.aload_n 0, 1) := by decide +kernel
theorem d_A_fillI_11 : decode b_A_fillI 11 = .ok (.iload_n 2, 1) := by decide +kernel
theorem d_A_fillI_12 : decode b_A_fillI 12 = .ok (.iload_n 1, 1) := by decide +kernel
theorem d_A_fillI_13 : decode b_A_fillI 13 = .ok (.iastore, 1) := by decide +kernel
theorem d_A_fillI_14 : decode b_A_fillI 14 = .ok (.iinc 2 1, 3) := by decide +kernel
theorem d_A_fillI_17 : decode b_A_fillI 17 = .ok (.goto (-12), 3) := by decide +kernel
theorem d_A_fillI_20 : decode b_A_fillI 20 = .ok (.return_, 1) := by decide +kernel
def fm_A_fillI_B5 (k : Nat) (n : Nat) (p1 : Int32) (x3 : Int32) (x12 : Int32) (I13 : IS) : Option (Nat × Int32 × IS) :=
  if x3 ≤ x12 then some (1, x12, I13) else grd (inB x12 n) (bnd (sI I13 k x12.toNatClampNeg p1) (fun I28 => bnd (x12 + (1 : Int32)) (fun x36 => some (0, x36, I28))))
def fm_A_fillI (k : Nat) (n : Nat) (p1 : Int32) (I0 : IS) : Option (IS) :=
  bnd (Int32.ofNat n) (fun x3 => ob3 (iter (fun z : Int32 × IS => fm_A_fillI_B5 k n p1 x3 z.1 z.2) FU ((0 : Int32), I0)) (fun _ x42 I43 => some I43))
set_option maxHeartbeats 4000000 in
set_option maxRecDepth 100000 in
theorem cm_A_fillI (l : Launch) (D : va_G) (ca : Nat → ClassId) (wf : IS → JS → va_W) (aq : Nat) (hDf : ∀ (I : IS) (J : JS) (I' : IS) (J' : JS), (wf I J).map Prod.fst = (wf I' J').map Prod.fst) {k : Nat} {n : Nat} {p1 : Int32} {I0 : IS} {J0 : JS} {r : IS} {q : Nat} (hget : ∀ (I : IS) (J : JS), (wf I J)[q]? = some (aq, .inl (ca 2, n, .inl (I k)))) (hset : ∀ (I : IS) (J : JS) (i : Nat) (x : Int32), (wf I J).set q (aq, .inl (ca 2, n, .inl (upd (I k) i x))) = wf (sI I k i x) J) (hf : fm_A_fillI k n p1 I0 = some r) : CtV l y_A_fillI (Cond.code y_A_fillI b_A_fillI 4 none :: TB) { frames := 0, cells := 0, slots := 0, locals := 0 } [.ref aq, .int p1] D cls_all (tysC ca) NN (wf I0 J0) (wf r J0) := by
  refine jd_metV (cc := b_A_fillI) (by decide) rfl (Nat.le_of_ble_eq_true rfl) (lv := [(0, .ref aq), (1, .int p1)]) rfl ?_
  intro p e R s m args below meth c A Q ls cx hR hK hN hD0 hA hP hS hl hend
  have hx := cx.1
  have hb := cx.2.1
  have hml := cx.2.2.1
  have hown := cx.2.2.2.1
  have hts := cx.2.2.2.2
  have hD : ∀ I J, va_D A (wf I J) := fun I J => jd_Dc hD0 (hDf _ _ _ _)
  unfold fm_A_fillI at hf
  refine lv_iconst (v := 0) hx hb d_A_fillI_0 (by decide) ?_
  refine lv_istore_n hx hb d_A_fillI_1 rfl hl (by decide) (lv' := [(2, .int (0 : Int32)), (0, .ref aq), (1, .int p1)]) rfl (fun ls1 hl2 => ?_)
  refine lv_aload_n hx hb d_A_fillI_2 rfl (lv_at hl2 1 rfl) ?_
  refine va_alen hx hb hK hP q 2 (hget _ _) rfl rfl d_A_fillI_3 ?_
  obtain ⟨x3, e4, hf5⟩ := bnd_ex hf
  refine jd_tni e4 ?_
  refine lv_istore_n hx hb d_A_fillI_4 rfl hl2 (by decide) (lv' := [(3, .int x3), (2, .int (0 : Int32)), (0, .ref aq), (1, .int p1)]) rfl (fun ls6 hl7 => ?_)
  obtain ⟨tg41, x42, I43, ho44, hf45⟩ := ob3_ex hf5
  have kx5_1 : ∀ (H46 : Heap) (L47 : List Loc) (ls48 : Array Slot), va_P D cls_all (wf I43 J0) H46 → va_S A s.heap H46 L47 → lv_has ls48 4 [] → W p l e R s m args below meth c H46 L47 0 0 Q (F0 m 20 ls48 []) := by
    intro H46 L47 ls48 hP49 hS50 hl51
    cases hf45
    exact hend H46 L47 20 ls48 hP49 hS50 d_A_fillI_20
  refine iter_ind (C := fun z : Int32 × IS => ∀ (H14 : Heap) (L15 : List Loc) (ls16 : Array Slot), va_P D cls_all (wf z.2 J0) H14 → va_S A s.heap H14 L15 → lv_has ls16 4 [(0, .ref aq), (1, .int p1), (2, .int z.1), (3, .int x3)] → W p l e R s m args below meth c H14 L15 0 0 Q (F0 m 5 ls16 [])) (fun z11 o10 hz21 hc8 he9 => ?_) _ _ ho44 s.heap [] ls6 hP hS (lv_sub hl7 [2, 3, 1, 0] rfl)
  obtain ⟨x12, I13⟩ := z11
  intro H14 L15 ls16 hP17 hS18 hl19
  have hf20 : fm_A_fillI_B5 k n p1 x3 x12 I13 = some o10 := hz21
  unfold fm_A_fillI_B5 at hf20
  refine lv_iload_n hx hb d_A_fillI_5 rfl (lv_at hl19 2 rfl) ?_
  refine lv_iload_n hx hb d_A_fillI_6 rfl (lv_at hl19 3 rfl) ?_
  refine lv_icmp_ge (tgt := 20) hx hb d_A_fillI_7 rfl (fun h22 => ?_) (fun h22 => ?_)
  · have hf23 := ifp hf20 h22
    cases hf23
    have e25 := he9 (by show (1 : Nat) ≠ 0; decide)
    cases e25
    exact kx5_1 H14 L15 ls16 hP17 hS18 (lv_sub hl19 [] rfl)
  · have hf24 := ifn hf20 h22
    refine lv_aload_n hx hb d_A_fillI_10 rfl (lv_at hl19 0 rfl) ?_
    refine lv_iload_n hx hb d_A_fillI_11 rfl (lv_at hl19 2 rfl) ?_
    refine lv_iload_n hx hb d_A_fillI_12 rfl (lv_at hl19 1 rfl) ?_
    obtain ⟨hg26, hf27⟩ := grd_ex hf24
    obtain ⟨I28, e29, hf30⟩ := bnd_ex hf27
    refine va_iast hx hb hK hP17 (hD I13 J0) hS18 q 2 (hget _ _) rfl (inB_in hg26) d_A_fillI_13 (fun H31 L32 hp35 _ hS34 => ?_)
    have hP33 : va_P D cls_all (wf I28 J0) H31 := by rw [e29]; rw [← hset]; exact hp35
    obtain ⟨x36, e37, hf38⟩ := bnd_ex hf30
    refine lv_iinc hx hb d_A_fillI_14 hl19 (k := 2) rfl (v := x36) (by rw [e37]; rfl) (by decide) (lv' := [(2, .int x36), (0, .ref aq), (1, .int p1), (3, .int x3)]) rfl (fun ls39 hl40 => ?_)
    refine lv_goto (tgt := 5) hx hb d_A_fillI_17 rfl ?_
    cases hf38
    exact hc8 rfl H31 L32 ls39 hP33 hS34 (lv_sub hl40 [1, 2, 0, 3] rfl)
theorem d_A_fillJ_0 : decode b_A_fillJ 0 = .ok (.iconst 0, 1) := by decide +kernel
theorem d_A_fillJ_1 : decode b_A_fillJ 1 = .ok (.istore_n 3, 1) := by decide +kernel
theorem d_A_fillJ_2 : decode b_A_fillJ 2 = .ok (.aload_n 0, 1) := by decide +kernel
theorem d_A_fillJ_3 : decode b_A_fillJ 3 = .ok (.arraylength, 1) := by decide +kernel
theorem d_A_fillJ_4 : decode b_A_fillJ 4 = .ok (.istore 4, 2) := by decide +kernel
theorem d_A_fillJ_6 : decode b_A_fillJ 6 = .ok (.iload_n 3, 1) := by decide +kernel
theorem d_A_fillJ_7 : decode b_A_fillJ 7 = .ok (.iload 4, 2) := by decide +kernel
theorem d_A_fillJ_9 : decode b_A_fillJ 9 = .ok (.if_icmp .ge 13, 3) := by decide +kernel
theorem d_A_fillJ_12 : decode b_A_fillJ 12 = .ok (.aload_n 0, 1) := by decide +kernel
theorem d_A_fillJ_13 : decode b_A_fillJ 13 = .ok (.iload_n 3, 1) := by decide +kernel
theorem d_A_fillJ_14 : decode b_A_fillJ 14 = .ok (.lload_n 1, 1) := by decide +kernel
theorem d_A_fillJ_15 : decode b_A_fillJ 15 = .ok (.lastore, 1) := by decide +kernel
theorem d_A_fillJ_16 : decode b_A_fillJ 16 = .ok (.iinc 3 1, 3) := by decide +kernel
theorem d_A_fillJ_19 : decode b_A_fillJ 19 = .ok (.goto (-13), 3) := by decide +kernel
theorem d_A_fillJ_22 : decode b_A_fillJ 22 = .ok (.return_, 1) := by decide +kernel
def fm_A_fillJ_B6 (k : Nat) (n : Nat) (p1 : Int64) (x3 : Int32) (x12 : Int32) (J13 : JS) : Option (Nat × Int32 × JS) :=
  if x3 ≤ x12 then some (1, x12, J13) else grd (inB x12 n) (bnd (sJ J13 k x12.toNatClampNeg p1) (fun J28 => bnd (x12 + (1 : Int32)) (fun x36 => some (0, x36, J28))))
def fm_A_fillJ (k : Nat) (n : Nat) (p1 : Int64) (J0 : JS) : Option (JS) :=
  bnd (Int32.ofNat n) (fun x3 => ob3 (iter (fun z : Int32 × JS => fm_A_fillJ_B6 k n p1 x3 z.1 z.2) FU ((0 : Int32), J0)) (fun _ x42 J43 => some J43))
set_option maxHeartbeats 4000000 in
set_option maxRecDepth 100000 in
theorem cm_A_fillJ (l : Launch) (D : va_G) (ca : Nat → ClassId) (wf : IS → JS → va_W) (aq : Nat) (hDf : ∀ (I : IS) (J : JS) (I' : IS) (J' : JS), (wf I J).map Prod.fst = (wf I' J').map Prod.fst) {k : Nat} {n : Nat} {p1 : Int64} {I0 : IS} {J0 : JS} {r : JS} {q : Nat} (hget : ∀ (I : IS) (J : JS), (wf I J)[q]? = some (aq, .inl (ca 3, n, .inr (.inl (J k))))) (hset : ∀ (I : IS) (J : JS) (i : Nat) (x : Int64), (wf I J).set q (aq, .inl (ca 3, n, .inr (.inl (vp_updL (J k) i x)))) = wf I (sJ J k i x)) (hf : fm_A_fillJ k n p1 J0 = some r) : CtV l y_A_fillJ (Cond.code y_A_fillJ b_A_fillJ 5 none :: TB) { frames := 0, cells := 0, slots := 0, locals := 0 } [.ref aq, .long p1] D cls_all (tysC ca) NN (wf I0 J0) (wf I0 r) := by
  refine jd_metV (cc := b_A_fillJ) (by decide) rfl (Nat.le_of_ble_eq_true rfl) (lv := [(0, .ref aq), (1, .long p1)]) rfl ?_
  intro p e R s m args below meth c A Q ls cx hR hK hN hD0 hA hP hS hl hend
  have hx := cx.1
  have hb := cx.2.1
  have hml := cx.2.2.1
  have hown := cx.2.2.2.1
  have hts := cx.2.2.2.2
  have hD : ∀ I J, va_D A (wf I J) := fun I J => jd_Dc hD0 (hDf _ _ _ _)
  unfold fm_A_fillJ at hf
  refine lv_iconst (v := 0) hx hb d_A_fillJ_0 (by decide) ?_
  refine lv_istore_n hx hb d_A_fillJ_1 rfl hl (by decide) (lv' := [(3, .int (0 : Int32)), (0, .ref aq), (1, .long p1)]) rfl (fun ls1 hl2 => ?_)
  refine lv_aload_n hx hb d_A_fillJ_2 rfl (lv_at hl2 1 rfl) ?_
  refine va_alen hx hb hK hP q 3 (hget _ _) rfl rfl d_A_fillJ_3 ?_
  obtain ⟨x3, e4, hf5⟩ := bnd_ex hf
  refine jd_tni e4 ?_
  refine lv_istore hx hb d_A_fillJ_4 hl2 (by decide) (lv' := [(4, .int x3), (3, .int (0 : Int32)), (0, .ref aq), (1, .long p1)]) rfl (fun ls6 hl7 => ?_)
  obtain ⟨tg41, x42, J43, ho44, hf45⟩ := ob3_ex hf5
  have kx6_1 : ∀ (H46 : Heap) (L47 : List Loc) (ls48 : Array Slot), va_P D cls_all (wf I0 J43) H46 → va_S A s.heap H46 L47 → lv_has ls48 5 [] → W p l e R s m args below meth c H46 L47 0 0 Q (F0 m 22 ls48 []) := by
    intro H46 L47 ls48 hP49 hS50 hl51
    cases hf45
    exact hend H46 L47 22 ls48 hP49 hS50 d_A_fillJ_22
  refine iter_ind (C := fun z : Int32 × JS => ∀ (H14 : Heap) (L15 : List Loc) (ls16 : Array Slot), va_P D cls_all (wf I0 z.2) H14 → va_S A s.heap H14 L15 → lv_has ls16 5 [(0, .ref aq), (1, .long p1), (3, .int z.1), (4, .int x3)] → W p l e R s m args below meth c H14 L15 0 0 Q (F0 m 6 ls16 [])) (fun z11 o10 hz21 hc8 he9 => ?_) _ _ ho44 s.heap [] ls6 hP hS (lv_sub hl7 [2, 3, 1, 0] rfl)
  obtain ⟨x12, J13⟩ := z11
  intro H14 L15 ls16 hP17 hS18 hl19
  have hf20 : fm_A_fillJ_B6 k n p1 x3 x12 J13 = some o10 := hz21
  unfold fm_A_fillJ_B6 at hf20
  refine lv_iload_n hx hb d_A_fillJ_6 rfl (lv_at hl19 2 rfl) ?_
  refine lv_iload hx hb d_A_fillJ_7 (lv_at hl19 3 rfl) ?_
  refine lv_icmp_ge (tgt := 22) hx hb d_A_fillJ_9 rfl (fun h22 => ?_) (fun h22 => ?_)
  · have hf23 := ifp hf20 h22
    cases hf23
    have e25 := he9 (by show (1 : Nat) ≠ 0; decide)
    cases e25
    exact kx6_1 H14 L15 ls16 hP17 hS18 (lv_sub hl19 [] rfl)
  · have hf24 := ifn hf20 h22
    refine lv_aload_n hx hb d_A_fillJ_12 rfl (lv_at hl19 0 rfl) ?_
    refine lv_iload_n hx hb d_A_fillJ_13 rfl (lv_at hl19 2 rfl) ?_
    refine lv_lload_n hx hb d_A_fillJ_14 rfl (lv_at hl19 1 rfl) ?_
    obtain ⟨hg26, hf27⟩ := grd_ex hf24
    obtain ⟨J28, e29, hf30⟩ := bnd_ex hf27
    refine va_last hx hb hK hP17 (hD I0 J13) hS18 q 3 (hget _ _) rfl (inB_in hg26) d_A_fillJ_15 (fun H31 L32 hp35 _ hS34 => ?_)
    have hP33 : va_P D cls_all (wf I0 J28) H31 := by rw [e29]; rw [← hset]; exact hp35
    obtain ⟨x36, e37, hf38⟩ := bnd_ex hf30
    refine lv_iinc hx hb d_A_fillJ_16 hl19 (k := 2) rfl (v := x36) (by rw [e37]; rfl) (by decide) (lv' := [(3, .int x36), (0, .ref aq), (1, .long p1), (4, .int x3)]) rfl (fun ls39 hl40 => ?_)
    refine lv_goto (tgt := 6) hx hb d_A_fillJ_19 rfl ?_
    cases hf38
    exact hc8 rfl H31 L32 ls39 hP33 hS34 (lv_sub hl40 [1, 2, 0, 3] rfl)
