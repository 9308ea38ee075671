theorem d_S_measure_0 : decode b_S_measure 0 = .ok (.aload_n 0, 1) := by decide +kernel
theorem d_S_measure_1 : decode b_S_measure 1 = .ok (.getfield 15, 3) := by decide +kernel
theorem d_S_measure_4 : decode b_S_measure 4 = .ok (.bipush 16, 2) := by decide +kernel
theorem d_S_measure_6 : decode b_S_measure 6 = .ok (.invokestatic 36, 3) := by decide +kernel
theorem d_S_measure_9 : decode b_S_measure 9 = .ok (.aload_n 0, 1) := by decide +kernel
theorem d_S_measure_10 : decode b_S_measure 10 = .ok (.getfield 15, 3) := by decide +kernel
theorem d_S_measure_13 : decode b_S_measure 13 = .ok (.iload_n 2, 1) := by decide +kernel
theorem d_S_measure_14 : decode b_S_measure 14 = .ok (.iconst 0, 1) := by decide +kernel
theorem d_S_measure_15 : decode b_S_measure 15 = .ok (.iastore, 1) := by decide +kernel
theorem d_S_measure_16 : decode b_S_measure 16 = .ok (.iconst 1, 1) := by decide +kernel
theorem d_S_measure_17 : decode b_S_measure 17 = .ok (.istore_n 3, 1) := by decide +kernel
theorem d_S_measure_18 : decode b_S_measure 18 = .ok (.iload_n 3, 1) := by decide +kernel
theorem d_S_measure_19 : decode b_S_measure 19 = .ok (.bipush 16, 2) := by decide +kernel
theorem d_S_measure_21 : decode b_S_measure 21 = .ok (.if_icmp .ge 82, 3) := by decide +kernel
theorem d_S_measure_24 : decode b_S_measure 24 = .ok (.iconst 0, 1) := by decide +kernel
theorem d_S_measure_25 : decode b_S_measure 25 = .ok (.istore 4, 2) := by decide +kernel
theorem d_S_measure_27 : decode b_S_measure 27 = .ok (.iload 4, 2) := by decide +kernel
theorem d_S_measure_29 : decode b_S_measure 29 = .ok (.aload_n 1, 1) := by decide +kernel
theorem d_S_measure_30 : decode b_S_measure 30 = .ok (.getfield 42, 3) := by decide +kernel
theorem d_S_measure_33 : decode b_S_measure 33 = .ok (.if_icmp .ge 64, 3) := by decide +kernel
theorem d_S_measure_36 : decode b_S_measure 36 = .ok (.aload_n 1, 1) := by decide +kernel
theorem d_S_measure_37 : decode b_S_measure 37 = .ok (.getfield 45, 3) := by decide +kernel
theorem d_S_measure_40 : decode b_S_measure 40 = .ok (.iload 4, 2) := by decide +kernel
theorem d_S_measure_42 : decode b_S_measure 42 = .ok (.baload, 1) := by decide +kernel
theorem d_S_measure_43 : decode b_S_measure 43 = .ok (.istore 5, 2) := by decide +kernel
theorem d_S_measure_45 : decode b_S_measure 45 = .ok (.aload_n 0, 1) := by decide +kernel
theorem d_S_measure_46 : decode b_S_measure 46 = .ok (.getfield 15, 3) := by decide +kernel
theorem d_S_measure_49 : decode b_S_measure 49 = .ok (.aload_n 1, 1) := by decide +kernel
theorem d_S_measure_50 : decode b_S_measure 50 = .ok (.getfield 30, 3) := by decide +kernel
theorem d_S_measure_53 : decode b_S_measure 53 = .ok (.iload 4, 2) := by decide +kernel
theorem d_S_measure_55 : decode b_S_measure 55 = .ok (.baload, 1) := by decide +kernel
theorem d_S_measure_56 : decode b_S_measure 56 = .ok (.iaload, 1) := by decide +kernel
theorem d_S_measure_57 : decode b_S_measure 57 = .ok (.iload_n 3, 1) := by decide +kernel
theorem d_S_measure_58 : decode b_S_measure 58 = .ok (.iconst 1, 1) := by decide +kernel
theorem d_S_measure_59 : decode b_S_measure 59 = .ok (.isub, 1) := by decide +kernel
theorem d_S_measure_60 : decode b_S_measure 60 = .ok (.if_icmp .ne 31, 3) := by decide +kernel
theorem d_S_measure_63 : decode b_S_measure 63 = .ok (.aload_n 0, 1) := by decide +kernel
theorem d_S_measure_64 : decode b_S_measure 64 = .ok (.getfield 15, 3) := by decide +kernel
theorem d_S_measure_67 : decode b_S_measure 67 = .ok (.iload 5, 2) := by decide +kernel
theorem d_S_measure_69 : decode b_S_measure 69 = .ok (.iaload, 1) := by decide +kernel
theorem d_S_measure_70 : decode b_S_measure 70 = .ok (.iload_n 3, 1) := by decide +kernel
theorem d_S_measure_71 : decode b_S_measure 71 = .ok (.if_icmp .le 20, 3) := by decide +kernel
theorem d_S_measure_74 : decode b_S_measure 74 = .ok (.aload_n 1, 1) := by decide +kernel
theorem d_S_measure_75 : decode b_S_measure 75 = .ok (.iload 4, 2) := by decide +kernel
theorem d_S_measure_77 : decode b_S_measure 77 = .ok (.invokevirtual 48, 3) := by decide +kernel
theorem d_S_measure_80 : decode b_S_measure 80 = .ok (.ifCond .eq 11, 3) := by decide +kernel
theorem d_S_measure_83 : decode b_S_measure 83 = .ok (.aload_n 0, 1) := by decide +kernel
theorem d_S_measure_84 : decode b_S_measure 84 = .ok (.getfield 15, 3) := by decide +kernel
theorem d_S_measure_87 : decode b_S_measure 87 = .ok (.iload 5, 2) := by decide +kernel
theorem d_S_measure_89 : decode b_S_measure 89 = .ok (.iload_n 3, 1) := by decide +kernel
theorem d_S_measure_90 : decode b_S_measure 90 = .ok (.iastore, 1) := by decide +kernel
theorem d_S_measure_91 : decode b_S_measure 91 = .ok (.iinc 4 1, 3) := by decide +kernel
theorem d_S_measure_94 : decode b_S_measure 94 = .ok (.goto (-67), 3) := by decide +kernel
theorem d_S_measure_97 : decode b_S_measure 97 = .ok (.iinc 3 1, 3) := by decide +kernel
theorem d_S_measure_100 : decode b_S_measure 100 = .ok (.goto (-82), 3) := by decide +kernel
theorem d_S_measure_103 : decode b_S_measure 103 = .ok (.return_, 1) := by decide +kernel
def fm_S_measure_B27 (x24 : Int32) (x44 : Int32) (I45 : IS) : Option (Nat × Int32 × IS) :=
  if (I45 6 0) ≤ x44 then some (1, x44, I45) else grd (inB x44 400) (bnd (I45 0 x44.toNatClampNeg) (fun x60 => grd (inB x44 400) (grd (inB (I45 1 x44.toNatClampNeg) 16) (if (I45 20 (I45 1 x44.toNatClampNeg).toNatClampNeg) = (x24 - (1 : Int32)) then grd (inB x60 16) (if (I45 20 x60.toNatClampNeg) ≤ x24 then bnd (x44 + (1 : Int32)) (fun x82 => some (0, x82, I45)) else ob1 (fm_H_inForce x44 I45) (fun x87 => if x87 = 0 then bnd (x44 + (1 : Int32)) (fun x97 => some (0, x97, I45)) else grd (inB x60 16) (bnd (sI I45 20 x60.toNatClampNeg x24) (fun I104 => bnd (x44 + (1 : Int32)) (fun x112 => some (0, x112, I104)))))) else bnd (x44 + (1 : Int32)) (fun x72 => some (0, x72, I45))))))
def fm_S_measure_B18  (x24 : Int32) (I25 : IS) : Option (Nat × Int32 × IS) :=
  if (16 : Int32) ≤ x24 then some (1, x24, I25) else ob3 (iter (fun z : Int32 × IS => fm_S_measure_B27 x24 z.1 z.2) FU ((0 : Int32), I25)) (fun _ x118 I119 => bnd (x24 + (1 : Int32)) (fun x128 => some (0, x128, I119)))
def fm_S_measure (p1 : Int32) (I0 : IS) : Option (IS) :=
  ob1 (fm_A_fillI 20 16 (16 : Int32) I0) (fun I1 => grd (inB p1 16) (bnd (sI I1 20 p1.toNatClampNeg (0 : Int32)) (fun I10 => ob3 (iter (fun z : Int32 × IS => fm_S_measure_B18 z.1 z.2) FU ((1 : Int32), I10)) (fun _ x134 I135 => some I135))))
set_option maxHeartbeats 4000000 in
set_option maxRecDepth 100000 in
theorem cm_S_measure (l : Launch) (D : va_G) (ca : Nat → ClassId) (ad : Nat → Nat) (hs : Nat → Option Nat) {p1 : Int32} {I0 : IS} {J0 : JS} {r : IS} (hf : fm_S_measure p1 I0 = some r) : CtV l y_S_measure (Cond.code y_S_measure b_S_measure 6 none :: TB) { frames := 2, cells := 0, slots := 0, locals := 42 } [.ref (ad 18), .ref (ad 0), .int p1] D cls_all (tysC ca) NN (wC ca ad hs I0 J0) (wC ca ad hs r J0) := by
  refine jd_metV (cc := b_S_measure) (by decide) rfl (Nat.le_of_ble_eq_true rfl) (lv := [(0, .ref (ad 18)), (1, .ref (ad 0)), (2, .int p1)]) rfl ?_
  intro p e R s m args below meth c A Q ls cx hR hK hN hD0 hA hP hS hl hend
  have hx := cx.1
  have hb := cx.2.1
  have hml := cx.2.2.1
  have hown := cx.2.2.2.1
  have hts := cx.2.2.2.2
  have hD : ∀ I J, va_D A (wC ca ad hs I J) := fun I J => jd_Dc hD0 rfl
  unfold fm_S_measure at hf
  refine lv_aload_n hx hb d_S_measure_0 rfl (lv_at hl 0 rfl) ?_
  refine va_get (D := D) (ci := 4) (v := .ref (ad 20)) (C := R_S) (T := F_S) (N := 3) hx hb hts (fun w h => List.mem_cons_of_mem _ (uw_S w h)) hown hK hP 18 rfl rfl 2 (by decide) (hts _ (List.mem_cons_of_mem _ tb_75)) (fun _ h => h) rfl d_S_measure_1 ?_
  refine lv_bipush (v := 16) hx hb d_S_measure_4 (by decide) ?_
  obtain ⟨I1, hc2, hf3⟩ := ob1_ex hf
  refine jd_cv (va_runS (As := [.ref (ad 20), .int (16 : Int32)]) (rest := []) cx (cm_A_fillI l D ca (wC ca ad hs) (ad 20) (fun _ _ _ _ => rfl) (k := 20) (n := 16) (q := 20) (fun _ _ => rfl) (fun _ _ _ _ => rfl) hc2 s.heap.size) (va_cwS 2 hts (jd_gS2 tb_145 tb_103 tb_46 tb_104) rfl rfl rfl ⟨by decide, by decide, rfl⟩ (by rw [hR]; decide)) ⟨jd_blind nWc, (jd_pre (av := [.ref (ad 20), .int (16 : Int32)]) hP hK (hD I0 J0) (fun U h => nWm h hN))⟩ rfl rfl hl.1 rfl (lv_room (Nat.le_of_ble_eq_true rfl)) d_S_measure_6 ⟨Nat.zero_le _, Nat.zero_le _⟩) hS (hD I0 J0) hA (fun H4 L5 hP6 hS7 => ?_)
  refine lv_aload_n hx hb d_S_measure_9 rfl (lv_at hl 0 rfl) ?_
  refine va_get (D := D) (ci := 4) (v := .ref (ad 20)) (C := R_S) (T := F_S) (N := 3) hx hb hts (fun w h => List.mem_cons_of_mem _ (uw_S w h)) hown hK hP6 18 rfl rfl 2 (by decide) (hts _ (List.mem_cons_of_mem _ tb_75)) (fun _ h => h) rfl d_S_measure_10 ?_
  refine lv_iload_n hx hb d_S_measure_13 rfl (lv_at hl 2 rfl) ?_
  refine lv_iconst (v := 0) hx hb d_S_measure_14 (by decide) ?_
  obtain ⟨hg8, hf9⟩ := grd_ex hf3
  obtain ⟨I10, e11, hf12⟩ := bnd_ex hf9
  refine va_iast hx hb hK hP6 (hD I1 J0) hS7 20 2 rfl rfl (inB_in hg8) d_S_measure_15 (fun H13 L14 hp17 _ hS16 => ?_)
  have hP15 : va_P D cls_all (wC ca ad hs I10 J0) H13 := by rw [e11]; exact hp17
  refine lv_iconst (v := 1) hx hb d_S_measure_16 (by decide) ?_
  refine lv_istore_n hx hb d_S_measure_17 rfl hl (by decide) (lv' := [(3, .int (1 : Int32)), (0, .ref (ad 18)), (1, .ref (ad 0)), (2, .int p1)]) rfl (fun ls18 hl19 => ?_)
  obtain ⟨tg133, x134, I135, ho136, hf137⟩ := ob3_ex hf12
  have kx18_1 : ∀ (H138 : Heap) (L139 : List Loc) (ls140 : Array Slot), va_P D cls_all (wC ca ad hs I135 J0) H138 → va_S A s.heap H138 L139 → lv_has ls140 6 [] → W p l e R s m args below meth c H138 L139 0 0 Q (F0 m 103 ls140 []) := by
    intro H138 L139 ls140 hP141 hS142 hl143
    cases hf137
    exact hend H138 L139 103 ls140 hP141 hS142 d_S_measure_103
  refine iter_ind (C := fun z : Int32 × IS => ∀ (H26 : Heap) (L27 : List Loc) (ls28 : Array Slot), va_P D cls_all (wC ca ad hs z.2 J0) H26 → va_S A s.heap H26 L27 → lv_has ls28 6 [(0, .ref (ad 18)), (1, .ref (ad 0)), (3, .int z.1)] → W p l e R s m args below meth c H26 L27 0 0 Q (F0 m 18 ls28 [])) (fun z23 o22 hz33 hc20 he21 => ?_) _ _ ho136 H13 L14 ls18 hP15 hS16 (lv_sub hl19 [1, 2, 0] rfl)
  obtain ⟨x24, I25⟩ := z23
  intro H26 L27 ls28 hP29 hS30 hl31
  have hf32 : fm_S_measure_B18 x24 I25 = some o22 := hz33
  unfold fm_S_measure_B18 at hf32
  refine lv_iload_n hx hb d_S_measure_18 rfl (lv_at hl31 2 rfl) ?_
  refine lv_bipush (v := 16) hx hb d_S_measure_19 (by decide) ?_
  refine lv_icmp_ge (tgt := 103) hx hb d_S_measure_21 rfl (fun h34 => ?_) (fun h34 => ?_)
  · have hf35 := ifp hf32 h34
    cases hf35
    have e37 := he21 (by show (1 : Nat) ≠ 0; decide)
    cases e37
    exact kx18_1 H26 L27 ls28 hP29 hS30 (lv_sub hl31 [] rfl)
  · have hf36 := ifn hf32 h34
    refine lv_iconst (v := 0) hx hb d_S_measure_24 (by decide) ?_
    refine lv_istore hx hb d_S_measure_25 hl31 (by decide) (lv' := [(4, .int (0 : Int32)), (0, .ref (ad 18)), (1, .ref (ad 0)), (3, .int x24)]) rfl (fun ls38 hl39 => ?_)
    obtain ⟨tg117, x118, I119, ho120, hf121⟩ := ob3_ex hf36
    have kx27_1 : ∀ (H122 : Heap) (L123 : List Loc) (ls124 : Array Slot), va_P D cls_all (wC ca ad hs I119 J0) H122 → va_S A s.heap H122 L123 → lv_has ls124 6 [(0, .ref (ad 18)), (1, .ref (ad 0)), (3, .int x24)] → W p l e R s m args below meth c H122 L123 0 0 Q (F0 m 97 ls124 []) := by
      intro H122 L123 ls124 hP125 hS126 hl127
      obtain ⟨x128, e129, hf130⟩ := bnd_ex hf121
      refine lv_iinc hx hb d_S_measure_97 hl127 (k := 2) rfl (v := x128) (by rw [e129]; rfl) (by decide) (lv' := [(3, .int x128), (0, .ref (ad 18)), (1, .ref (ad 0))]) rfl (fun ls131 hl132 => ?_)
      refine lv_goto (tgt := 18) hx hb d_S_measure_100 rfl ?_
      cases hf130
      exact hc20 rfl H122 L123 ls131 hP125 hS126 (lv_sub hl132 [1, 2, 0] rfl)
    refine iter_ind (C := fun z : Int32 × IS => ∀ (H46 : Heap) (L47 : List Loc) (ls48 : Array Slot), va_P D cls_all (wC ca ad hs z.2 J0) H46 → va_S A s.heap H46 L47 → lv_has ls48 6 [(0, .ref (ad 18)), (1, .ref (ad 0)), (3, .int x24), (4, .int z.1)] → W p l e R s m args below meth c H46 L47 0 0 Q (F0 m 27 ls48 [])) (fun z43 o42 hz53 hc40 he41 => ?_) _ _ ho120 H26 L27 ls38 hP29 hS30 (lv_sub hl39 [1, 2, 3, 0] rfl)
    obtain ⟨x44, I45⟩ := z43
    intro H46 L47 ls48 hP49 hS50 hl51
    have hf52 : fm_S_measure_B27 x24 x44 I45 = some o42 := hz53
    unfold fm_S_measure_B27 at hf52
    refine lv_iload hx hb d_S_measure_27 (lv_at hl51 3 rfl) ?_
    refine lv_aload_n hx hb d_S_measure_29 rfl (lv_at hl51 1 rfl) ?_
    refine va_get (D := D) (ci := 0) (v := .int (I45 6 0)) (C := R_H) (T := F_H) (N := 9) hx hb hts (fun w h => List.mem_cons_of_mem _ (uw_H w h)) hown hK hP49 0 rfl rfl 8 (by decide) (hts _ (List.mem_cons_of_mem _ tb_557)) (fun _ h => h) rfl d_S_measure_30 ?_
    refine lv_icmp_ge (tgt := 97) hx hb d_S_measure_33 rfl (fun h54 => ?_) (fun h54 => ?_)
    · have hf55 := ifp hf52 h54
      cases hf55
      have e57 := he41 (by show (1 : Nat) ≠ 0; decide)
      cases e57
      exact kx27_1 H46 L47 ls48 hP49 hS50 (lv_sub hl51 [0, 1, 2] rfl)
    · have hf56 := ifn hf52 h54
      refine lv_aload_n hx hb d_S_measure_36 rfl (lv_at hl51 1 rfl) ?_
      refine va_get (D := D) (ci := 0) (v := .ref (ad 1)) (C := R_H) (T := F_H) (N := 9) hx hb hts (fun w h => List.mem_cons_of_mem _ (uw_H w h)) hown hK hP49 0 rfl rfl 0 (by decide) (hts _ (List.mem_cons_of_mem _ tb_536)) (fun _ h => h) rfl d_S_measure_37 ?_
      refine lv_iload hx hb d_S_measure_40 (lv_at hl51 3 rfl) ?_
      obtain ⟨hg58, hf59⟩ := grd_ex hf56
      refine va_bald hx hb hK hP49 1 0 rfl rfl (inB_in hg58) d_S_measure_42 ?_
      obtain ⟨x60, e61, hf62⟩ := bnd_ex hf59
      refine jd_tni e61 ?_
      refine lv_istore hx hb d_S_measure_43 hl51 (by decide) (lv' := [(5, .int x60), (0, .ref (ad 18)), (1, .ref (ad 0)), (3, .int x24), (4, .int x44)]) rfl (fun ls63 hl64 => ?_)
      refine lv_aload_n hx hb d_S_measure_45 rfl (lv_at hl64 1 rfl) ?_
      refine va_get (D := D) (ci := 4) (v := .ref (ad 20)) (C := R_S) (T := F_S) (N := 3) hx hb hts (fun w h => List.mem_cons_of_mem _ (uw_S w h)) hown hK hP49 18 rfl rfl 2 (by decide) (hts _ (List.mem_cons_of_mem _ tb_75)) (fun _ h => h) rfl d_S_measure_46 ?_
      refine lv_aload_n hx hb d_S_measure_49 rfl (lv_at hl64 2 rfl) ?_
      refine va_get (D := D) (ci := 0) (v := .ref (ad 2)) (C := R_H) (T := F_H) (N := 9) hx hb hts (fun w h => List.mem_cons_of_mem _ (uw_H w h)) hown hK hP49 0 rfl rfl 1 (by decide) (hts _ (List.mem_cons_of_mem _ tb_538)) (fun _ h => h) rfl d_S_measure_50 ?_
      refine lv_iload hx hb d_S_measure_53 (lv_at hl64 4 rfl) ?_
      obtain ⟨hg65, hf66⟩ := grd_ex hf62
      refine va_bald hx hb hK hP49 2 0 rfl rfl (inB_in hg65) d_S_measure_55 ?_
      obtain ⟨hg67, hf68⟩ := grd_ex hf66
      refine va_iald hx hb hK hP49 20 2 rfl rfl (inB_in hg67) d_S_measure_56 ?_
      refine lv_iload_n hx hb d_S_measure_57 rfl (lv_at hl64 3 rfl) ?_
      refine lv_iconst (v := 1) hx hb d_S_measure_58 (by decide) ?_
      refine lv_isub hx hb d_S_measure_59 ?_
      refine lv_icmp_ne (tgt := 91) hx hb d_S_measure_60 rfl (fun h69 => ?_) (fun h69 => ?_)
      · have hf70 := ifn hf68 h69
        obtain ⟨x72, e73, hf74⟩ := bnd_ex hf70
        refine lv_iinc hx hb d_S_measure_91 hl64 (k := 4) rfl (v := x72) (by rw [e73]; rfl) (by decide) (lv' := [(4, .int x72), (5, .int x60), (0, .ref (ad 18)), (1, .ref (ad 0)), (3, .int x24)]) rfl (fun ls75 hl76 => ?_)
        refine lv_goto (tgt := 27) hx hb d_S_measure_94 rfl ?_
        cases hf74
        exact hc40 rfl H46 L47 ls75 hP49 hS50 (lv_sub hl76 [2, 3, 4, 0] rfl)
      · have hf71 := ifp hf68 h69
        refine lv_aload_n hx hb d_S_measure_63 rfl (lv_at hl64 1 rfl) ?_
        refine va_get (D := D) (ci := 4) (v := .ref (ad 20)) (C := R_S) (T := F_S) (N := 3) hx hb hts (fun w h => List.mem_cons_of_mem _ (uw_S w h)) hown hK hP49 18 rfl rfl 2 (by decide) (hts _ (List.mem_cons_of_mem _ tb_75)) (fun _ h => h) rfl d_S_measure_64 ?_
        refine lv_iload hx hb d_S_measure_67 (lv_at hl64 0 rfl) ?_
        obtain ⟨hg77, hf78⟩ := grd_ex hf71
        refine va_iald hx hb hK hP49 20 2 rfl rfl (inB_in hg77) d_S_measure_69 ?_
        refine lv_iload_n hx hb d_S_measure_70 rfl (lv_at hl64 3 rfl) ?_
        refine lv_icmp_le (tgt := 91) hx hb d_S_measure_71 rfl (fun h79 => ?_) (fun h79 => ?_)
        · have hf80 := ifp hf78 h79
          obtain ⟨x82, e83, hf84⟩ := bnd_ex hf80
          refine lv_iinc hx hb d_S_measure_91 hl64 (k := 4) rfl (v := x82) (by rw [e83]; rfl) (by decide) (lv' := [(4, .int x82), (5, .int x60), (0, .ref (ad 18)), (1, .ref (ad 0)), (3, .int x24)]) rfl (fun ls85 hl86 => ?_)
          refine lv_goto (tgt := 27) hx hb d_S_measure_94 rfl ?_
          cases hf84
          exact hc40 rfl H46 L47 ls85 hP49 hS50 (lv_sub hl86 [2, 3, 4, 0] rfl)
        · have hf81 := ifn hf78 h79
          refine lv_aload_n hx hb d_S_measure_74 rfl (lv_at hl64 2 rfl) ?_
          refine lv_iload hx hb d_S_measure_75 (lv_at hl64 4 rfl) ?_
          obtain ⟨x87, hc88, hf89⟩ := ob1_ex hf81
          refine jd_ci (va_runV (As := [.int x44]) (rest := []) cx (cm_H_inForce l D ca ad hs hc88 H46.size) (cwV 1 hts (jd_gV tb_146 tb_147 tb_148 tb_52 tb_149) rfl rfl rfl ⟨rfl, by decide, by decide, rfl⟩ (by rw [hR]; decide)) ⟨jd_blind nWc, (va_recv hK hP49 (ci := 0) (q0 := 0) rfl rfl), (jd_pre (av := [.ref (ad 0), .int x44]) hP49 hK (hD I45 J0) (fun U h => nWm h hN))⟩ rfl rfl hl64.1 rfl (lv_room (Nat.le_of_ble_eq_true rfl)) d_S_measure_77 ⟨Nat.zero_le _, Nat.zero_le _⟩) hS50 (hD I45 J0) hA (fun H90 L91 hP92 hS93 => ?_)
          refine lv_if_eq (tgt := 91) hx hb d_S_measure_80 rfl (fun h94 => ?_) (fun h94 => ?_)
          · have hf95 := ifp hf89 h94
            obtain ⟨x97, e98, hf99⟩ := bnd_ex hf95
            refine lv_iinc hx hb d_S_measure_91 hl64 (k := 4) rfl (v := x97) (by rw [e98]; rfl) (by decide) (lv' := [(4, .int x97), (5, .int x60), (0, .ref (ad 18)), (1, .ref (ad 0)), (3, .int x24)]) rfl (fun ls100 hl101 => ?_)
            refine lv_goto (tgt := 27) hx hb d_S_measure_94 rfl ?_
            cases hf99
            exact hc40 rfl H90 L91 ls100 hP92 hS93 (lv_sub hl101 [2, 3, 4, 0] rfl)
          · have hf96 := ifn hf89 h94
            refine lv_aload_n hx hb d_S_measure_83 rfl (lv_at hl64 1 rfl) ?_
            refine va_get (D := D) (ci := 4) (v := .ref (ad 20)) (C := R_S) (T := F_S) (N := 3) hx hb hts (fun w h => List.mem_cons_of_mem _ (uw_S w h)) hown hK hP92 18 rfl rfl 2 (by decide) (hts _ (List.mem_cons_of_mem _ tb_75)) (fun _ h => h) rfl d_S_measure_84 ?_
            refine lv_iload hx hb d_S_measure_87 (lv_at hl64 0 rfl) ?_
            refine lv_iload_n hx hb d_S_measure_89 rfl (lv_at hl64 3 rfl) ?_
            obtain ⟨hg102, hf103⟩ := grd_ex hf96
            obtain ⟨I104, e105, hf106⟩ := bnd_ex hf103
            refine va_iast hx hb hK hP92 (hD I45 J0) hS93 20 2 rfl rfl (inB_in hg102) d_S_measure_90 (fun H107 L108 hp111 _ hS110 => ?_)
            have hP109 : va_P D cls_all (wC ca ad hs I104 J0) H107 := by rw [e105]; exact hp111
            obtain ⟨x112, e113, hf114⟩ := bnd_ex hf106
            refine lv_iinc hx hb d_S_measure_91 hl64 (k := 4) rfl (v := x112) (by rw [e113]; rfl) (by decide) (lv' := [(4, .int x112), (5, .int x60), (0, .ref (ad 18)), (1, .ref (ad 0)), (3, .int x24)]) rfl (fun ls115 hl116 => ?_)
            refine lv_goto (tgt := 27) hx hb d_S_measure_94 rfl ?_
            cases hf114
            exact hc40 rfl H107 L108 ls115 hP109 hS110 (lv_sub hl116 [2, 3, 4, 0] rfl)
theorem d_S_leastToward_0 : decode b_S_leastToward 0 = .ok (.iconst 0, 1) := by decide +kernel
theorem d_S_leastToward_1 : decode b_S_leastToward 1 = .ok (.istore 4, 2) := by decide +kernel
theorem d_S_leastToward_3 : decode b_S_leastToward 3 = .ok (.iload 4, 2) := by decide +kernel
theorem d_S_leastToward_5 : decode b_S_leastToward 5 = .ok (.aload_n 1, 1) := by decide +kernel
theorem d_S_leastToward_6 : decode b_S_leastToward 6 = .ok (.getfield 42, 3) := by decide +kernel
theorem d_S_leastToward_9 : decode b_S_leastToward 9 = .ok (.if_icmp .ge 48, 3) := by decide +kernel
theorem d_S_leastToward_12 : decode b_S_leastToward 12 = .ok (.aload_n 1, 1) := by decide +kernel
theorem d_S_leastToward_13 : decode b_S_leastToward 13 = .ok (.getfield 45, 3) := by decide +kernel
theorem d_S_leastToward_16 : decode b_S_leastToward 16 = .ok (.iload 4, 2) := by decide +kernel
theorem d_S_leastToward_18 : decode b_S_leastToward 18 = .ok (.baload, 1) := by decide +kernel
theorem d_S_leastToward_19 : decode b_S_leastToward 19 = .ok (.iload_n 2, 1) := by decide +kernel
theorem d_S_leastToward_20 : decode b_S_leastToward 20 = .ok (.if_icmp .ne 31, 3) := by decide +kernel
theorem d_S_leastToward_23 : decode b_S_leastToward 23 = .ok (.aload_n 0, 1) := by decide +kernel
theorem d_S_leastToward_24 : decode b_S_leastToward 24 = .ok (.getfield 15, 3) := by decide +kernel
theorem d_S_leastToward_27 : decode b_S_leastToward 27 = .ok (.aload_n 1, 1) := by decide +kernel
theorem d_S_leastToward_28 : decode b_S_leastToward 28 = .ok (.getfield 30, 3) := by decide +kernel
theorem d_S_leastToward_31 : decode b_S_leastToward 31 = .ok (.iload 4, 2) := by decide +kernel
theorem d_S_leastToward_33 : decode b_S_leastToward 33 = .ok (.baload, 1) := by decide +kernel
theorem d_S_leastToward_34 : decode b_S_leastToward 34 = .ok (.iaload, 1) := by decide +kernel
theorem d_S_leastToward_35 : decode b_S_leastToward 35 = .ok (.iload_n 3, 1) := by decide +kernel
theorem d_S_leastToward_36 : decode b_S_leastToward 36 = .ok (.if_icmp .ne 15, 3) := by decide +kernel
theorem d_S_leastToward_39 : decode b_S_leastToward 39 = .ok (.aload_n 1, 1) := by decide +kernel
theorem d_S_leastToward_40 : decode b_S_leastToward 40 = .ok (.iload 4, 2) := by decide +kernel
theorem d_S_leastToward_42 : decode b_S_leastToward 42 = .ok (.invokevirtual 48, 3) := by decide +kernel
theorem d_S_leastToward_45 : decode b_S_leastToward 45 = .ok (.ifCond .eq 6, 3) := by decide +kernel
theorem d_S_leastToward_48 : decode b_S_leastToward 48 = .ok (.iload 4, 2) := by decide +kernel
theorem d_S_leastToward_50 : decode b_S_leastToward 50 = .ok (.ireturn, 1) := by decide +kernel
theorem d_S_leastToward_51 : decode b_S_leastToward 51 = .ok (.iinc 4 1, 3) := by decide +kernel
theorem d_S_leastToward_54 : decode b_S_leastToward 54 = .ok (.goto (-51), 3) := by decide +kernel
theorem d_S_leastToward_57 : decode b_S_leastToward 57 = .ok (.iconst (-1), 1) := by decide +kernel
theorem d_S_leastToward_58 : decode b_S_leastToward 58 = .ok (.ireturn, 1) := by decide +kernel
def fm_S_leastToward_B3 (p1 : Int32) (p2 : Int32) (I0 : IS) (x7 : Int32) : Option (Nat × Int32) :=
  if (I0 6 0) ≤ x7 then some (1, x7) else grd (inB x7 400) (if (I0 0 x7.toNatClampNeg) = p1 then grd (inB x7 400) (grd (inB (I0 1 x7.toNatClampNeg) 16) (if (I0 20 (I0 1 x7.toNatClampNeg).toNatClampNeg) = p2 then ob1 (fm_H_inForce x7 I0) (fun x42 => if x42 = 0 then bnd (x7 + (1 : Int32)) (fun x52 => some (0, x52)) else some (2, x7)) else bnd (x7 + (1 : Int32)) (fun x37 => some (0, x37)))) else bnd (x7 + (1 : Int32)) (fun x25 => some (0, x25)))
def fm_S_leastToward (p1 : Int32) (p2 : Int32) (I0 : IS) : Option (Int32) :=
  ob2 (iter (fun z : Int32 => fm_S_leastToward_B3 p1 p2 I0 z) FU (0 : Int32)) (fun tg58 x59 => if tg58 = 1 then some (-1 : Int32) else some x59)
set_option maxHeartbeats 4000000 in
set_option maxRecDepth 100000 in
theorem cm_S_leastToward (l : Launch) (D : va_G) (ca : Nat → ClassId) (ad : Nat → Nat) (hs : Nat → Option Nat) {p1 : Int32} {p2 : Int32} {I0 : IS} {J0 : JS} {r : Int32} (hf : fm_S_leastToward p1 p2 I0 = some r) : CtI l y_S_leastToward (Cond.code y_S_leastToward b_S_leastToward 5 (some .int) :: TB) { frames := 2, cells := 0, slots := 0, locals := 42 } [.ref (ad 18), .ref (ad 0), .int p1, .int p2] D cls_all (tysC ca) NN (wC ca ad hs I0 J0) (wC ca ad hs I0 J0) r := by
  refine jd_metI (cc := b_S_leastToward) (by decide) rfl (Nat.le_of_ble_eq_true rfl) (lv := [(0, .ref (ad 18)), (1, .ref (ad 0)), (2, .int p1), (3, .int p2)]) rfl ?_
  intro p e R s m args below meth c A Q ls cx hR hK hN hD0 hA hP hS hl hend
  have hx := cx.1
  have hb := cx.2.1
  have hml := cx.2.2.1
  have hown := cx.2.2.2.1
  have hts := cx.2.2.2.2
  have hD : ∀ I J, va_D A (wC ca ad hs I J) := fun I J => jd_Dc hD0 rfl
  unfold fm_S_leastToward at hf
  refine lv_iconst (v := 0) hx hb d_S_leastToward_0 (by decide) ?_
  refine lv_istore hx hb d_S_leastToward_1 hl (by decide) (lv' := [(4, .int (0 : Int32)), (0, .ref (ad 18)), (1, .ref (ad 0)), (2, .int p1), (3, .int p2)]) rfl (fun ls1 hl2 => ?_)
  obtain ⟨tg58, x59, ho60, hf61⟩ := ob2_ex hf
  have kx3_1 : tg58 = 1 → ∀ (H62 : Heap) (L63 : List Loc) (ls64 : Array Slot), va_P D cls_all (wC ca ad hs I0 J0) H62 → va_S A s.heap H62 L63 → lv_has ls64 5 [] → W p l e R s m args below meth c H62 L63 0 0 Q (F0 m 57 ls64 []) := by
    intro ht69 H62 L63 ls64 hP65 hS66 hl67
    have hf68 := ifp hf61 ht69
    refine lv_iconst (v := -1) hx hb d_S_leastToward_57 (by decide) ?_
    cases hf68
    exact hend H62 L63 58 ls64 hP65 hS66 d_S_leastToward_58
  have kx3_2 : tg58 = 2 → ∀ (H70 : Heap) (L71 : List Loc) (ls72 : Array Slot), va_P D cls_all (wC ca ad hs I0 J0) H70 → va_S A s.heap H70 L71 → lv_has ls72 5 [(4, .int x59)] → W p l e R s m args below meth c H70 L71 0 0 Q (F0 m 48 ls72 []) := by
    intro ht77 H70 L71 ls72 hP73 hS74 hl75
    have hf78 := ifn hf61 (by rw [ht77]; decide)
    have hf76 := hf78
    refine lv_iload hx hb d_S_leastToward_48 (lv_at hl75 0 rfl) ?_
    cases hf76
    exact hend H70 L71 50 ls72 hP73 hS74 d_S_leastToward_50
  refine iter_ind (C := fun z : Int32 => ∀ (H8 : Heap) (L9 : List Loc) (ls10 : Array Slot), va_P D cls_all (wC ca ad hs I0 J0) H8 → va_S A s.heap H8 L9 → lv_has ls10 5 [(0, .ref (ad 18)), (1, .ref (ad 0)), (2, .int p1), (3, .int p2), (4, .int z)] → W p l e R s m args below meth c H8 L9 0 0 Q (F0 m 3 ls10 [])) (fun x7 o5 hz15 hc3 he4 => ?_) _ _ ho60 s.heap [] ls1 hP hS (lv_sub hl2 [1, 2, 3, 4, 0] rfl)
  intro H8 L9 ls10 hP11 hS12 hl13
  have hf14 : fm_S_leastToward_B3 p1 p2 I0 x7 = some o5 := hz15
  unfold fm_S_leastToward_B3 at hf14
  refine lv_iload hx hb d_S_leastToward_3 (lv_at hl13 4 rfl) ?_
  refine lv_aload_n hx hb d_S_leastToward_5 rfl (lv_at hl13 1 rfl) ?_
  refine va_get (D := D) (ci := 0) (v := .int (I0 6 0)) (C := R_H) (T := F_H) (N := 9) hx hb hts (fun w h => List.mem_cons_of_mem _ (uw_H w h)) hown hK hP11 0 rfl rfl 8 (by decide) (hts _ (List.mem_cons_of_mem _ tb_557)) (fun _ h => h) rfl d_S_leastToward_6 ?_
  refine lv_icmp_ge (tgt := 57) hx hb d_S_leastToward_9 rfl (fun h16 => ?_) (fun h16 => ?_)
  · have hf17 := ifp hf14 h16
    cases hf17
    have e19 := he4 (by show (1 : Nat) ≠ 0; decide)
    cases e19
    exact kx3_1 rfl H8 L9 ls10 hP11 hS12 (lv_sub hl13 [] rfl)
  · have hf18 := ifn hf14 h16
    refine lv_aload_n hx hb d_S_leastToward_12 rfl (lv_at hl13 1 rfl) ?_
    refine va_get (D := D) (ci := 0) (v := .ref (ad 1)) (C := R_H) (T := F_H) (N := 9) hx hb hts (fun w h => List.mem_cons_of_mem _ (uw_H w h)) hown hK hP11 0 rfl rfl 0 (by decide) (hts _ (List.mem_cons_of_mem _ tb_536)) (fun _ h => h) rfl d_S_leastToward_13 ?_
    refine lv_iload hx hb d_S_leastToward_16 (lv_at hl13 4 rfl) ?_
    obtain ⟨hg20, hf21⟩ := grd_ex hf18
    refine va_bald hx hb hK hP11 1 0 rfl rfl (inB_in hg20) d_S_leastToward_18 ?_
    refine lv_iload_n hx hb d_S_leastToward_19 rfl (lv_at hl13 2 rfl) ?_
    refine lv_icmp_ne (tgt := 51) hx hb d_S_leastToward_20 rfl (fun h22 => ?_) (fun h22 => ?_)
    · have hf23 := ifn hf21 h22
      obtain ⟨x25, e26, hf27⟩ := bnd_ex hf23
      refine lv_iinc hx hb d_S_leastToward_51 hl13 (k := 4) rfl (v := x25) (by rw [e26]; rfl) (by decide) (lv' := [(4, .int x25), (0, .ref (ad 18)), (1, .ref (ad 0)), (2, .int p1), (3, .int p2)]) rfl (fun ls28 hl29 => ?_)
      refine lv_goto (tgt := 3) hx hb d_S_leastToward_54 rfl ?_
      cases hf27
      exact hc3 rfl H8 L9 ls28 hP11 hS12 (lv_sub hl29 [1, 2, 3, 4, 0] rfl)
    · have hf24 := ifp hf21 h22
      refine lv_aload_n hx hb d_S_leastToward_23 rfl (lv_at hl13 0 rfl) ?_
      refine va_get (D := D) (ci := 4) (v := .ref (ad 20)) (C := R_S) (T := F_S) (N := 3) hx hb hts (fun w h => List.mem_cons_of_mem _ (uw_S w h)) hown hK hP11 18 rfl rfl 2 (by decide) (hts _ (List.mem_cons_of_mem _ tb_75)) (fun _ h => h) rfl d_S_leastToward_24 ?_
      refine lv_aload_n hx hb d_S_leastToward_27 rfl (lv_at hl13 1 rfl) ?_
      refine va_get (D := D) (ci := 0) (v := .ref (ad 2)) (C := R_H) (T := F_H) (N := 9) hx hb hts (fun w h => List.mem_cons_of_mem _ (uw_H w h)) hown hK hP11 0 rfl rfl 1 (by decide) (hts _ (List.mem_cons_of_mem _ tb_538)) (fun _ h => h) rfl d_S_leastToward_28 ?_
      refine lv_iload hx hb d_S_leastToward_31 (lv_at hl13 4 rfl) ?_
      obtain ⟨hg30, hf31⟩ := grd_ex hf24
      refine va_bald hx hb hK hP11 2 0 rfl rfl (inB_in hg30) d_S_leastToward_33 ?_
      obtain ⟨hg32, hf33⟩ := grd_ex hf31
      refine va_iald hx hb hK hP11 20 2 rfl rfl (inB_in hg32) d_S_leastToward_34 ?_
      refine lv_iload_n hx hb d_S_leastToward_35 rfl (lv_at hl13 3 rfl) ?_
      refine lv_icmp_ne (tgt := 51) hx hb d_S_leastToward_36 rfl (fun h34 => ?_) (fun h34 => ?_)
      · have hf35 := ifn hf33 h34
        obtain ⟨x37, e38, hf39⟩ := bnd_ex hf35
        refine lv_iinc hx hb d_S_leastToward_51 hl13 (k := 4) rfl (v := x37) (by rw [e38]; rfl) (by decide) (lv' := [(4, .int x37), (0, .ref (ad 18)), (1, .ref (ad 0)), (2, .int p1), (3, .int p2)]) rfl (fun ls40 hl41 => ?_)
        refine lv_goto (tgt := 3) hx hb d_S_leastToward_54 rfl ?_
        cases hf39
        exact hc3 rfl H8 L9 ls40 hP11 hS12 (lv_sub hl41 [1, 2, 3, 4, 0] rfl)
      · have hf36 := ifp hf33 h34
        refine lv_aload_n hx hb d_S_leastToward_39 rfl (lv_at hl13 1 rfl) ?_
        refine lv_iload hx hb d_S_leastToward_40 (lv_at hl13 4 rfl) ?_
        obtain ⟨x42, hc43, hf44⟩ := ob1_ex hf36
        refine jd_ci (va_runV (As := [.int x7]) (rest := []) cx (cm_H_inForce l D ca ad hs hc43 H8.size) (cwV 1 hts (jd_gV tb_146 tb_147 tb_148 tb_52 tb_149) rfl rfl rfl ⟨rfl, by decide, by decide, rfl⟩ (by rw [hR]; decide)) ⟨jd_blind nWc, (va_recv hK hP11 (ci := 0) (q0 := 0) rfl rfl), (jd_pre (av := [.ref (ad 0), .int x7]) hP11 hK (hD I0 J0) (fun U h => nWm h hN))⟩ rfl rfl hl13.1 rfl (lv_room (Nat.le_of_ble_eq_true rfl)) d_S_leastToward_42 ⟨Nat.zero_le _, Nat.zero_le _⟩) hS12 (hD I0 J0) hA (fun H45 L46 hP47 hS48 => ?_)
        refine lv_if_eq (tgt := 51) hx hb d_S_leastToward_45 rfl (fun h49 => ?_) (fun h49 => ?_)
        · have hf50 := ifp hf44 h49
          obtain ⟨x52, e53, hf54⟩ := bnd_ex hf50
          refine lv_iinc hx hb d_S_leastToward_51 hl13 (k := 4) rfl (v := x52) (by rw [e53]; rfl) (by decide) (lv' := [(4, .int x52), (0, .ref (ad 18)), (1, .ref (ad 0)), (2, .int p1), (3, .int p2)]) rfl (fun ls55 hl56 => ?_)
          refine lv_goto (tgt := 3) hx hb d_S_leastToward_54 rfl ?_
          cases hf54
          exact hc3 rfl H45 L46 ls55 hP47 hS48 (lv_sub hl56 [1, 2, 3, 4, 0] rfl)
        · have hf51 := ifn hf44 h49
          cases hf51
          have e57 := he4 (by show (2 : Nat) ≠ 0; decide)
          cases e57
          exact kx3_2 rfl H45 L46 ls10 hP47 hS48 (lv_sub hl13 [4] rfl)
theorem d_S_trace_0 : decode b_S_trace 0 = .ok (.aload_n 0, 1) := by decide +kernel
theorem d_S_trace_1 : decode b_S_trace 1 = .ok (.aload_n 1, 1) := by decide +kernel
theorem d_S_trace_2 : decode b_S_trace 2 = .ok (.iload_n 3, 1) := by decide +kernel
theorem d_S_trace_3 : decode b_S_trace 3 = .ok (.invokevirtual 18, 3) := by decide +kernel
theorem d_S_trace_6 : decode b_S_trace 6 = .ok (.aload_n 0, 1) := by decide +kernel
theorem d_S_trace_7 : decode b_S_trace 7 = .ok (.iconst 0, 1) := by decide +kernel
theorem d_S_trace_8 : decode b_S_trace 8 = .ok (.putfield 22, 3) := by decide +kernel
theorem d_S_trace_11 : decode b_S_trace 11 = .ok (.iload_n 2, 1) := by decide +kernel
theorem d_S_trace_12 : decode b_S_trace 12 = .ok (.istore 4, 2) := by decide +kernel
theorem d_S_trace_14 : decode b_S_trace 14 = .ok (.aload_n 0, 1) := by decide +kernel
theorem d_S_trace_15 : decode b_S_trace 15 = .ok (.getfield 15, 3) := by decide +kernel
theorem d_S_trace_18 : decode b_S_trace 18 = .ok (.iload_n 2, 1) := by decide +kernel
theorem d_S_trace_19 : decode b_S_trace 19 = .ok (.iaload, 1) := by decide +kernel
theorem d_S_trace_20 : decode b_S_trace 20 = .ok (.iconst 1, 1) := by decide +kernel
theorem d_S_trace_21 : decode b_S_trace 21 = .ok (.isub, 1) := by decide +kernel
theorem d_S_trace_22 : decode b_S_trace 22 = .ok (.istore 5, 2) := by decide +kernel
theorem d_S_trace_24 : decode b_S_trace 24 = .ok (.iload 5, 2) := by decide +kernel
theorem d_S_trace_26 : decode b_S_trace 26 = .ok (.ifCond .lt 59, 3) := by decide +kernel
theorem d_S_trace_29 : decode b_S_trace 29 = .ok (.aload_n 0, 1) := by decide +kernel
theorem d_S_trace_30 : decode b_S_trace 30 = .ok (.aload_n 1, 1) := by decide +kernel
theorem d_S_trace_31 : decode b_S_trace 31 = .ok (.iload 4, 2) := by decide +kernel
theorem d_S_trace_33 : decode b_S_trace 33 = .ok (.iload 5, 2) := by decide +kernel
theorem d_S_trace_35 : decode b_S_trace 35 = .ok (.invokevirtual 26, 3) := by decide +kernel
theorem d_S_trace_38 : decode b_S_trace 38 = .ok (.istore 6, 2) := by decide +kernel
theorem d_S_trace_40 : decode b_S_trace 40 = .ok (.iload 6, 2) := by decide +kernel
theorem d_S_trace_42 : decode b_S_trace 42 = .ok (.iconst (-1), 1) := by decide +kernel
theorem d_S_trace_43 : decode b_S_trace 43 = .ok (.if_icmp .ne 4, 3) := by decide +kernel
theorem d_S_trace_46 : decode b_S_trace 46 = .ok (.return_, 1) := by decide +kernel
theorem d_S_trace_47 : decode b_S_trace 47 = .ok (.aload_n 0, 1) := by decide +kernel
theorem d_S_trace_48 : decode b_S_trace 48 = .ok (.getfield 9, 3) := by decide +kernel
theorem d_S_trace_51 : decode b_S_trace 51 = .ok (.aload_n 0, 1) := by decide +kernel
theorem d_S_trace_52 : decode b_S_trace 52 = .ok (.getfield 22, 3) := by decide +kernel
theorem d_S_trace_55 : decode b_S_trace 55 = .ok (.iload 6, 2) := by decide +kernel
theorem d_S_trace_57 : decode b_S_trace 57 = .ok (.iconst 1, 1) := by decide +kernel
theorem d_S_trace_58 : decode b_S_trace 58 = .ok (.iadd, 1) := by decide +kernel
theorem d_S_trace_59 : decode b_S_trace 59 = .ok (.iastore, 1) := by decide +kernel
theorem d_S_trace_60 : decode b_S_trace 60 = .ok (.aload_n 0, 1) := by decide +kernel
theorem d_S_trace_61 : decode b_S_trace 61 = .ok (.dup, 1) := by decide +kernel
theorem d_S_trace_62 : decode b_S_trace 62 = .ok (.getfield 22, 3) := by decide +kernel
theorem d_S_trace_65 : decode b_S_trace 65 = .ok (.iconst 1, 1) := by decide +kernel
theorem d_S_trace_66 : decode b_S_trace 66 = .ok (.iadd, 1) := by decide +kernel
theorem d_S_trace_67 : decode b_S_trace 67 = .ok (.putfield 22, 3) := by decide +kernel
theorem d_S_trace_70 : decode b_S_trace 70 = .ok (.aload_n 1, 1) := by decide +kernel
theorem d_S_trace_71 : decode b_S_trace 71 = .ok (.getfield 30, 3) := by decide +kernel
theorem d_S_trace_74 : decode b_S_trace 74 = .ok (.iload 6, 2) := by decide +kernel
theorem d_S_trace_76 : decode b_S_trace 76 = .ok (.baload, 1) := by decide +kernel
theorem d_S_trace_77 : decode b_S_trace 77 = .ok (.istore 4, 2) := by decide +kernel
theorem d_S_trace_79 : decode b_S_trace 79 = .ok (.iinc 5 (-1), 3) := by decide +kernel
theorem d_S_trace_82 : decode b_S_trace 82 = .ok (.goto (-58), 3) := by decide +kernel
theorem d_S_trace_85 : decode b_S_trace 85 = .ok (.return_, 1) := by decide +kernel
def fm_S_trace_B24  (x29 : Int32) (x30 : Int32) (I31 : IS) : Option (Nat × Int32 × Int32 × IS) :=
  if x30 < 0 then some (1, x29, x30, I31) else ob1 (fm_S_leastToward x29 x30 I31) (fun x44 => if x44 = (-1 : Int32) then some (2, x29, x30, I31) else grd (inB (I31 19 0) 16) (bnd (sI I31 18 (I31 19 0).toNatClampNeg (x44 + (1 : Int32))) (fun I58 => bnd (sV I58 19 ((I58 19 0) + (1 : Int32))) (fun I66 => grd (inB x44 400) (bnd (I66 1 x44.toNatClampNeg) (fun x76 => bnd (x30 + (-1 : Int32)) (fun x81 => some (0, x76, x81, I66))))))))
def fm_S_trace (p1 : Int32) (p2 : Int32) (I0 : IS) : Option (IS) :=
  ob1 (fm_S_measure p2 I0) (fun I1 => bnd (sV I1 19 (0 : Int32)) (fun I8 => grd (inB p1 16) (bnd ((I8 20 p1.toNatClampNeg) - (1 : Int32)) (fun x20 => ob4 (iter (fun z : Int32 × Int32 × IS => fm_S_trace_B24 z.1 z.2.1 z.2.2) FU (p1, x20, I8)) (fun tg87 x88 x89 I90 => if tg87 = 1 then some I90 else some I90)))))
set_option maxHeartbeats 4000000 in
set_option maxRecDepth 100000 in
theorem cm_S_trace (l : Launch) (D : va_G) (ca : Nat → ClassId) (ad : Nat → Nat) (hs : Nat → Option Nat) {p1 : Int32} {p2 : Int32} {I0 : IS} {J0 : JS} {r : IS} (hf : fm_S_trace p1 p2 I0 = some r) : CtV l y_S_trace (Cond.code y_S_trace b_S_trace 7 none :: TB) { frames := 3, cells := 0, slots := 0, locals := 67 } [.ref (ad 18), .ref (ad 0), .int p1, .int p2] D cls_all (tysC ca) NN (wC ca ad hs I0 J0) (wC ca ad hs r J0) := by
  refine jd_metV (cc := b_S_trace) (by decide) rfl (Nat.le_of_ble_eq_true rfl) (lv := [(0, .ref (ad 18)), (1, .ref (ad 0)), (2, .int p1), (3, .int p2)]) rfl ?_
  intro p e R s m args below meth c A Q ls cx hR hK hN hD0 hA hP hS hl hend
  have hx := cx.1
  have hb := cx.2.1
  have hml := cx.2.2.1
  have hown := cx.2.2.2.1
  have hts := cx.2.2.2.2
  have hD : ∀ I J, va_D A (wC ca ad hs I J) := fun I J => jd_Dc hD0 rfl
  unfold fm_S_trace at hf
  refine lv_aload_n hx hb d_S_trace_0 rfl (lv_at hl 0 rfl) ?_
  refine lv_aload_n hx hb d_S_trace_1 rfl (lv_at hl 1 rfl) ?_
  refine lv_iload_n hx hb d_S_trace_2 rfl (lv_at hl 3 rfl) ?_
  obtain ⟨I1, hc2, hf3⟩ := ob1_ex hf
  refine jd_cv (va_runV (As := [.ref (ad 0), .int p2]) (rest := []) cx (cm_S_measure l D ca ad hs hc2 s.heap.size) (cwV 2 hts (jd_gV tb_142 tb_143 tb_1 tb_44 tb_144) rfl rfl rfl ⟨rfl, by decide, by decide, rfl⟩ (by rw [hR]; decide)) ⟨jd_blind nWc, (va_recv hK hP (ci := 4) (q0 := 18) rfl rfl), (jd_pre (av := [.ref (ad 18), .ref (ad 0), .int p2]) hP hK (hD I0 J0) (fun U h => nWm h hN))⟩ rfl rfl hl.1 rfl (lv_room (Nat.le_of_ble_eq_true rfl)) d_S_trace_3 ⟨Nat.zero_le _, Nat.zero_le _⟩) hS (hD I0 J0) hA (fun H4 L5 hP6 hS7 => ?_)
  refine lv_aload_n hx hb d_S_trace_6 rfl (lv_at hl 0 rfl) ?_
  refine lv_iconst (v := 0) hx hb d_S_trace_7 (by decide) ?_
  obtain ⟨I8, e9, hf10⟩ := bnd_ex hf3
  refine va_put (D := D) (ci := 4) (v := .int (0 : Int32)) (ty := .int) (C := R_S) (T := F_S) (N := 3) hx hb hts (fun w h => List.mem_cons_of_mem _ (uw_S w h)) ft_S tk_S n_S hown hK hP6 (hD I1 J0) hS7 18 rfl rfl 1 (by decide) (hts _ (List.mem_cons_of_mem _ tb_73)) (fun _ h => h) rfl (by decide +kernel) rfl rfl (Nat.le_of_ble_eq_true rfl) d_S_trace_8 (fun H11 L12 hp15 _ hS14 => ?_)
  have hP13 : va_P D cls_all (wC ca ad hs I8 J0) H11 := by rw [e9]; exact hp15
  refine lv_iload_n hx hb d_S_trace_11 rfl (lv_at hl 2 rfl) ?_
  refine lv_istore hx hb d_S_trace_12 hl (by decide) (lv' := [(4, .int p1), (0, .ref (ad 18)), (1, .ref (ad 0)), (2, .int p1), (3, .int p2)]) rfl (fun ls16 hl17 => ?_)
  refine lv_aload_n hx hb d_S_trace_14 rfl (lv_at hl17 1 rfl) ?_
  refine va_get (D := D) (ci := 4) (v := .ref (ad 20)) (C := R_S) (T := F_S) (N := 3) hx hb hts (fun w h => List.mem_cons_of_mem _ (uw_S w h)) hown hK hP13 18 rfl rfl 2 (by decide) (hts _ (List.mem_cons_of_mem _ tb_75)) (fun _ h => h) rfl d_S_trace_15 ?_
  refine lv_iload_n hx hb d_S_trace_18 rfl (lv_at hl17 3 rfl) ?_
  obtain ⟨hg18, hf19⟩ := grd_ex hf10
  refine va_iald hx hb hK hP13 20 2 rfl rfl (inB_in hg18) d_S_trace_19 ?_
  refine lv_iconst (v := 1) hx hb d_S_trace_20 (by decide) ?_
  refine lv_isub hx hb d_S_trace_21 ?_
  obtain ⟨x20, e21, hf22⟩ := bnd_ex hf19
  refine jd_tni e21 ?_
  refine lv_istore hx hb d_S_trace_22 hl17 (by decide) (lv' := [(5, .int x20), (4, .int p1), (0, .ref (ad 18)), (1, .ref (ad 0)), (2, .int p1), (3, .int p2)]) rfl (fun ls23 hl24 => ?_)
  obtain ⟨tg87, x88, x89, I90, ho91, hf92⟩ := ob4_ex hf22
  have kx24_1 : tg87 = 1 → ∀ (H93 : Heap) (L94 : List Loc) (ls95 : Array Slot), va_P D cls_all (wC ca ad hs I90 J0) H93 → va_S A s.heap H93 L94 → lv_has ls95 7 [] → W p l e R s m args below meth c H93 L94 0 0 Q (F0 m 85 ls95 []) := by
    intro ht100 H93 L94 ls95 hP96 hS97 hl98
    have hf99 := ifp hf92 ht100
    cases hf99
    exact hend H93 L94 85 ls95 hP96 hS97 d_S_trace_85
  have kx24_2 : tg87 = 2 → ∀ (H101 : Heap) (L102 : List Loc) (ls103 : Array Slot), va_P D cls_all (wC ca ad hs I90 J0) H101 → va_S A s.heap H101 L102 → lv_has ls103 7 [] → W p l e R s m args below meth c H101 L102 0 0 Q (F0 m 46 ls103 []) := by
    intro ht108 H101 L102 ls103 hP104 hS105 hl106
    have hf109 := ifn hf92 (by rw [ht108]; decide)
    have hf107 := hf109
    cases hf107
    exact hend H101 L102 46 ls103 hP104 hS105 d_S_trace_46
  refine iter_ind (C := fun z : Int32 × Int32 × IS => ∀ (H32 : Heap) (L33 : List Loc) (ls34 : Array Slot), va_P D cls_all (wC ca ad hs z.2.2 J0) H32 → va_S A s.heap H32 L33 → lv_has ls34 7 [(0, .ref (ad 18)), (1, .ref (ad 0)), (4, .int z.1), (5, .int z.2.1)] → W p l e R s m args below meth c H32 L33 0 0 Q (F0 m 24 ls34 [])) (fun z28 o27 hz39 hc25 he26 => ?_) _ _ ho91 H11 L12 ls23 hP13 hS14 (lv_sub hl24 [2, 3, 1, 0] rfl)
  obtain ⟨x29, x30, I31⟩ := z28
  intro H32 L33 ls34 hP35 hS36 hl37
  have hf38 : fm_S_trace_B24 x29 x30 I31 = some o27 := hz39
  unfold fm_S_trace_B24 at hf38
  refine lv_iload hx hb d_S_trace_24 (lv_at hl37 3 rfl) ?_
  refine lv_if_lt (tgt := 85) hx hb d_S_trace_26 rfl (fun h40 => ?_) (fun h40 => ?_)
  · have hf41 := ifp hf38 h40
    cases hf41
    have e43 := he26 (by show (1 : Nat) ≠ 0; decide)
    cases e43
    exact kx24_1 rfl H32 L33 ls34 hP35 hS36 (lv_sub hl37 [] rfl)
  · have hf42 := ifn hf38 h40
    refine lv_aload_n hx hb d_S_trace_29 rfl (lv_at hl37 0 rfl) ?_
    refine lv_aload_n hx hb d_S_trace_30 rfl (lv_at hl37 1 rfl) ?_
    refine lv_iload hx hb d_S_trace_31 (lv_at hl37 2 rfl) ?_
    refine lv_iload hx hb d_S_trace_33 (lv_at hl37 3 rfl) ?_
    obtain ⟨x44, hc45, hf46⟩ := ob1_ex hf42
    refine jd_ci (va_runV (As := [.ref (ad 0), .int x29, .int x30]) (rest := []) cx (cm_S_leastToward l D ca ad hs hc45 H32.size) (cwV 3 hts (jd_gV tb_150 tb_151 tb_2 tb_44 tb_152) rfl rfl rfl ⟨rfl, by decide, by decide, rfl⟩ (by rw [hR]; decide)) ⟨jd_blind nWc, (va_recv hK hP35 (ci := 4) (q0 := 18) rfl rfl), (jd_pre (av := [.ref (ad 18), .ref (ad 0), .int x29, .int x30]) hP35 hK (hD I31 J0) (fun U h => nWm h hN))⟩ rfl rfl hl37.1 rfl (lv_room (Nat.le_of_ble_eq_true rfl)) d_S_trace_35 ⟨Nat.zero_le _, Nat.zero_le _⟩) hS36 (hD I31 J0) hA (fun H47 L48 hP49 hS50 => ?_)
    refine lv_istore hx hb d_S_trace_38 hl37 (by decide) (lv' := [(6, .int x44), (0, .ref (ad 18)), (1, .ref (ad 0)), (4, .int x29), (5, .int x30)]) rfl (fun ls51 hl52 => ?_)
    refine lv_iload hx hb d_S_trace_40 (lv_at hl52 0 rfl) ?_
    refine lv_iconst (v := -1) hx hb d_S_trace_42 (by decide) ?_
    refine lv_icmp_ne (tgt := 47) hx hb d_S_trace_43 rfl (fun h53 => ?_) (fun h53 => ?_)
    · have hf54 := ifn hf46 h53
      refine lv_aload_n hx hb d_S_trace_47 rfl (lv_at hl52 1 rfl) ?_
      refine va_get (D := D) (ci := 4) (v := .ref (ad 19)) (C := R_S) (T := F_S) (N := 3) hx hb hts (fun w h => List.mem_cons_of_mem _ (uw_S w h)) hown hK hP49 18 rfl rfl 0 (by decide) (hts _ (List.mem_cons_of_mem _ tb_71)) (fun _ h => h) rfl d_S_trace_48 ?_
      refine lv_aload_n hx hb d_S_trace_51 rfl (lv_at hl52 1 rfl) ?_
      refine va_get (D := D) (ci := 4) (v := .int (I31 19 0)) (C := R_S) (T := F_S) (N := 3) hx hb hts (fun w h => List.mem_cons_of_mem _ (uw_S w h)) hown hK hP49 18 rfl rfl 1 (by decide) (hts _ (List.mem_cons_of_mem _ tb_73)) (fun _ h => h) rfl d_S_trace_52 ?_
      refine lv_iload hx hb d_S_trace_55 (lv_at hl52 0 rfl) ?_
      refine lv_iconst (v := 1) hx hb d_S_trace_57 (by decide) ?_
      refine lv_iadd hx hb d_S_trace_58 ?_
      obtain ⟨hg56, hf57⟩ := grd_ex hf54
      obtain ⟨I58, e59, hf60⟩ := bnd_ex hf57
      refine va_iast hx hb hK hP49 (hD I31 J0) hS50 19 2 rfl rfl (inB_in hg56) d_S_trace_59 (fun H61 L62 hp65 _ hS64 => ?_)
      have hP63 : va_P D cls_all (wC ca ad hs I58 J0) H61 := by rw [e59]; exact hp65
      refine lv_aload_n hx hb d_S_trace_60 rfl (lv_at hl52 1 rfl) ?_
      refine lv_dup hx hb d_S_trace_61 rfl ?_
      refine va_get (D := D) (ci := 4) (v := .int (I58 19 0)) (C := R_S) (T := F_S) (N := 3) hx hb hts (fun w h => List.mem_cons_of_mem _ (uw_S w h)) hown hK hP63 18 rfl rfl 1 (by decide) (hts _ (List.mem_cons_of_mem _ tb_73)) (fun _ h => h) rfl d_S_trace_62 ?_
      refine lv_iconst (v := 1) hx hb d_S_trace_65 (by decide) ?_
      refine lv_iadd hx hb d_S_trace_66 ?_
      obtain ⟨I66, e67, hf68⟩ := bnd_ex hf60
      refine va_put (D := D) (ci := 4) (v := .int ((I58 19 0) + (1 : Int32))) (ty := .int) (C := R_S) (T := F_S) (N := 3) hx hb hts (fun w h => List.mem_cons_of_mem _ (uw_S w h)) ft_S tk_S n_S hown hK hP63 (hD I58 J0) hS64 18 rfl rfl 1 (by decide) (hts _ (List.mem_cons_of_mem _ tb_73)) (fun _ h => h) rfl (by decide +kernel) rfl rfl (Nat.le_of_ble_eq_true rfl) d_S_trace_67 (fun H69 L70 hp73 _ hS72 => ?_)
      have hP71 : va_P D cls_all (wC ca ad hs I66 J0) H69 := by rw [e67]; exact hp73
      refine lv_aload_n hx hb d_S_trace_70 rfl (lv_at hl52 2 rfl) ?_
      refine va_get (D := D) (ci := 0) (v := .ref (ad 2)) (C := R_H) (T := F_H) (N := 9) hx hb hts (fun w h => List.mem_cons_of_mem _ (uw_H w h)) hown hK hP71 0 rfl rfl 1 (by decide) (hts _ (List.mem_cons_of_mem _ tb_538)) (fun _ h => h) rfl d_S_trace_71 ?_
      refine lv_iload hx hb d_S_trace_74 (lv_at hl52 0 rfl) ?_
      obtain ⟨hg74, hf75⟩ := grd_ex hf68
      refine va_bald hx hb hK hP71 2 0 rfl rfl (inB_in hg74) d_S_trace_76 ?_
      obtain ⟨x76, e77, hf78⟩ := bnd_ex hf75
      refine jd_tni e77 ?_
      refine lv_istore hx hb d_S_trace_77 hl52 (by decide) (lv' := [(4, .int x76), (6, .int x44), (0, .ref (ad 18)), (1, .ref (ad 0)), (5, .int x30)]) rfl (fun ls79 hl80 => ?_)
      obtain ⟨x81, e82, hf83⟩ := bnd_ex hf78
      refine lv_iinc hx hb d_S_trace_79 hl80 (k := 4) rfl (v := x81) (by rw [e82]; rfl) (by decide) (lv' := [(5, .int x81), (4, .int x76), (6, .int x44), (0, .ref (ad 18)), (1, .ref (ad 0))]) rfl (fun ls84 hl85 => ?_)
      refine lv_goto (tgt := 24) hx hb d_S_trace_82 rfl ?_
      cases hf83
      exact hc25 rfl H69 L70 ls84 hP71 hS72 (lv_sub hl85 [3, 4, 1, 0] rfl)
    · have hf55 := ifp hf46 h53
      cases hf55
      have e86 := he26 (by show (2 : Nat) ≠ 0; decide)
      cases e86
      exact kx24_2 rfl H47 L48 ls51 hP49 hS50 (lv_sub hl52 [] rfl)
