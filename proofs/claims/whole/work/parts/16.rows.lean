theorem d_R_changePartners_0 : decode b_R_changePartners 0 = .ok (.iload_n 1, 1) := by decide +kernel
theorem d_R_changePartners_1 : decode b_R_changePartners 1 = .ok (.istore_n 2, 1) := by decide +kernel
theorem d_R_changePartners_2 : decode b_R_changePartners 2 = .ok (.iconst 0, 1) := by decide +kernel
theorem d_R_changePartners_3 : decode b_R_changePartners 3 = .ok (.istore_n 3, 1) := by decide +kernel
theorem d_R_changePartners_4 : decode b_R_changePartners 4 = .ok (.iload_n 3, 1) := by decide +kernel
theorem d_R_changePartners_5 : decode b_R_changePartners 5 = .ok (.bipush 16, 2) := by decide +kernel
theorem d_R_changePartners_7 : decode b_R_changePartners 7 = .ok (.if_icmp .ge 50, 3) := by decide +kernel
theorem d_R_changePartners_10 : decode b_R_changePartners 10 = .ok (.iload_n 2, 1) := by decide +kernel
theorem d_R_changePartners_11 : decode b_R_changePartners 11 = .ok (.iconst (-1), 1) := by decide +kernel
theorem d_R_changePartners_12 : decode b_R_changePartners 12 = .ok (.if_icmp .eq 45, 3) := by decide +kernel
theorem d_R_changePartners_15 : decode b_R_changePartners 15 = .ok (.aload_n 0, 1) := by decide +kernel
theorem d_R_changePartners_16 : decode b_R_changePartners 16 = .ok (.getfield 21, 3) := by decide +kernel
theorem d_R_changePartners_19 : decode b_R_changePartners 19 = .ok (.iload_n 2, 1) := by decide +kernel
theorem d_R_changePartners_20 : decode b_R_changePartners 20 = .ok (.iaload, 1) := by decide +kernel
theorem d_R_changePartners_21 : decode b_R_changePartners 21 = .ok (.istore 4, 2) := by decide +kernel
theorem d_R_changePartners_23 : decode b_R_changePartners 23 = .ok (.aload_n 0, 1) := by decide +kernel
theorem d_R_changePartners_24 : decode b_R_changePartners 24 = .ok (.getfield 15, 3) := by decide +kernel
theorem d_R_changePartners_27 : decode b_R_changePartners 27 = .ok (.iload 4, 2) := by decide +kernel
theorem d_R_changePartners_29 : decode b_R_changePartners 29 = .ok (.iaload, 1) := by decide +kernel
theorem d_R_changePartners_30 : decode b_R_changePartners 30 = .ok (.istore 5, 2) := by decide +kernel
theorem d_R_changePartners_32 : decode b_R_changePartners 32 = .ok (.aload_n 0, 1) := by decide +kernel
theorem d_R_changePartners_33 : decode b_R_changePartners 33 = .ok (.getfield 15, 3) := by decide +kernel
theorem d_R_changePartners_36 : decode b_R_changePartners 36 = .ok (.iload 4, 2) := by decide +kernel
theorem d_R_changePartners_38 : decode b_R_changePartners 38 = .ok (.iload_n 2, 1) := by decide +kernel
theorem d_R_changePartners_39 : decode b_R_changePartners 39 = .ok (.iastore, 1) := by decide +kernel
theorem d_R_changePartners_40 : decode b_R_changePartners 40 = .ok (.aload_n 0, 1) := by decide +kernel
theorem d_R_changePartners_41 : decode b_R_changePartners 41 = .ok (.getfield 18, 3) := by decide +kernel
theorem d_R_changePartners_44 : decode b_R_changePartners 44 = .ok (.iload_n 2, 1) := by decide +kernel
theorem d_R_changePartners_45 : decode b_R_changePartners 45 = .ok (.iload 4, 2) := by decide +kernel
theorem d_R_changePartners_47 : decode b_R_changePartners 47 = .ok (.iastore, 1) := by decide +kernel
theorem d_R_changePartners_48 : decode b_R_changePartners 48 = .ok (.iload 5, 2) := by decide +kernel
theorem d_R_changePartners_50 : decode b_R_changePartners 50 = .ok (.istore_n 2, 1) := by decide +kernel
theorem d_R_changePartners_51 : decode b_R_changePartners 51 = .ok (.iinc 3 1, 3) := by decide +kernel
theorem d_R_changePartners_54 : decode b_R_changePartners 54 = .ok (.goto (-50), 3) := by decide +kernel
theorem d_R_changePartners_57 : decode b_R_changePartners 57 = .ok (.return_, 1) := by decide +kernel
def fm_R_changePartners_B4  (x9 : Int32) (x10 : Int32) (I11 : IS) : Option (Nat × Int32 × Int32 × IS) :=
  if (16 : Int32) ≤ x10 then some (1, x9, x10, I11) else if x9 = (-1 : Int32) then some (1, x9, x10, I11) else grd (inB x9 16) (bnd (I11 14 x9.toNatClampNeg) (fun x30 => grd (inB x30 16) (bnd (I11 12 x30.toNatClampNeg) (fun x37 => grd (inB x30 16) (bnd (sI I11 12 x30.toNatClampNeg x9) (fun I44 => grd (inB x9 16) (bnd (sI I44 13 x9.toNatClampNeg x30) (fun I54 => bnd (x10 + (1 : Int32)) (fun x64 => some (0, x37, x64, I54))))))))))
def fm_R_changePartners (p0 : Int32) (I0 : IS) : Option (IS) :=
  ob4 (iter (fun z : Int32 × Int32 × IS => fm_R_changePartners_B4 z.1 z.2.1 z.2.2) FU (p0, (0 : Int32), I0)) (fun _ x70 x71 I72 => some I72)
set_option maxHeartbeats 4000000 in
set_option maxRecDepth 100000 in
theorem cm_R_changePartners (l : Launch) (D : va_G) (ca : Nat → ClassId) (ad : Nat → Nat) (hs : Nat → Option Nat) {p0 : Int32} {I0 : IS} {J0 : JS} {r : IS} (hf : fm_R_changePartners p0 I0 = some r) : CtV l y_R_changePartners (Cond.code y_R_changePartners b_R_changePartners 6 none :: TB) { frames := 0, cells := 0, slots := 0, locals := 0 } [.ref (ad 9), .int p0] D cls_all (tysC ca) NN (wC ca ad hs I0 J0) (wC ca ad hs r J0) := by
  refine jd_metV (cc := b_R_changePartners) (by decide) rfl (Nat.le_of_ble_eq_true rfl) (lv := [(0, .ref (ad 9)), (1, .int p0)]) rfl ?_
  intro p e R s m args below meth c A Q ls cx hR hK hN hD0 hA hP hS hl hend
  have hx := cx.1
  have hb := cx.2.1
  have hml := cx.2.2.1
  have hown := cx.2.2.2.1
  have hts := cx.2.2.2.2
  have hD : ∀ I J, va_D A (wC ca ad hs I J) := fun I J => jd_Dc hD0 rfl
  unfold fm_R_changePartners at hf
  refine lv_iload_n hx hb d_R_changePartners_0 rfl (lv_at hl 1 rfl) ?_
  refine lv_istore_n hx hb d_R_changePartners_1 rfl hl (by decide) (lv' := [(2, .int p0), (0, .ref (ad 9)), (1, .int p0)]) rfl (fun ls1 hl2 => ?_)
  refine lv_iconst (v := 0) hx hb d_R_changePartners_2 (by decide) ?_
  refine lv_istore_n hx hb d_R_changePartners_3 rfl hl2 (by decide) (lv' := [(3, .int (0 : Int32)), (2, .int p0), (0, .ref (ad 9)), (1, .int p0)]) rfl (fun ls3 hl4 => ?_)
  obtain ⟨tg69, x70, x71, I72, ho73, hf74⟩ := ob4_ex hf
  have kx4_1 : ∀ (H75 : Heap) (L76 : List Loc) (ls77 : Array Slot), va_P D cls_all (wC ca ad hs I72 J0) H75 → va_S A s.heap H75 L76 → lv_has ls77 6 [] → W p l e R s m args below meth c H75 L76 0 0 Q (F0 m 57 ls77 []) := by
    intro H75 L76 ls77 hP78 hS79 hl80
    cases hf74
    exact hend H75 L76 57 ls77 hP78 hS79 d_R_changePartners_57
  refine iter_ind (C := fun z : Int32 × Int32 × IS => ∀ (H12 : Heap) (L13 : List Loc) (ls14 : Array Slot), va_P D cls_all (wC ca ad hs z.2.2 J0) H12 → va_S A s.heap H12 L13 → lv_has ls14 6 [(0, .ref (ad 9)), (2, .int z.1), (3, .int z.2.1)] → W p l e R s m args below meth c H12 L13 0 0 Q (F0 m 4 ls14 [])) (fun z8 o7 hz19 hc5 he6 => ?_) _ _ ho73 s.heap [] ls3 hP hS (lv_sub hl4 [2, 1, 0] rfl)
  obtain ⟨x9, x10, I11⟩ := z8
  intro H12 L13 ls14 hP15 hS16 hl17
  have hf18 : fm_R_changePartners_B4 x9 x10 I11 = some o7 := hz19
  unfold fm_R_changePartners_B4 at hf18
  refine lv_iload_n hx hb d_R_changePartners_4 rfl (lv_at hl17 2 rfl) ?_
  refine lv_bipush (v := 16) hx hb d_R_changePartners_5 (by decide) ?_
  refine lv_icmp_ge (tgt := 57) hx hb d_R_changePartners_7 rfl (fun h20 => ?_) (fun h20 => ?_)
  · have hf21 := ifp hf18 h20
    cases hf21
    have e23 := he6 (by show (1 : Nat) ≠ 0; decide)
    cases e23
    exact kx4_1 H12 L13 ls14 hP15 hS16 (lv_sub hl17 [] rfl)
  · have hf22 := ifn hf18 h20
    refine lv_iload_n hx hb d_R_changePartners_10 rfl (lv_at hl17 1 rfl) ?_
    refine lv_iconst (v := -1) hx hb d_R_changePartners_11 (by decide) ?_
    refine lv_icmp_eq (tgt := 57) hx hb d_R_changePartners_12 rfl (fun h24 => ?_) (fun h24 => ?_)
    · have hf25 := ifp hf22 h24
      cases hf25
      have e27 := he6 (by show (1 : Nat) ≠ 0; decide)
      cases e27
      exact kx4_1 H12 L13 ls14 hP15 hS16 (lv_sub hl17 [] rfl)
    · have hf26 := ifn hf22 h24
      refine lv_aload_n hx hb d_R_changePartners_15 rfl (lv_at hl17 0 rfl) ?_
      refine va_get (D := D) (ci := 2) (v := .ref (ad 13)) (C := R_R) (T := F_R) (N := 8) hx hb hts (fun w h => List.mem_cons_of_mem _ (uw_R w h)) hown hK hP15 9 rfl rfl 6 (by decide) (hts _ (List.mem_cons_of_mem _ tb_517)) (fun _ h => h) rfl d_R_changePartners_16 ?_
      refine lv_iload_n hx hb d_R_changePartners_19 rfl (lv_at hl17 1 rfl) ?_
      obtain ⟨hg28, hf29⟩ := grd_ex hf26
      refine va_iald hx hb hK hP15 13 2 rfl rfl (inB_in hg28) d_R_changePartners_20 ?_
      obtain ⟨x30, e31, hf32⟩ := bnd_ex hf29
      refine jd_tni e31 ?_
      refine lv_istore hx hb d_R_changePartners_21 hl17 (by decide) (lv' := [(4, .int x30), (0, .ref (ad 9)), (2, .int x9), (3, .int x10)]) rfl (fun ls33 hl34 => ?_)
      refine lv_aload_n hx hb d_R_changePartners_23 rfl (lv_at hl34 1 rfl) ?_
      refine va_get (D := D) (ci := 2) (v := .ref (ad 11)) (C := R_R) (T := F_R) (N := 8) hx hb hts (fun w h => List.mem_cons_of_mem _ (uw_R w h)) hown hK hP15 9 rfl rfl 4 (by decide) (hts _ (List.mem_cons_of_mem _ tb_515)) (fun _ h => h) rfl d_R_changePartners_24 ?_
      refine lv_iload hx hb d_R_changePartners_27 (lv_at hl34 0 rfl) ?_
      obtain ⟨hg35, hf36⟩ := grd_ex hf32
      refine va_iald hx hb hK hP15 11 2 rfl rfl (inB_in hg35) d_R_changePartners_29 ?_
      obtain ⟨x37, e38, hf39⟩ := bnd_ex hf36
      refine jd_tni e38 ?_
      refine lv_istore hx hb d_R_changePartners_30 hl34 (by decide) (lv' := [(5, .int x37), (4, .int x30), (0, .ref (ad 9)), (2, .int x9), (3, .int x10)]) rfl (fun ls40 hl41 => ?_)
      refine lv_aload_n hx hb d_R_changePartners_32 rfl (lv_at hl41 2 rfl) ?_
      refine va_get (D := D) (ci := 2) (v := .ref (ad 11)) (C := R_R) (T := F_R) (N := 8) hx hb hts (fun w h => List.mem_cons_of_mem _ (uw_R w h)) hown hK hP15 9 rfl rfl 4 (by decide) (hts _ (List.mem_cons_of_mem _ tb_515)) (fun _ h => h) rfl d_R_changePartners_33 ?_
      refine lv_iload hx hb d_R_changePartners_36 (lv_at hl41 1 rfl) ?_
      refine lv_iload_n hx hb d_R_changePartners_38 rfl (lv_at hl41 3 rfl) ?_
      obtain ⟨hg42, hf43⟩ := grd_ex hf39
      obtain ⟨I44, e45, hf46⟩ := bnd_ex hf43
      refine va_iast hx hb hK hP15 (hD I11 J0) hS16 11 2 rfl rfl (inB_in hg42) d_R_changePartners_39 (fun H47 L48 hp51 _ hS50 => ?_)
      have hP49 : va_P D cls_all (wC ca ad hs I44 J0) H47 := by rw [e45]; exact hp51
      refine lv_aload_n hx hb d_R_changePartners_40 rfl (lv_at hl41 2 rfl) ?_
      refine va_get (D := D) (ci := 2) (v := .ref (ad 12)) (C := R_R) (T := F_R) (N := 8) hx hb hts (fun w h => List.mem_cons_of_mem _ (uw_R w h)) hown hK hP49 9 rfl rfl 5 (by decide) (hts _ (List.mem_cons_of_mem _ tb_516)) (fun _ h => h) rfl d_R_changePartners_41 ?_
      refine lv_iload_n hx hb d_R_changePartners_44 rfl (lv_at hl41 3 rfl) ?_
      refine lv_iload hx hb d_R_changePartners_45 (lv_at hl41 1 rfl) ?_
      obtain ⟨hg52, hf53⟩ := grd_ex hf46
      obtain ⟨I54, e55, hf56⟩ := bnd_ex hf53
      refine va_iast hx hb hK hP49 (hD I44 J0) hS50 12 2 rfl rfl (inB_in hg52) d_R_changePartners_47 (fun H57 L58 hp61 _ hS60 => ?_)
      have hP59 : va_P D cls_all (wC ca ad hs I54 J0) H57 := by rw [e55]; exact hp61
      refine lv_iload hx hb d_R_changePartners_48 (lv_at hl41 0 rfl) ?_
      refine lv_istore_n hx hb d_R_changePartners_50 rfl hl41 (by decide) (lv' := [(2, .int x37), (5, .int x37), (4, .int x30), (0, .ref (ad 9)), (3, .int x10)]) rfl (fun ls62 hl63 => ?_)
      obtain ⟨x64, e65, hf66⟩ := bnd_ex hf56
      refine lv_iinc hx hb d_R_changePartners_51 hl63 (k := 4) rfl (v := x64) (by rw [e65]; rfl) (by decide) (lv' := [(3, .int x64), (2, .int x37), (5, .int x37), (4, .int x30), (0, .ref (ad 9))]) rfl (fun ls67 hl68 => ?_)
      refine lv_goto (tgt := 4) hx hb d_R_changePartners_54 rfl ?_
      cases hf66
      exact hc5 rfl H57 L58 ls67 hP59 hS60 (lv_sub hl68 [4, 1, 0] rfl)
theorem d_R_pairUp_0 : decode b_R_pairUp 0 = .ok (.iload_n 3, 1) := by decide +kernel
theorem d_R_pairUp_1 : decode b_R_pairUp 1 = .ok (.istore 4, 2) := by decide +kernel
theorem d_R_pairUp_3 : decode b_R_pairUp 3 = .ok (.iconst 1, 1) := by decide +kernel
theorem d_R_pairUp_4 : decode b_R_pairUp 4 = .ok (.istore 5, 2) := by decide +kernel
theorem d_R_pairUp_6 : decode b_R_pairUp 6 = .ok (.aload_n 0, 1) := by decide +kernel
theorem d_R_pairUp_7 : decode b_R_pairUp 7 = .ok (.getfield 24, 3) := by decide +kernel
theorem d_R_pairUp_10 : decode b_R_pairUp 10 = .ok (.iconst 0, 1) := by decide +kernel
theorem d_R_pairUp_11 : decode b_R_pairUp 11 = .ok (.iload_n 2, 1) := by decide +kernel
theorem d_R_pairUp_12 : decode b_R_pairUp 12 = .ok (.iastore, 1) := by decide +kernel
theorem d_R_pairUp_13 : decode b_R_pairUp 13 = .ok (.iconst 0, 1) := by decide +kernel
theorem d_R_pairUp_14 : decode b_R_pairUp 14 = .ok (.istore 6, 2) := by decide +kernel
theorem d_R_pairUp_16 : decode b_R_pairUp 16 = .ok (.iload 6, 2) := by decide +kernel
theorem d_R_pairUp_18 : decode b_R_pairUp 18 = .ok (.iload 5, 2) := by decide +kernel
theorem d_R_pairUp_20 : decode b_R_pairUp 20 = .ok (.if_icmp .ge 115, 3) := by decide +kernel
theorem d_R_pairUp_23 : decode b_R_pairUp 23 = .ok (.iload 6, 2) := by decide +kernel
theorem d_R_pairUp_25 : decode b_R_pairUp 25 = .ok (.bipush 16, 2) := by decide +kernel
theorem d_R_pairUp_27 : decode b_R_pairUp 27 = .ok (.if_icmp .ge 108, 3) := by decide +kernel
theorem d_R_pairUp_30 : decode b_R_pairUp 30 = .ok (.aload_n 0, 1) := by decide +kernel
theorem d_R_pairUp_31 : decode b_R_pairUp 31 = .ok (.getfield 24, 3) := by decide +kernel
theorem d_R_pairUp_34 : decode b_R_pairUp 34 = .ok (.iload 6, 2) := by decide +kernel
theorem d_R_pairUp_36 : decode b_R_pairUp 36 = .ok (.iaload, 1) := by decide +kernel
theorem d_R_pairUp_37 : decode b_R_pairUp 37 = .ok (.istore 7, 2) := by decide +kernel
theorem d_R_pairUp_39 : decode b_R_pairUp 39 = .ok (.iconst 0, 1) := by decide +kernel
theorem d_R_pairUp_40 : decode b_R_pairUp 40 = .ok (.istore 8, 2) := by decide +kernel
theorem d_R_pairUp_42 : decode b_R_pairUp 42 = .ok (.iload 8, 2) := by decide +kernel
theorem d_R_pairUp_44 : decode b_R_pairUp 44 = .ok (.bipush 16, 2) := by decide +kernel
theorem d_R_pairUp_46 : decode b_R_pairUp 46 = .ok (.if_icmp .ge 83, 3) := by decide +kernel
theorem d_R_pairUp_49 : decode b_R_pairUp 49 = .ok (.aload_n 1, 1) := by decide +kernel
theorem d_R_pairUp_50 : decode b_R_pairUp 50 = .ok (.getfield 66, 3) := by decide +kernel
theorem d_R_pairUp_53 : decode b_R_pairUp 53 = .ok (.iload 7, 2) := by decide +kernel
theorem d_R_pairUp_55 : decode b_R_pairUp 55 = .ok (.iaload, 1) := by decide +kernel
theorem d_R_pairUp_56 : decode b_R_pairUp 56 = .ok (.iload 4, 2) := by decide +kernel
theorem d_R_pairUp_58 : decode b_R_pairUp 58 = .ok (.iand, 1) := by decide +kernel
theorem d_R_pairUp_59 : decode b_R_pairUp 59 = .ok (.iload 8, 2) := by decide +kernel
theorem d_R_pairUp_61 : decode b_R_pairUp 61 = .ok (.invokestatic 54, 3) := by decide +kernel
theorem d_R_pairUp_64 : decode b_R_pairUp 64 = .ok (.ifCond .eq 59, 3) := by decide +kernel
theorem d_R_pairUp_67 : decode b_R_pairUp 67 = .ok (.iload 4, 2) := by decide +kernel
theorem d_R_pairUp_69 : decode b_R_pairUp 69 = .ok (.iconst 1, 1) := by decide +kernel
theorem d_R_pairUp_70 : decode b_R_pairUp 70 = .ok (.iload 8, 2) := by decide +kernel
theorem d_R_pairUp_72 : decode b_R_pairUp 72 = .ok (.ishl, 1) := by decide +kernel
theorem d_R_pairUp_73 : decode b_R_pairUp 73 = .ok (.iconst (-1), 1) := by decide +kernel
theorem d_R_pairUp_74 : decode b_R_pairUp 74 = .ok (.ixor, 1) := by decide +kernel
theorem d_R_pairUp_75 : decode b_R_pairUp 75 = .ok (.iand, 1) := by decide +kernel
theorem d_R_pairUp_76 : decode b_R_pairUp 76 = .ok (.istore 4, 2) := by decide +kernel
theorem d_R_pairUp_78 : decode b_R_pairUp 78 = .ok (.aload_n 0, 1) := by decide +kernel
theorem d_R_pairUp_79 : decode b_R_pairUp 79 = .ok (.getfield 21, 3) := by decide +kernel
theorem d_R_pairUp_82 : decode b_R_pairUp 82 = .ok (.iload 8, 2) := by decide +kernel
theorem d_R_pairUp_84 : decode b_R_pairUp 84 = .ok (.iload 7, 2) := by decide +kernel
theorem d_R_pairUp_86 : decode b_R_pairUp 86 = .ok (.iastore, 1) := by decide +kernel
theorem d_R_pairUp_87 : decode b_R_pairUp 87 = .ok (.aload_n 0, 1) := by decide +kernel
theorem d_R_pairUp_88 : decode b_R_pairUp 88 = .ok (.getfield 18, 3) := by decide +kernel
theorem d_R_pairUp_91 : decode b_R_pairUp 91 = .ok (.iload 8, 2) := by decide +kernel
theorem d_R_pairUp_93 : decode b_R_pairUp 93 = .ok (.iaload, 1) := by decide +kernel
theorem d_R_pairUp_94 : decode b_R_pairUp 94 = .ok (.iconst (-1), 1) := by decide +kernel
theorem d_R_pairUp_95 : decode b_R_pairUp 95 = .ok (.if_icmp .ne 11, 3) := by decide +kernel
theorem d_R_pairUp_98 : decode b_R_pairUp 98 = .ok (.aload_n 0, 1) := by decide +kernel
theorem d_R_pairUp_99 : decode b_R_pairUp 99 = .ok (.iload 8, 2) := by decide +kernel
theorem d_R_pairUp_101 : decode b_R_pairUp 101 = .ok (.invokevirtual 92, 3) := by decide +kernel
theorem d_R_pairUp_104 : decode b_R_pairUp 104 = .ok (.iconst 1, 1) := by decide +kernel
theorem d_R_pairUp_105 : decode b_R_pairUp 105 = .ok (.ireturn, 1) := by decide +kernel
theorem d_R_pairUp_106 : decode b_R_pairUp 106 = .ok (.aload_n 0, 1) := by decide +kernel
theorem d_R_pairUp_107 : decode b_R_pairUp 107 = .ok (.getfield 24, 3) := by decide +kernel
theorem d_R_pairUp_110 : decode b_R_pairUp 110 = .ok (.iload 5, 2) := by decide +kernel
theorem d_R_pairUp_112 : decode b_R_pairUp 112 = .ok (.aload_n 0, 1) := by decide +kernel
theorem d_R_pairUp_113 : decode b_R_pairUp 113 = .ok (.getfield 18, 3) := by decide +kernel
theorem d_R_pairUp_116 : decode b_R_pairUp 116 = .ok (.iload 8, 2) := by decide +kernel
theorem d_R_pairUp_118 : decode b_R_pairUp 118 = .ok (.iaload, 1) := by decide +kernel
theorem d_R_pairUp_119 : decode b_R_pairUp 119 = .ok (.iastore, 1) := by decide +kernel
theorem d_R_pairUp_120 : decode b_R_pairUp 120 = .ok (.iinc 5 1, 3) := by decide +kernel
theorem d_R_pairUp_123 : decode b_R_pairUp 123 = .ok (.iinc 8 1, 3) := by decide +kernel
theorem d_R_pairUp_126 : decode b_R_pairUp 126 = .ok (.goto (-84), 3) := by decide +kernel
theorem d_R_pairUp_129 : decode b_R_pairUp 129 = .ok (.iinc 6 1, 3) := by decide +kernel
theorem d_R_pairUp_132 : decode b_R_pairUp 132 = .ok (.goto (-116), 3) := by decide +kernel
theorem d_R_pairUp_135 : decode b_R_pairUp 135 = .ok (.iconst 0, 1) := by decide +kernel
theorem d_R_pairUp_136 : decode b_R_pairUp 136 = .ok (.ireturn, 1) := by decide +kernel
def fm_R_pairUp_B42 (x44 : Int32) (x55 : Int32) (x56 : Int32) (x57 : Int32) (I58 : IS) : Option (Nat × Int32 × Int32 × Int32 × IS) :=
  if (16 : Int32) ≤ x57 then some (1, x55, x56, x57, I58) else grd (inB x44 16) (ob1 (fm_K_holds ((I58 3 x44.toNatClampNeg) &&& x55) x57) (fun x73 => if x73 = 0 then bnd (x57 + (1 : Int32)) (fun x83 => some (0, x55, x56, x83, I58)) else bnd (x55 &&& (((1 : Int32) <<< (x57 &&& 31)) ^^^ (-1 : Int32))) (fun x88 => grd (inB x57 16) (bnd (sI I58 14 x57.toNatClampNeg x44) (fun I95 => grd (inB x57 16) (if (I95 13 x57.toNatClampNeg) = (-1 : Int32) then some (2, x88, x56, x57, I95) else grd (inB x57 16) (grd (inB x56 16) (bnd (sI I95 15 x56.toNatClampNeg (I95 13 x57.toNatClampNeg)) (fun I112 => bnd (x56 + (1 : Int32)) (fun x120 => bnd (x57 + (1 : Int32)) (fun x125 => some (0, x88, x120, x125, I112))))))))))))
def fm_R_pairUp_B16  (x21 : Int32) (x22 : Int32) (x23 : Int32) (x24 : Int32) (I25 : IS) : Option (Nat × Int32 × Int32 × Int32 × Int32 × IS) :=
  if x22 ≤ x23 then some (1, x21, x22, x23, x24, I25) else if (16 : Int32) ≤ x23 then some (1, x21, x22, x23, x24, I25) else grd (inB x23 16) (bnd (I25 15 x23.toNatClampNeg) (fun x44 => ob5 (iter (fun z : Int32 × Int32 × Int32 × IS => fm_R_pairUp_B42 x44 z.1 z.2.1 z.2.2.1 z.2.2.2) FU (x21, x22, (0 : Int32), I25)) (fun tg131 x132 x133 x134 I135 => if tg131 = 1 then bnd (x23 + (1 : Int32)) (fun x146 => some (0, x132, x133, x146, x24, I135)) else some (2, x21, x22, x23, x134, I135))))
def fm_R_pairUp (p1 : Int32) (p2 : Int32) (I0 : IS) : Option (Int32 × IS) :=
  grd (inB (0 : Int32) 16) (bnd (sI I0 15 (0 : Int32).toNatClampNeg p1) (fun I7 => ob6 (iter (fun z : Int32 × Int32 × Int32 × Int32 × IS => fm_R_pairUp_B16 z.1 z.2.1 z.2.2.1 z.2.2.2.1 z.2.2.2.2) FU (p2, (1 : Int32), (0 : Int32), (0 : Int32), I7)) (fun tg161 x162 x163 x164 x165 I166 => if tg161 = 1 then some ((0 : Int32), I166) else ob1 (fm_R_changePartners x165 I166) (fun I186 => some ((1 : Int32), I186)))))
set_option maxHeartbeats 4000000 in
set_option maxRecDepth 100000 in
theorem cm_R_pairUp (l : Launch) (D : va_G) (ca : Nat → ClassId) (ad : Nat → Nat) (hs : Nat → Option Nat) {p1 : Int32} {p2 : Int32} {I0 : IS} {J0 : JS} {r : Int32 × IS} (hf : fm_R_pairUp p1 p2 I0 = some r) : CtI l y_R_pairUp (Cond.code y_R_pairUp b_R_pairUp 9 (some .boolean) :: TB) { frames := 1, cells := 0, slots := 0, locals := 25 } [.ref (ad 9), .ref (ad 0), .int p1, .int p2] D cls_all (tysC ca) NN (wC ca ad hs I0 J0) (wC ca ad hs r.2 J0) r.1 := by
  refine jd_metZ (cc := b_R_pairUp) (by decide) rfl (Nat.le_of_ble_eq_true rfl) (lv := [(0, .ref (ad 9)), (1, .ref (ad 0)), (2, .int p1), (3, .int p2)]) rfl ?_
  intro p e R s m args below meth c A Q ls cx hR hK hN hD0 hA hP hS hl hend
  have hx := cx.1
  have hb := cx.2.1
  have hml := cx.2.2.1
  have hown := cx.2.2.2.1
  have hts := cx.2.2.2.2
  have hD : ∀ I J, va_D A (wC ca ad hs I J) := fun I J => jd_Dc hD0 rfl
  unfold fm_R_pairUp at hf
  refine lv_iload_n hx hb d_R_pairUp_0 rfl (lv_at hl 3 rfl) ?_
  refine lv_istore hx hb d_R_pairUp_1 hl (by decide) (lv' := [(4, .int p2), (0, .ref (ad 9)), (1, .ref (ad 0)), (2, .int p1), (3, .int p2)]) rfl (fun ls1 hl2 => ?_)
  refine lv_iconst (v := 1) hx hb d_R_pairUp_3 (by decide) ?_
  refine lv_istore hx hb d_R_pairUp_4 hl2 (by decide) (lv' := [(5, .int (1 : Int32)), (4, .int p2), (0, .ref (ad 9)), (1, .ref (ad 0)), (2, .int p1), (3, .int p2)]) rfl (fun ls3 hl4 => ?_)
  refine lv_aload_n hx hb d_R_pairUp_6 rfl (lv_at hl4 2 rfl) ?_
  refine va_get (D := D) (ci := 2) (v := .ref (ad 14)) (C := R_R) (T := F_R) (N := 8) hx hb hts (fun w h => List.mem_cons_of_mem _ (uw_R w h)) hown hK hP 9 rfl rfl 7 (by decide) (hts _ (List.mem_cons_of_mem _ tb_518)) (fun _ h => h) rfl d_R_pairUp_7 ?_
  refine lv_iconst (v := 0) hx hb d_R_pairUp_10 (by decide) ?_
  refine lv_iload_n hx hb d_R_pairUp_11 rfl (lv_at hl4 4 rfl) ?_
  obtain ⟨hg5, hf6⟩ := grd_ex hf
  obtain ⟨I7, e8, hf9⟩ := bnd_ex hf6
  refine va_iast hx hb hK hP (hD I0 J0) hS 14 2 rfl rfl (inB_in hg5) d_R_pairUp_12 (fun H10 L11 hp14 _ hS13 => ?_)
  have hP12 : va_P D cls_all (wC ca ad hs I7 J0) H10 := by rw [e8]; exact hp14
  refine lv_iconst (v := 0) hx hb d_R_pairUp_13 (by decide) ?_
  refine lv_istore hx hb d_R_pairUp_14 hl4 (by decide) (lv' := [(6, .int (0 : Int32)), (5, .int (1 : Int32)), (4, .int p2), (0, .ref (ad 9)), (1, .ref (ad 0)), (2, .int p1), (3, .int p2)]) rfl (fun ls15 hl16 => ?_)
  obtain ⟨tg161, x162, x163, x164, x165, I166, ho167, hf168⟩ := ob6_ex hf9
  have kx16_1 : tg161 = 1 → ∀ (H169 : Heap) (L170 : List Loc) (ls171 : Array Slot), va_P D cls_all (wC ca ad hs I166 J0) H169 → va_S A s.heap H169 L170 → lv_has ls171 9 [] → W p l e R s m args below meth c H169 L170 0 0 Q (F0 m 135 ls171 []) := by
    intro ht176 H169 L170 ls171 hP172 hS173 hl174
    have hf175 := ifp hf168 ht176
    refine lv_iconst (v := 0) hx hb d_R_pairUp_135 (by decide) ?_
    cases hf175
    exact hend H169 L170 136 ls171 (show narrow .boolean (.int (0 : Int32)) = .int (0 : Int32) from rfl) hP172 hS173 d_R_pairUp_136
  have kx16_2 : tg161 = 2 → ∀ (H177 : Heap) (L178 : List Loc) (ls179 : Array Slot), va_P D cls_all (wC ca ad hs I166 J0) H177 → va_S A s.heap H177 L178 → lv_has ls179 9 [(0, .ref (ad 9)), (8, .int x165)] → W p l e R s m args below meth c H177 L178 0 0 Q (F0 m 98 ls179 []) := by
    intro ht184 H177 L178 ls179 hP180 hS181 hl182
    have hf185 := ifn hf168 (by rw [ht184]; decide)
    have hf183 := hf185
    refine lv_aload_n hx hb d_R_pairUp_98 rfl (lv_at hl182 0 rfl) ?_
    refine lv_iload hx hb d_R_pairUp_99 (lv_at hl182 1 rfl) ?_
    obtain ⟨I186, hc187, hf188⟩ := ob1_ex hf183
    refine jd_cv (va_runV (As := [.int x165]) (rest := []) cx (cm_R_changePartners l D ca ad hs hc187 H177.size) (cwV 1 hts (jd_gV tb_379 tb_380 tb_21 tb_54 tb_381) rfl rfl rfl ⟨rfl, by decide, by decide, rfl⟩ (by rw [hR]; decide)) ⟨jd_blind nWc, (va_recv hK hP180 (ci := 2) (q0 := 9) rfl rfl), (jd_pre (av := [.ref (ad 9), .int x165]) hP180 hK (hD I166 J0) (fun U h => nWm h hN))⟩ rfl rfl hl182.1 rfl (lv_room (Nat.le_of_ble_eq_true rfl)) d_R_pairUp_101 ⟨Nat.zero_le _, Nat.zero_le _⟩) hS181 (hD I166 J0) hA (fun H189 L190 hP191 hS192 => ?_)
    refine lv_iconst (v := 1) hx hb d_R_pairUp_104 (by decide) ?_
    cases hf188
    exact hend H189 L190 105 ls179 (show narrow .boolean (.int (1 : Int32)) = .int (1 : Int32) from rfl) hP191 hS192 d_R_pairUp_105
  refine iter_ind (C := fun z : Int32 × Int32 × Int32 × Int32 × IS => ∀ (H26 : Heap) (L27 : List Loc) (ls28 : Array Slot), va_P D cls_all (wC ca ad hs z.2.2.2.2 J0) H26 → va_S A s.heap H26 L27 → lv_has ls28 9 [(0, .ref (ad 9)), (1, .ref (ad 0)), (4, .int z.1), (5, .int z.2.1), (6, .int z.2.2.1)] → W p l e R s m args below meth c H26 L27 0 0 Q (F0 m 16 ls28 [])) (fun z20 o19 hz33 hc17 he18 => ?_) _ _ ho167 H10 L11 ls15 hP12 hS13 (lv_sub hl16 [3, 4, 2, 1, 0] rfl)
  obtain ⟨x21, x22, x23, x24, I25⟩ := z20
  intro H26 L27 ls28 hP29 hS30 hl31
  have hf32 : fm_R_pairUp_B16 x21 x22 x23 x24 I25 = some o19 := hz33
  unfold fm_R_pairUp_B16 at hf32
  refine lv_iload hx hb d_R_pairUp_16 (lv_at hl31 4 rfl) ?_
  refine lv_iload hx hb d_R_pairUp_18 (lv_at hl31 3 rfl) ?_
  refine lv_icmp_ge (tgt := 135) hx hb d_R_pairUp_20 rfl (fun h34 => ?_) (fun h34 => ?_)
  · have hf35 := ifp hf32 h34
    cases hf35
    have e37 := he18 (by show (1 : Nat) ≠ 0; decide)
    cases e37
    exact kx16_1 rfl H26 L27 ls28 hP29 hS30 (lv_sub hl31 [] rfl)
  · have hf36 := ifn hf32 h34
    refine lv_iload hx hb d_R_pairUp_23 (lv_at hl31 4 rfl) ?_
    refine lv_bipush (v := 16) hx hb d_R_pairUp_25 (by decide) ?_
    refine lv_icmp_ge (tgt := 135) hx hb d_R_pairUp_27 rfl (fun h38 => ?_) (fun h38 => ?_)
    · have hf39 := ifp hf36 h38
      cases hf39
      have e41 := he18 (by show (1 : Nat) ≠ 0; decide)
      cases e41
      exact kx16_1 rfl H26 L27 ls28 hP29 hS30 (lv_sub hl31 [] rfl)
    · have hf40 := ifn hf36 h38
      refine lv_aload_n hx hb d_R_pairUp_30 rfl (lv_at hl31 0 rfl) ?_
      refine va_get (D := D) (ci := 2) (v := .ref (ad 14)) (C := R_R) (T := F_R) (N := 8) hx hb hts (fun w h => List.mem_cons_of_mem _ (uw_R w h)) hown hK hP29 9 rfl rfl 7 (by decide) (hts _ (List.mem_cons_of_mem _ tb_518)) (fun _ h => h) rfl d_R_pairUp_31 ?_
      refine lv_iload hx hb d_R_pairUp_34 (lv_at hl31 4 rfl) ?_
      obtain ⟨hg42, hf43⟩ := grd_ex hf40
      refine va_iald hx hb hK hP29 14 2 rfl rfl (inB_in hg42) d_R_pairUp_36 ?_
      obtain ⟨x44, e45, hf46⟩ := bnd_ex hf43
      refine jd_tni e45 ?_
      refine lv_istore hx hb d_R_pairUp_37 hl31 (by decide) (lv' := [(7, .int x44), (0, .ref (ad 9)), (1, .ref (ad 0)), (4, .int x21), (5, .int x22), (6, .int x23)]) rfl (fun ls47 hl48 => ?_)
      refine lv_iconst (v := 0) hx hb d_R_pairUp_39 (by decide) ?_
      refine lv_istore hx hb d_R_pairUp_40 hl48 (by decide) (lv' := [(8, .int (0 : Int32)), (7, .int x44), (0, .ref (ad 9)), (1, .ref (ad 0)), (4, .int x21), (5, .int x22), (6, .int x23)]) rfl (fun ls49 hl50 => ?_)
      obtain ⟨tg131, x132, x133, x134, I135, ho136, hf137⟩ := ob5_ex hf46
      have kx42_1 : tg131 = 1 → ∀ (H138 : Heap) (L139 : List Loc) (ls140 : Array Slot), va_P D cls_all (wC ca ad hs I135 J0) H138 → va_S A s.heap H138 L139 → lv_has ls140 9 [(0, .ref (ad 9)), (1, .ref (ad 0)), (4, .int x132), (5, .int x133), (6, .int x23)] → W p l e R s m args below meth c H138 L139 0 0 Q (F0 m 129 ls140 []) := by
        intro ht145 H138 L139 ls140 hP141 hS142 hl143
        have hf144 := ifp hf137 ht145
        obtain ⟨x146, e147, hf148⟩ := bnd_ex hf144
        refine lv_iinc hx hb d_R_pairUp_129 hl143 (k := 4) rfl (v := x146) (by rw [e147]; rfl) (by decide) (lv' := [(6, .int x146), (0, .ref (ad 9)), (1, .ref (ad 0)), (4, .int x132), (5, .int x133)]) rfl (fun ls149 hl150 => ?_)
        refine lv_goto (tgt := 16) hx hb d_R_pairUp_132 rfl ?_
        cases hf148
        exact hc17 rfl H138 L139 ls149 hP141 hS142 (lv_sub hl150 [1, 2, 3, 4, 0] rfl)
      have kx42_2 : tg131 = 2 → ∀ (H151 : Heap) (L152 : List Loc) (ls153 : Array Slot), va_P D cls_all (wC ca ad hs I135 J0) H151 → va_S A s.heap H151 L152 → lv_has ls153 9 [(0, .ref (ad 9)), (8, .int x134)] → W p l e R s m args below meth c H151 L152 0 0 Q (F0 m 98 ls153 []) := by
        intro ht158 H151 L152 ls153 hP154 hS155 hl156
        have hf159 := ifn hf137 (by rw [ht158]; decide)
        have hf157 := hf159
        cases hf157
        have e160 := he18 (by show (2 : Nat) ≠ 0; decide)
        cases e160
        exact kx16_2 rfl H151 L152 ls153 hP154 hS155 (lv_sub hl156 [0, 1] rfl)
      refine iter_ind (C := fun z : Int32 × Int32 × Int32 × IS => ∀ (H59 : Heap) (L60 : List Loc) (ls61 : Array Slot), va_P D cls_all (wC ca ad hs z.2.2.2 J0) H59 → va_S A s.heap H59 L60 → lv_has ls61 9 [(0, .ref (ad 9)), (1, .ref (ad 0)), (4, .int z.1), (5, .int z.2.1), (6, .int x23), (7, .int x44), (8, .int z.2.2.1)] → W p l e R s m args below meth c H59 L60 0 0 Q (F0 m 42 ls61 [])) (fun z54 o53 hz66 hc51 he52 => ?_) _ _ ho136 H26 L27 ls49 hP29 hS30 (lv_sub hl50 [2, 3, 4, 5, 6, 1, 0] rfl)
      obtain ⟨x55, x56, x57, I58⟩ := z54
      intro H59 L60 ls61 hP62 hS63 hl64
      have hf65 : fm_R_pairUp_B42 x44 x55 x56 x57 I58 = some o53 := hz66
      unfold fm_R_pairUp_B42 at hf65
      refine lv_iload hx hb d_R_pairUp_42 (lv_at hl64 6 rfl) ?_
      refine lv_bipush (v := 16) hx hb d_R_pairUp_44 (by decide) ?_
      refine lv_icmp_ge (tgt := 129) hx hb d_R_pairUp_46 rfl (fun h67 => ?_) (fun h67 => ?_)
      · have hf68 := ifp hf65 h67
        cases hf68
        have e70 := he52 (by show (1 : Nat) ≠ 0; decide)
        cases e70
        exact kx42_1 rfl H59 L60 ls61 hP62 hS63 (lv_sub hl64 [0, 1, 2, 3, 4] rfl)
      · have hf69 := ifn hf65 h67
        refine lv_aload_n hx hb d_R_pairUp_49 rfl (lv_at hl64 1 rfl) ?_
        refine va_get (D := D) (ci := 0) (v := .ref (ad 4)) (C := R_H) (T := F_H) (N := 9) hx hb hts (fun w h => List.mem_cons_of_mem _ (uw_H w h)) hown hK hP62 0 rfl rfl 3 (by decide) (hts _ (List.mem_cons_of_mem _ tb_543)) (fun _ h => h) rfl d_R_pairUp_50 ?_
        refine lv_iload hx hb d_R_pairUp_53 (lv_at hl64 5 rfl) ?_
        obtain ⟨hg71, hf72⟩ := grd_ex hf69
        refine va_iald hx hb hK hP62 4 2 rfl rfl (inB_in hg71) d_R_pairUp_55 ?_
        refine lv_iload hx hb d_R_pairUp_56 (lv_at hl64 2 rfl) ?_
        refine lv_iand hx hb d_R_pairUp_58 ?_
        refine lv_iload hx hb d_R_pairUp_59 (lv_at hl64 6 rfl) ?_
        obtain ⟨x73, hc74, hf75⟩ := ob1_ex hf72
        refine jd_ci (va_runSN (As := [.int ((I58 3 x44.toNatClampNeg) &&& x55), .int x57]) (rest := []) cx (cm_K_holds l D ca (wC ca ad hs I58 J0) (I0 := I58) (J0 := J0) hc74 H59.size) ⟨va_cnB 2 hts (jd_gB tb_132) rfl rfl rfl (hN _ nw_3) (hts _ (List.mem_cons_of_mem _ tb_43)) ⟨by decide, by decide, rfl⟩ (by rw [hR]; decide), hts _ (List.mem_cons_of_mem _ tb_131), trivial⟩ ⟨jd_blind nWc, (jd_pre (av := [.int ((I58 3 x44.toNatClampNeg) &&& x55), .int x57]) hP62 hK (hD I58 J0) (fun U h => nWm h hN))⟩ rfl rfl hl64.1 rfl (lv_room (Nat.le_of_ble_eq_true rfl)) d_R_pairUp_61 ⟨Nat.zero_le _, Nat.zero_le _⟩) hS63 (hD I58 J0) hA (fun H76 L77 hP78 hS79 => ?_)
        refine lv_if_eq (tgt := 123) hx hb d_R_pairUp_64 rfl (fun h80 => ?_) (fun h80 => ?_)
        · have hf81 := ifp hf75 h80
          obtain ⟨x83, e84, hf85⟩ := bnd_ex hf81
          refine lv_iinc hx hb d_R_pairUp_123 hl64 (k := 6) rfl (v := x83) (by rw [e84]; rfl) (by decide) (lv' := [(8, .int x83), (0, .ref (ad 9)), (1, .ref (ad 0)), (4, .int x55), (5, .int x56), (6, .int x23), (7, .int x44)]) rfl (fun ls86 hl87 => ?_)
          refine lv_goto (tgt := 42) hx hb d_R_pairUp_126 rfl ?_
          cases hf85
          exact hc51 rfl H76 L77 ls86 hP78 hS79 (lv_sub hl87 [1, 2, 3, 4, 5, 6, 0] rfl)
        · have hf82 := ifn hf75 h80
          refine lv_iload hx hb d_R_pairUp_67 (lv_at hl64 2 rfl) ?_
          refine lv_iconst (v := 1) hx hb d_R_pairUp_69 (by decide) ?_
          refine lv_iload hx hb d_R_pairUp_70 (lv_at hl64 6 rfl) ?_
          refine lv_ishl hx hb d_R_pairUp_72 ?_
          refine lv_iconst (v := -1) hx hb d_R_pairUp_73 (by decide) ?_
          refine lv_ixor hx hb d_R_pairUp_74 ?_
          refine lv_iand hx hb d_R_pairUp_75 ?_
          obtain ⟨x88, e89, hf90⟩ := bnd_ex hf82
          refine jd_tni e89 ?_
          refine lv_istore hx hb d_R_pairUp_76 hl64 (by decide) (lv' := [(4, .int x88), (0, .ref (ad 9)), (1, .ref (ad 0)), (5, .int x56), (6, .int x23), (7, .int x44), (8, .int x57)]) rfl (fun ls91 hl92 => ?_)
          refine lv_aload_n hx hb d_R_pairUp_78 rfl (lv_at hl92 1 rfl) ?_
          refine va_get (D := D) (ci := 2) (v := .ref (ad 13)) (C := R_R) (T := F_R) (N := 8) hx hb hts (fun w h => List.mem_cons_of_mem _ (uw_R w h)) hown hK hP78 9 rfl rfl 6 (by decide) (hts _ (List.mem_cons_of_mem _ tb_517)) (fun _ h => h) rfl d_R_pairUp_79 ?_
          refine lv_iload hx hb d_R_pairUp_82 (lv_at hl92 6 rfl) ?_
          refine lv_iload hx hb d_R_pairUp_84 (lv_at hl92 5 rfl) ?_
          obtain ⟨hg93, hf94⟩ := grd_ex hf90
          obtain ⟨I95, e96, hf97⟩ := bnd_ex hf94
          refine va_iast hx hb hK hP78 (hD I58 J0) hS79 13 2 rfl rfl (inB_in hg93) d_R_pairUp_86 (fun H98 L99 hp102 _ hS101 => ?_)
          have hP100 : va_P D cls_all (wC ca ad hs I95 J0) H98 := by rw [e96]; exact hp102
          refine lv_aload_n hx hb d_R_pairUp_87 rfl (lv_at hl92 1 rfl) ?_
          refine va_get (D := D) (ci := 2) (v := .ref (ad 12)) (C := R_R) (T := F_R) (N := 8) hx hb hts (fun w h => List.mem_cons_of_mem _ (uw_R w h)) hown hK hP100 9 rfl rfl 5 (by decide) (hts _ (List.mem_cons_of_mem _ tb_516)) (fun _ h => h) rfl d_R_pairUp_88 ?_
          refine lv_iload hx hb d_R_pairUp_91 (lv_at hl92 6 rfl) ?_
          obtain ⟨hg103, hf104⟩ := grd_ex hf97
          refine va_iald hx hb hK hP100 12 2 rfl rfl (inB_in hg103) d_R_pairUp_93 ?_
          refine lv_iconst (v := -1) hx hb d_R_pairUp_94 (by decide) ?_
          refine lv_icmp_ne (tgt := 106) hx hb d_R_pairUp_95 rfl (fun h105 => ?_) (fun h105 => ?_)
          · have hf106 := ifn hf104 h105
            refine lv_aload_n hx hb d_R_pairUp_106 rfl (lv_at hl92 1 rfl) ?_
            refine va_get (D := D) (ci := 2) (v := .ref (ad 14)) (C := R_R) (T := F_R) (N := 8) hx hb hts (fun w h => List.mem_cons_of_mem _ (uw_R w h)) hown hK hP100 9 rfl rfl 7 (by decide) (hts _ (List.mem_cons_of_mem _ tb_518)) (fun _ h => h) rfl d_R_pairUp_107 ?_
            refine lv_iload hx hb d_R_pairUp_110 (lv_at hl92 3 rfl) ?_
            refine lv_aload_n hx hb d_R_pairUp_112 rfl (lv_at hl92 1 rfl) ?_
            refine va_get (D := D) (ci := 2) (v := .ref (ad 12)) (C := R_R) (T := F_R) (N := 8) hx hb hts (fun w h => List.mem_cons_of_mem _ (uw_R w h)) hown hK hP100 9 rfl rfl 5 (by decide) (hts _ (List.mem_cons_of_mem _ tb_516)) (fun _ h => h) rfl d_R_pairUp_113 ?_
            refine lv_iload hx hb d_R_pairUp_116 (lv_at hl92 6 rfl) ?_
            obtain ⟨hg108, hf109⟩ := grd_ex hf106
            refine va_iald hx hb hK hP100 12 2 rfl rfl (inB_in hg108) d_R_pairUp_118 ?_
            obtain ⟨hg110, hf111⟩ := grd_ex hf109
            obtain ⟨I112, e113, hf114⟩ := bnd_ex hf111
            refine va_iast hx hb hK hP100 (hD I95 J0) hS101 14 2 rfl rfl (inB_in hg110) d_R_pairUp_119 (fun H115 L116 hp119 _ hS118 => ?_)
            have hP117 : va_P D cls_all (wC ca ad hs I112 J0) H115 := by rw [e113]; exact hp119
            obtain ⟨x120, e121, hf122⟩ := bnd_ex hf114
            refine lv_iinc hx hb d_R_pairUp_120 hl92 (k := 3) rfl (v := x120) (by rw [e121]; rfl) (by decide) (lv' := [(5, .int x120), (4, .int x88), (0, .ref (ad 9)), (1, .ref (ad 0)), (6, .int x23), (7, .int x44), (8, .int x57)]) rfl (fun ls123 hl124 => ?_)
            obtain ⟨x125, e126, hf127⟩ := bnd_ex hf122
            refine lv_iinc hx hb d_R_pairUp_123 hl124 (k := 6) rfl (v := x125) (by rw [e126]; rfl) (by decide) (lv' := [(8, .int x125), (5, .int x120), (4, .int x88), (0, .ref (ad 9)), (1, .ref (ad 0)), (6, .int x23), (7, .int x44)]) rfl (fun ls128 hl129 => ?_)
            refine lv_goto (tgt := 42) hx hb d_R_pairUp_126 rfl ?_
            cases hf127
            exact hc51 rfl H115 L116 ls128 hP117 hS118 (lv_sub hl129 [3, 4, 2, 1, 5, 6, 0] rfl)
          · have hf107 := ifp hf104 h105
            cases hf107
            have e130 := he52 (by show (2 : Nat) ≠ 0; decide)
            cases e130
            exact kx42_2 rfl H98 L99 ls91 hP100 hS101 (lv_sub hl92 [1, 6] rfl)
theorem d_R_mostPairs_0 : decode b_R_mostPairs 0 = .ok (.aload_n 0, 1) := by decide +kernel
theorem d_R_mostPairs_1 : decode b_R_mostPairs 1 = .ok (.getfield 15, 3) := by decide +kernel
theorem d_R_mostPairs_4 : decode b_R_mostPairs 4 = .ok (.iconst (-1), 1) := by decide +kernel
theorem d_R_mostPairs_5 : decode b_R_mostPairs 5 = .ok (.invokestatic 82, 3) := by decide +kernel
theorem d_R_mostPairs_8 : decode b_R_mostPairs 8 = .ok (.aload_n 0, 1) := by decide +kernel
theorem d_R_mostPairs_9 : decode b_R_mostPairs 9 = .ok (.getfield 18, 3) := by decide +kernel
theorem d_R_mostPairs_12 : decode b_R_mostPairs 12 = .ok (.iconst (-1), 1) := by decide +kernel
theorem d_R_mostPairs_13 : decode b_R_mostPairs 13 = .ok (.invokestatic 82, 3) := by decide +kernel
theorem d_R_mostPairs_16 : decode b_R_mostPairs 16 = .ok (.iconst 0, 1) := by decide +kernel
theorem d_R_mostPairs_17 : decode b_R_mostPairs 17 = .ok (.istore 4, 2) := by decide +kernel
theorem d_R_mostPairs_19 : decode b_R_mostPairs 19 = .ok (.iconst 0, 1) := by decide +kernel
theorem d_R_mostPairs_20 : decode b_R_mostPairs 20 = .ok (.istore 5, 2) := by decide +kernel
theorem d_R_mostPairs_22 : decode b_R_mostPairs 22 = .ok (.iload 5, 2) := by decide +kernel
theorem d_R_mostPairs_24 : decode b_R_mostPairs 24 = .ok (.bipush 16, 2) := by decide +kernel
theorem d_R_mostPairs_26 : decode b_R_mostPairs 26 = .ok (.if_icmp .ge 32, 3) := by decide +kernel
theorem d_R_mostPairs_29 : decode b_R_mostPairs 29 = .ok (.iload_n 2, 1) := by decide +kernel
theorem d_R_mostPairs_30 : decode b_R_mostPairs 30 = .ok (.iload 5, 2) := by decide +kernel
theorem d_R_mostPairs_32 : decode b_R_mostPairs 32 = .ok (.invokestatic 54, 3) := by decide +kernel
theorem d_R_mostPairs_35 : decode b_R_mostPairs 35 = .ok (.ifCond .eq 17, 3) := by decide +kernel
theorem d_R_mostPairs_38 : decode b_R_mostPairs 38 = .ok (.aload_n 0, 1) := by decide +kernel
theorem d_R_mostPairs_39 : decode b_R_mostPairs 39 = .ok (.aload_n 1, 1) := by decide +kernel
theorem d_R_mostPairs_40 : decode b_R_mostPairs 40 = .ok (.iload 5, 2) := by decide +kernel
theorem d_R_mostPairs_42 : decode b_R_mostPairs 42 = .ok (.iload_n 3, 1) := by decide +kernel
theorem d_R_mostPairs_43 : decode b_R_mostPairs 43 = .ok (.invokevirtual 88, 3) := by decide +kernel
theorem d_R_mostPairs_46 : decode b_R_mostPairs 46 = .ok (.ifCond .eq 6, 3) := by decide +kernel
theorem d_R_mostPairs_49 : decode b_R_mostPairs 49 = .ok (.iinc 4 1, 3) := by decide +kernel
theorem d_R_mostPairs_52 : decode b_R_mostPairs 52 = .ok (.iinc 5 1, 3) := by decide +kernel
theorem d_R_mostPairs_55 : decode b_R_mostPairs 55 = .ok (.goto (-33), 3) := by decide +kernel
theorem d_R_mostPairs_58 : decode b_R_mostPairs 58 = .ok (.iload 4, 2) := by decide +kernel
theorem d_R_mostPairs_60 : decode b_R_mostPairs 60 = .ok (.ireturn, 1) := by decide +kernel
def fm_R_mostPairs_B22 (p1 : Int32) (p2 : Int32) (x23 : Int32) (x24 : Int32) (I25 : IS) : Option (Nat × Int32 × Int32 × IS) :=
  if (16 : Int32) ≤ x24 then some (1, x23, x24, I25) else ob1 (fm_K_holds p1 x24) (fun x38 => if x38 = 0 then bnd (x24 + (1 : Int32)) (fun x48 => some (0, x23, x48, I25)) else ob2 (fm_R_pairUp x24 p2 I25) (fun x53 I54 => if x53 = 0 then bnd (x24 + (1 : Int32)) (fun x64 => some (0, x23, x64, I54)) else bnd (x23 + (1 : Int32)) (fun x69 => bnd (x24 + (1 : Int32)) (fun x74 => some (0, x69, x74, I54)))))
def fm_R_mostPairs (p1 : Int32) (p2 : Int32) (I0 : IS) : Option (Int32 × IS) :=
  ob1 (fm_A_fillI 12 16 (-1 : Int32) I0) (fun I1 => ob1 (fm_A_fillI 13 16 (-1 : Int32) I1) (fun I8 => ob4 (iter (fun z : Int32 × Int32 × IS => fm_R_mostPairs_B22 p1 p2 z.1 z.2.1 z.2.2) FU ((0 : Int32), (0 : Int32), I8)) (fun _ x80 x81 I82 => some (x80, I82))))
set_option maxHeartbeats 4000000 in
set_option maxRecDepth 100000 in
theorem cm_R_mostPairs (l : Launch) (D : va_G) (ca : Nat → ClassId) (ad : Nat → Nat) (hs : Nat → Option Nat) {p1 : Int32} {p2 : Int32} {I0 : IS} {J0 : JS} {r : Int32 × IS} (hf : fm_R_mostPairs p1 p2 I0 = some r) : CtI l y_R_mostPairs (Cond.code y_R_mostPairs b_R_mostPairs 6 (some .int) :: TB) { frames := 2, cells := 0, slots := 0, locals := 53 } [.ref (ad 9), .ref (ad 0), .int p1, .int p2] D cls_all (tysC ca) NN (wC ca ad hs I0 J0) (wC ca ad hs r.2 J0) r.1 := by
  refine jd_metI (cc := b_R_mostPairs) (by decide) rfl (Nat.le_of_ble_eq_true rfl) (lv := [(0, .ref (ad 9)), (1, .ref (ad 0)), (2, .int p1), (3, .int p2)]) rfl ?_
  intro p e R s m args below meth c A Q ls cx hR hK hN hD0 hA hP hS hl hend
  have hx := cx.1
  have hb := cx.2.1
  have hml := cx.2.2.1
  have hown := cx.2.2.2.1
  have hts := cx.2.2.2.2
  have hD : ∀ I J, va_D A (wC ca ad hs I J) := fun I J => jd_Dc hD0 rfl
  unfold fm_R_mostPairs at hf
  refine lv_aload_n hx hb d_R_mostPairs_0 rfl (lv_at hl 0 rfl) ?_
  refine va_get (D := D) (ci := 2) (v := .ref (ad 11)) (C := R_R) (T := F_R) (N := 8) hx hb hts (fun w h => List.mem_cons_of_mem _ (uw_R w h)) hown hK hP 9 rfl rfl 4 (by decide) (hts _ (List.mem_cons_of_mem _ tb_515)) (fun _ h => h) rfl d_R_mostPairs_1 ?_
  refine lv_iconst (v := -1) hx hb d_R_mostPairs_4 (by decide) ?_
  obtain ⟨I1, hc2, hf3⟩ := ob1_ex hf
  refine jd_cv (va_runS (As := [.ref (ad 11), .int (-1 : Int32)]) (rest := []) cx (cm_A_fillI l D ca (wC ca ad hs) (ad 11) (fun _ _ _ _ => rfl) (k := 12) (n := 16) (q := 11) (fun _ _ => rfl) (fun _ _ _ _ => rfl) hc2 s.heap.size) (va_cwS 2 hts (jd_gS2 tb_375 tb_103 tb_46 tb_104) rfl rfl rfl ⟨by decide, by decide, rfl⟩ (by rw [hR]; decide)) ⟨jd_blind nWc, (jd_pre (av := [.ref (ad 11), .int (-1 : Int32)]) hP hK (hD I0 J0) (fun U h => nWm h hN))⟩ rfl rfl hl.1 rfl (lv_room (Nat.le_of_ble_eq_true rfl)) d_R_mostPairs_5 ⟨Nat.zero_le _, Nat.zero_le _⟩) hS (hD I0 J0) hA (fun H4 L5 hP6 hS7 => ?_)
  refine lv_aload_n hx hb d_R_mostPairs_8 rfl (lv_at hl 0 rfl) ?_
  refine va_get (D := D) (ci := 2) (v := .ref (ad 12)) (C := R_R) (T := F_R) (N := 8) hx hb hts (fun w h => List.mem_cons_of_mem _ (uw_R w h)) hown hK hP6 9 rfl rfl 5 (by decide) (hts _ (List.mem_cons_of_mem _ tb_516)) (fun _ h => h) rfl d_R_mostPairs_9 ?_
  refine lv_iconst (v := -1) hx hb d_R_mostPairs_12 (by decide) ?_
  obtain ⟨I8, hc9, hf10⟩ := ob1_ex hf3
  refine jd_cv (va_runS (As := [.ref (ad 12), .int (-1 : Int32)]) (rest := []) cx (cm_A_fillI l D ca (wC ca ad hs) (ad 12) (fun _ _ _ _ => rfl) (k := 13) (n := 16) (q := 12) (fun _ _ => rfl) (fun _ _ _ _ => rfl) hc9 H4.size) (va_cwS 2 hts (jd_gS2 tb_375 tb_103 tb_46 tb_104) rfl rfl rfl ⟨by decide, by decide, rfl⟩ (by rw [hR]; decide)) ⟨jd_blind nWc, (jd_pre (av := [.ref (ad 12), .int (-1 : Int32)]) hP6 hK (hD I1 J0) (fun U h => nWm h hN))⟩ rfl rfl hl.1 rfl (lv_room (Nat.le_of_ble_eq_true rfl)) d_R_mostPairs_13 ⟨Nat.zero_le _, Nat.zero_le _⟩) hS7 (hD I1 J0) hA (fun H11 L12 hP13 hS14 => ?_)
  refine lv_iconst (v := 0) hx hb d_R_mostPairs_16 (by decide) ?_
  refine lv_istore hx hb d_R_mostPairs_17 hl (by decide) (lv' := [(4, .int (0 : Int32)), (0, .ref (ad 9)), (1, .ref (ad 0)), (2, .int p1), (3, .int p2)]) rfl (fun ls15 hl16 => ?_)
  refine lv_iconst (v := 0) hx hb d_R_mostPairs_19 (by decide) ?_
  refine lv_istore hx hb d_R_mostPairs_20 hl16 (by decide) (lv' := [(5, .int (0 : Int32)), (4, .int (0 : Int32)), (0, .ref (ad 9)), (1, .ref (ad 0)), (2, .int p1), (3, .int p2)]) rfl (fun ls17 hl18 => ?_)
  obtain ⟨tg79, x80, x81, I82, ho83, hf84⟩ := ob4_ex hf10
  have kx22_1 : ∀ (H85 : Heap) (L86 : List Loc) (ls87 : Array Slot), va_P D cls_all (wC ca ad hs I82 J0) H85 → va_S A s.heap H85 L86 → lv_has ls87 6 [(4, .int x80)] → W p l e R s m args below meth c H85 L86 0 0 Q (F0 m 58 ls87 []) := by
    intro H85 L86 ls87 hP88 hS89 hl90
    refine lv_iload hx hb d_R_mostPairs_58 (lv_at hl90 0 rfl) ?_
    cases hf84
    exact hend H85 L86 60 ls87 hP88 hS89 d_R_mostPairs_60
  refine iter_ind (C := fun z : Int32 × Int32 × IS => ∀ (H26 : Heap) (L27 : List Loc) (ls28 : Array Slot), va_P D cls_all (wC ca ad hs z.2.2 J0) H26 → va_S A s.heap H26 L27 → lv_has ls28 6 [(0, .ref (ad 9)), (1, .ref (ad 0)), (2, .int p1), (3, .int p2), (4, .int z.1), (5, .int z.2.1)] → W p l e R s m args below meth c H26 L27 0 0 Q (F0 m 22 ls28 [])) (fun z22 o21 hz33 hc19 he20 => ?_) _ _ ho83 H11 L12 ls17 hP13 hS14 (lv_sub hl18 [2, 3, 4, 5, 1, 0] rfl)
  obtain ⟨x23, x24, I25⟩ := z22
  intro H26 L27 ls28 hP29 hS30 hl31
  have hf32 : fm_R_mostPairs_B22 p1 p2 x23 x24 I25 = some o21 := hz33
  unfold fm_R_mostPairs_B22 at hf32
  refine lv_iload hx hb d_R_mostPairs_22 (lv_at hl31 5 rfl) ?_
  refine lv_bipush (v := 16) hx hb d_R_mostPairs_24 (by decide) ?_
  refine lv_icmp_ge (tgt := 58) hx hb d_R_mostPairs_26 rfl (fun h34 => ?_) (fun h34 => ?_)
  · have hf35 := ifp hf32 h34
    cases hf35
    have e37 := he20 (by show (1 : Nat) ≠ 0; decide)
    cases e37
    exact kx22_1 H26 L27 ls28 hP29 hS30 (lv_sub hl31 [4] rfl)
  · have hf36 := ifn hf32 h34
    refine lv_iload_n hx hb d_R_mostPairs_29 rfl (lv_at hl31 2 rfl) ?_
    refine lv_iload hx hb d_R_mostPairs_30 (lv_at hl31 5 rfl) ?_
    obtain ⟨x38, hc39, hf40⟩ := ob1_ex hf36
    refine jd_ci (va_runSN (As := [.int p1, .int x24]) (rest := []) cx (cm_K_holds l D ca (wC ca ad hs I25 J0) (I0 := I25) (J0 := J0) hc39 H26.size) ⟨va_cnB 2 hts (jd_gB tb_132) rfl rfl rfl (hN _ nw_3) (hts _ (List.mem_cons_of_mem _ tb_43)) ⟨by decide, by decide, rfl⟩ (by rw [hR]; decide), hts _ (List.mem_cons_of_mem _ tb_131), trivial⟩ ⟨jd_blind nWc, (jd_pre (av := [.int p1, .int x24]) hP29 hK (hD I25 J0) (fun U h => nWm h hN))⟩ rfl rfl hl31.1 rfl (lv_room (Nat.le_of_ble_eq_true rfl)) d_R_mostPairs_32 ⟨Nat.zero_le _, Nat.zero_le _⟩) hS30 (hD I25 J0) hA (fun H41 L42 hP43 hS44 => ?_)
    refine lv_if_eq (tgt := 52) hx hb d_R_mostPairs_35 rfl (fun h45 => ?_) (fun h45 => ?_)
    · have hf46 := ifp hf40 h45
      obtain ⟨x48, e49, hf50⟩ := bnd_ex hf46
      refine lv_iinc hx hb d_R_mostPairs_52 hl31 (k := 5) rfl (v := x48) (by rw [e49]; rfl) (by decide) (lv' := [(5, .int x48), (0, .ref (ad 9)), (1, .ref (ad 0)), (2, .int p1), (3, .int p2), (4, .int x23)]) rfl (fun ls51 hl52 => ?_)
      refine lv_goto (tgt := 22) hx hb d_R_mostPairs_55 rfl ?_
      cases hf50
      exact hc19 rfl H41 L42 ls51 hP43 hS44 (lv_sub hl52 [1, 2, 3, 4, 5, 0] rfl)
    · have hf47 := ifn hf40 h45
      refine lv_aload_n hx hb d_R_mostPairs_38 rfl (lv_at hl31 0 rfl) ?_
      refine lv_aload_n hx hb d_R_mostPairs_39 rfl (lv_at hl31 1 rfl) ?_
      refine lv_iload hx hb d_R_mostPairs_40 (lv_at hl31 5 rfl) ?_
      refine lv_iload_n hx hb d_R_mostPairs_42 rfl (lv_at hl31 3 rfl) ?_
      obtain ⟨x53, I54, hc55, hf56⟩ := ob2_ex hf47
      refine jd_ci (va_runV (As := [.ref (ad 0), .int x24, .int p2]) (rest := []) cx (cm_R_pairUp l D ca ad hs hc55 H41.size) (cwV 3 hts (jd_gV tb_376 tb_377 tb_20 tb_54 tb_378) rfl rfl rfl ⟨rfl, by decide, by decide, rfl⟩ (by rw [hR]; decide)) ⟨jd_blind nWc, (va_recv hK hP43 (ci := 2) (q0 := 9) rfl rfl), (jd_pre (av := [.ref (ad 9), .ref (ad 0), .int x24, .int p2]) hP43 hK (hD I25 J0) (fun U h => nWm h hN))⟩ rfl rfl hl31.1 rfl (lv_room (Nat.le_of_ble_eq_true rfl)) d_R_mostPairs_43 ⟨Nat.zero_le _, Nat.zero_le _⟩) hS44 (hD I25 J0) hA (fun H57 L58 hP59 hS60 => ?_)
      refine lv_if_eq (tgt := 52) hx hb d_R_mostPairs_46 rfl (fun h61 => ?_) (fun h61 => ?_)
      · have hf62 := ifp hf56 h61
        obtain ⟨x64, e65, hf66⟩ := bnd_ex hf62
        refine lv_iinc hx hb d_R_mostPairs_52 hl31 (k := 5) rfl (v := x64) (by rw [e65]; rfl) (by decide) (lv' := [(5, .int x64), (0, .ref (ad 9)), (1, .ref (ad 0)), (2, .int p1), (3, .int p2), (4, .int x23)]) rfl (fun ls67 hl68 => ?_)
        refine lv_goto (tgt := 22) hx hb d_R_mostPairs_55 rfl ?_
        cases hf66
        exact hc19 rfl H57 L58 ls67 hP59 hS60 (lv_sub hl68 [1, 2, 3, 4, 5, 0] rfl)
      · have hf63 := ifn hf56 h61
        obtain ⟨x69, e70, hf71⟩ := bnd_ex hf63
        refine lv_iinc hx hb d_R_mostPairs_49 hl31 (k := 4) rfl (v := x69) (by rw [e70]; rfl) (by decide) (lv' := [(4, .int x69), (0, .ref (ad 9)), (1, .ref (ad 0)), (2, .int p1), (3, .int p2), (5, .int x24)]) rfl (fun ls72 hl73 => ?_)
        obtain ⟨x74, e75, hf76⟩ := bnd_ex hf71
        refine lv_iinc hx hb d_R_mostPairs_52 hl73 (k := 5) rfl (v := x74) (by rw [e75]; rfl) (by decide) (lv' := [(5, .int x74), (4, .int x69), (0, .ref (ad 9)), (1, .ref (ad 0)), (2, .int p1), (3, .int p2)]) rfl (fun ls77 hl78 => ?_)
        refine lv_goto (tgt := 22) hx hb d_R_mostPairs_55 rfl ?_
        cases hf76
        exact hc19 rfl H57 L58 ls77 hP59 hS60 (lv_sub hl78 [2, 3, 4, 5, 1, 0] rfl)
theorem d_R_widthOf_0 : decode b_R_widthOf 0 = .ok (.iload_n 2, 1) := by decide +kernel
theorem d_R_widthOf_1 : decode b_R_widthOf 1 = .ok (.invokestatic 76, 3) := by decide +kernel
theorem d_R_widthOf_4 : decode b_R_widthOf 4 = .ok (.aload_n 0, 1) := by decide +kernel
theorem d_R_widthOf_5 : decode b_R_widthOf 5 = .ok (.aload_n 1, 1) := by decide +kernel
theorem d_R_widthOf_6 : decode b_R_widthOf 6 = .ok (.iload_n 2, 1) := by decide +kernel
theorem d_R_widthOf_7 : decode b_R_widthOf 7 = .ok (.iload_n 2, 1) := by decide +kernel
theorem d_R_widthOf_8 : decode b_R_widthOf 8 = .ok (.invokevirtual 69, 3) := by decide +kernel
theorem d_R_widthOf_11 : decode b_R_widthOf 11 = .ok (.isub, 1) := by decide +kernel
theorem d_R_widthOf_12 : decode b_R_widthOf 12 = .ok (.ireturn, 1) := by decide +kernel
def fm_R_widthOf (p1 : Int32) (I0 : IS) : Option (Int32 × IS) :=
  ob1 (fm_G_bitCount p1) (fun x1 => ob2 (fm_R_mostPairs p1 p1 I0) (fun x8 I9 => some (x1 - x8, I9)))
set_option maxHeartbeats 4000000 in
set_option maxRecDepth 100000 in
theorem cm_R_widthOf (l : Launch) (D : va_G) (ca : Nat → ClassId) (ad : Nat → Nat) (hs : Nat → Option Nat) {p1 : Int32} {I0 : IS} {J0 : JS} {r : Int32 × IS} (hf : fm_R_widthOf p1 I0 = some r) : CtI l y_R_widthOf (Cond.code y_R_widthOf b_R_widthOf 3 (some .int) :: TB) { frames := 3, cells := 0, slots := 0, locals := 78 } [.ref (ad 9), .ref (ad 0), .int p1] D cls_all (tysC ca) NN (wC ca ad hs I0 J0) (wC ca ad hs r.2 J0) r.1 := by
  refine jd_metI (cc := b_R_widthOf) (by decide) rfl (Nat.le_of_ble_eq_true rfl) (lv := [(0, .ref (ad 9)), (1, .ref (ad 0)), (2, .int p1)]) rfl ?_
  intro p e R s m args below meth c A Q ls cx hR hK hN hD0 hA hP hS hl hend
  have hx := cx.1
  have hb := cx.2.1
  have hml := cx.2.2.1
  have hown := cx.2.2.2.1
  have hts := cx.2.2.2.2
  have hD : ∀ I J, va_D A (wC ca ad hs I J) := fun I J => jd_Dc hD0 rfl
  unfold fm_R_widthOf at hf
  refine lv_iload_n hx hb d_R_widthOf_0 rfl (lv_at hl 2 rfl) ?_
  obtain ⟨x1, hc2, hf3⟩ := ob1_ex hf
  refine jd_ci (va_runS (As := [.int p1]) (rest := []) cx (cm_G_bitCount l D ca (wC ca ad hs I0 J0) (I0 := I0) (J0 := J0) hc2 s.heap.size) (va_cwS 1 hts (jd_gS2 tb_371 tb_201 tb_55 tb_202) rfl rfl rfl ⟨by decide, by decide, rfl⟩ (by rw [hR]; decide)) ⟨jd_blind nWc, (jd_pre (av := [.int p1]) hP hK (hD I0 J0) (fun U h => nWm h hN))⟩ rfl rfl hl.1 rfl (lv_room (Nat.le_of_ble_eq_true rfl)) d_R_widthOf_1 ⟨Nat.zero_le _, Nat.zero_le _⟩) hS (hD I0 J0) hA (fun H4 L5 hP6 hS7 => ?_)
  refine lv_aload_n hx hb d_R_widthOf_4 rfl (lv_at hl 0 rfl) ?_
  refine lv_aload_n hx hb d_R_widthOf_5 rfl (lv_at hl 1 rfl) ?_
  refine lv_iload_n hx hb d_R_widthOf_6 rfl (lv_at hl 2 rfl) ?_
  refine lv_iload_n hx hb d_R_widthOf_7 rfl (lv_at hl 2 rfl) ?_
  obtain ⟨x8, I9, hc10, hf11⟩ := ob2_ex hf3
  refine jd_ci (va_runV (As := [.ref (ad 0), .int p1, .int p1]) (rest := [.int x1]) cx (cm_R_mostPairs l D ca ad hs hc10 H4.size) (cwV 3 hts (jd_gV tb_372 tb_373 tb_19 tb_54 tb_374) rfl rfl rfl ⟨rfl, by decide, by decide, rfl⟩ (by rw [hR]; decide)) ⟨jd_blind nWc, (va_recv hK hP6 (ci := 2) (q0 := 9) rfl rfl), (jd_pre (av := [.ref (ad 9), .ref (ad 0), .int p1, .int p1]) hP6 hK (hD I0 J0) (fun U h => nWm h hN))⟩ rfl rfl hl.1 rfl (lv_room (Nat.le_of_ble_eq_true rfl)) d_R_widthOf_8 ⟨Nat.zero_le _, Nat.zero_le _⟩) hS7 (hD I0 J0) hA (fun H12 L13 hP14 hS15 => ?_)
  refine lv_isub hx hb d_R_widthOf_11 ?_
  cases hf11
  exact hend H12 L13 12 ls hP14 hS15 d_R_widthOf_12
theorem d_R_leastFollower_0 : decode b_R_leastFollower 0 = .ok (.iconst 0, 1) := by decide +kernel
theorem d_R_leastFollower_1 : decode b_R_leastFollower 1 = .ok (.istore 6, 2) := by decide +kernel
theorem d_R_leastFollower_3 : decode b_R_leastFollower 3 = .ok (.iload 6, 2) := by decide +kernel
theorem d_R_leastFollower_5 : decode b_R_leastFollower 5 = .ok (.bipush 16, 2) := by decide +kernel
theorem d_R_leastFollower_7 : decode b_R_leastFollower 7 = .ok (.if_icmp .ge 51, 3) := by decide +kernel
theorem d_R_leastFollower_10 : decode b_R_leastFollower 10 = .ok (.aload_n 1, 1) := by decide +kernel
theorem d_R_leastFollower_11 : decode b_R_leastFollower 11 = .ok (.getfield 66, 3) := by decide +kernel
theorem d_R_leastFollower_14 : decode b_R_leastFollower 14 = .ok (.iload_n 2, 1) := by decide +kernel
theorem d_R_leastFollower_15 : decode b_R_leastFollower 15 = .ok (.iaload, 1) := by decide +kernel
theorem d_R_leastFollower_16 : decode b_R_leastFollower 16 = .ok (.iload 4, 2) := by decide +kernel
theorem d_R_leastFollower_18 : decode b_R_leastFollower 18 = .ok (.iand, 1) := by decide +kernel
theorem d_R_leastFollower_19 : decode b_R_leastFollower 19 = .ok (.iload 6, 2) := by decide +kernel
theorem d_R_leastFollower_21 : decode b_R_leastFollower 21 = .ok (.invokestatic 54, 3) := by decide +kernel
theorem d_R_leastFollower_24 : decode b_R_leastFollower 24 = .ok (.ifCond .eq 28, 3) := by decide +kernel
theorem d_R_leastFollower_27 : decode b_R_leastFollower 27 = .ok (.aload_n 0, 1) := by decide +kernel
theorem d_R_leastFollower_28 : decode b_R_leastFollower 28 = .ok (.aload_n 1, 1) := by decide +kernel
theorem d_R_leastFollower_29 : decode b_R_leastFollower 29 = .ok (.iload_n 3, 1) := by decide +kernel
theorem d_R_leastFollower_30 : decode b_R_leastFollower 30 = .ok (.iload 4, 2) := by decide +kernel
theorem d_R_leastFollower_32 : decode b_R_leastFollower 32 = .ok (.iconst 1, 1) := by decide +kernel
theorem d_R_leastFollower_33 : decode b_R_leastFollower 33 = .ok (.iload 6, 2) := by decide +kernel
theorem d_R_leastFollower_35 : decode b_R_leastFollower 35 = .ok (.ishl, 1) := by decide +kernel
theorem d_R_leastFollower_36 : decode b_R_leastFollower 36 = .ok (.iconst (-1), 1) := by decide +kernel
theorem d_R_leastFollower_37 : decode b_R_leastFollower 37 = .ok (.ixor, 1) := by decide +kernel
theorem d_R_leastFollower_38 : decode b_R_leastFollower 38 = .ok (.iand, 1) := by decide +kernel
theorem d_R_leastFollower_39 : decode b_R_leastFollower 39 = .ok (.invokevirtual 69, 3) := by decide +kernel
theorem d_R_leastFollower_42 : decode b_R_leastFollower 42 = .ok (.iload 5, 2) := by decide +kernel
theorem d_R_leastFollower_44 : decode b_R_leastFollower 44 = .ok (.iconst 1, 1) := by decide +kernel
theorem d_R_leastFollower_45 : decode b_R_leastFollower 45 = .ok (.isub, 1) := by decide +kernel
theorem d_R_leastFollower_46 : decode b_R_leastFollower 46 = .ok (.if_icmp .ne 6, 3) := by decide +kernel
theorem d_R_leastFollower_49 : decode b_R_leastFollower 49 = .ok (.iload 6, 2) := by decide +kernel
theorem d_R_leastFollower_51 : decode b_R_leastFollower 51 = .ok (.ireturn, 1) := by decide +kernel
theorem d_R_leastFollower_52 : decode b_R_leastFollower 52 = .ok (.iinc 6 1, 3) := by decide +kernel
theorem d_R_leastFollower_55 : decode b_R_leastFollower 55 = .ok (.goto (-52), 3) := by decide +kernel
theorem d_R_leastFollower_58 : decode b_R_leastFollower 58 = .ok (.iconst (-1), 1) := by decide +kernel
theorem d_R_leastFollower_59 : decode b_R_leastFollower 59 = .ok (.ireturn, 1) := by decide +kernel
def fm_R_leastFollower_B3 (p1 : Int32) (p2 : Int32) (p3 : Int32) (p4 : Int32) (x7 : Int32) (I8 : IS) : Option (Nat × Int32 × IS) :=
  if (16 : Int32) ≤ x7 then some (1, x7, I8) else grd (inB p1 16) (ob1 (fm_K_holds ((I8 3 p1.toNatClampNeg) &&& p3) x7) (fun x23 => if x23 = 0 then bnd (x7 + (1 : Int32)) (fun x33 => some (0, x33, I8)) else ob2 (fm_R_mostPairs p2 (p3 &&& (((1 : Int32) <<< (x7 &&& 31)) ^^^ (-1 : Int32))) I8) (fun x38 I39 => if x38 = (p4 - (1 : Int32)) then some (2, x7, I39) else bnd (x7 + (1 : Int32)) (fun x49 => some (0, x49, I39)))))
def fm_R_leastFollower (p1 : Int32) (p2 : Int32) (p3 : Int32) (p4 : Int32) (I0 : IS) : Option (Int32 × IS) :=
  ob3 (iter (fun z : Int32 × IS => fm_R_leastFollower_B3 p1 p2 p3 p4 z.1 z.2) FU ((0 : Int32), I0)) (fun tg55 x56 I57 => if tg55 = 1 then some ((-1 : Int32), I57) else some (x56, I57))
set_option maxHeartbeats 4000000 in
set_option maxRecDepth 100000 in
theorem cm_R_leastFollower (l : Launch) (D : va_G) (ca : Nat → ClassId) (ad : Nat → Nat) (hs : Nat → Option Nat) {p1 : Int32} {p2 : Int32} {p3 : Int32} {p4 : Int32} {I0 : IS} {J0 : JS} {r : Int32 × IS} (hf : fm_R_leastFollower p1 p2 p3 p4 I0 = some r) : CtI l y_R_leastFollower (Cond.code y_R_leastFollower b_R_leastFollower 7 (some .int) :: TB) { frames := 3, cells := 0, slots := 0, locals := 78 } [.ref (ad 9), .ref (ad 0), .int p1, .int p2, .int p3, .int p4] D cls_all (tysC ca) NN (wC ca ad hs I0 J0) (wC ca ad hs r.2 J0) r.1 := by
  refine jd_metI (cc := b_R_leastFollower) (by decide) rfl (Nat.le_of_ble_eq_true rfl) (lv := [(0, .ref (ad 9)), (1, .ref (ad 0)), (2, .int p1), (3, .int p2), (4, .int p3), (5, .int p4)]) rfl ?_
  intro p e R s m args below meth c A Q ls cx hR hK hN hD0 hA hP hS hl hend
  have hx := cx.1
  have hb := cx.2.1
  have hml := cx.2.2.1
  have hown := cx.2.2.2.1
  have hts := cx.2.2.2.2
  have hD : ∀ I J, va_D A (wC ca ad hs I J) := fun I J => jd_Dc hD0 rfl
  unfold fm_R_leastFollower at hf
  refine lv_iconst (v := 0) hx hb d_R_leastFollower_0 (by decide) ?_
  refine lv_istore hx hb d_R_leastFollower_1 hl (by decide) (lv' := [(6, .int (0 : Int32)), (0, .ref (ad 9)), (1, .ref (ad 0)), (2, .int p1), (3, .int p2), (4, .int p3), (5, .int p4)]) rfl (fun ls1 hl2 => ?_)
  obtain ⟨tg55, x56, I57, ho58, hf59⟩ := ob3_ex hf
  have kx3_1 : tg55 = 1 → ∀ (H60 : Heap) (L61 : List Loc) (ls62 : Array Slot), va_P D cls_all (wC ca ad hs I57 J0) H60 → va_S A s.heap H60 L61 → lv_has ls62 7 [] → W p l e R s m args below meth c H60 L61 0 0 Q (F0 m 58 ls62 []) := by
    intro ht67 H60 L61 ls62 hP63 hS64 hl65
    have hf66 := ifp hf59 ht67
    refine lv_iconst (v := -1) hx hb d_R_leastFollower_58 (by decide) ?_
    cases hf66
    exact hend H60 L61 59 ls62 hP63 hS64 d_R_leastFollower_59
  have kx3_2 : tg55 = 2 → ∀ (H68 : Heap) (L69 : List Loc) (ls70 : Array Slot), va_P D cls_all (wC ca ad hs I57 J0) H68 → va_S A s.heap H68 L69 → lv_has ls70 7 [(6, .int x56)] → W p l e R s m args below meth c H68 L69 0 0 Q (F0 m 49 ls70 []) := by
    intro ht75 H68 L69 ls70 hP71 hS72 hl73
    have hf76 := ifn hf59 (by rw [ht75]; decide)
    have hf74 := hf76
    refine lv_iload hx hb d_R_leastFollower_49 (lv_at hl73 0 rfl) ?_
    cases hf74
    exact hend H68 L69 51 ls70 hP71 hS72 d_R_leastFollower_51
  refine iter_ind (C := fun z : Int32 × IS => ∀ (H9 : Heap) (L10 : List Loc) (ls11 : Array Slot), va_P D cls_all (wC ca ad hs z.2 J0) H9 → va_S A s.heap H9 L10 → lv_has ls11 7 [(0, .ref (ad 9)), (1, .ref (ad 0)), (2, .int p1), (3, .int p2), (4, .int p3), (5, .int p4), (6, .int z.1)] → W p l e R s m args below meth c H9 L10 0 0 Q (F0 m 3 ls11 [])) (fun z6 o5 hz16 hc3 he4 => ?_) _ _ ho58 s.heap [] ls1 hP hS (lv_sub hl2 [1, 2, 3, 4, 5, 6, 0] rfl)
  obtain ⟨x7, I8⟩ := z6
  intro H9 L10 ls11 hP12 hS13 hl14
  have hf15 : fm_R_leastFollower_B3 p1 p2 p3 p4 x7 I8 = some o5 := hz16
  unfold fm_R_leastFollower_B3 at hf15
  refine lv_iload hx hb d_R_leastFollower_3 (lv_at hl14 6 rfl) ?_
  refine lv_bipush (v := 16) hx hb d_R_leastFollower_5 (by decide) ?_
  refine lv_icmp_ge (tgt := 58) hx hb d_R_leastFollower_7 rfl (fun h17 => ?_) (fun h17 => ?_)
  · have hf18 := ifp hf15 h17
    cases hf18
    have e20 := he4 (by show (1 : Nat) ≠ 0; decide)
    cases e20
    exact kx3_1 rfl H9 L10 ls11 hP12 hS13 (lv_sub hl14 [] rfl)
  · have hf19 := ifn hf15 h17
    refine lv_aload_n hx hb d_R_leastFollower_10 rfl (lv_at hl14 1 rfl) ?_
    refine va_get (D := D) (ci := 0) (v := .ref (ad 4)) (C := R_H) (T := F_H) (N := 9) hx hb hts (fun w h => List.mem_cons_of_mem _ (uw_H w h)) hown hK hP12 0 rfl rfl 3 (by decide) (hts _ (List.mem_cons_of_mem _ tb_543)) (fun _ h => h) rfl d_R_leastFollower_11 ?_
    refine lv_iload_n hx hb d_R_leastFollower_14 rfl (lv_at hl14 2 rfl) ?_
    obtain ⟨hg21, hf22⟩ := grd_ex hf19
    refine va_iald hx hb hK hP12 4 2 rfl rfl (inB_in hg21) d_R_leastFollower_15 ?_
    refine lv_iload hx hb d_R_leastFollower_16 (lv_at hl14 4 rfl) ?_
    refine lv_iand hx hb d_R_leastFollower_18 ?_
    refine lv_iload hx hb d_R_leastFollower_19 (lv_at hl14 6 rfl) ?_
    obtain ⟨x23, hc24, hf25⟩ := ob1_ex hf22
    refine jd_ci (va_runSN (As := [.int ((I8 3 p1.toNatClampNeg) &&& p3), .int x7]) (rest := []) cx (cm_K_holds l D ca (wC ca ad hs I8 J0) (I0 := I8) (J0 := J0) hc24 H9.size) ⟨va_cnB 2 hts (jd_gB tb_132) rfl rfl rfl (hN _ nw_3) (hts _ (List.mem_cons_of_mem _ tb_43)) ⟨by decide, by decide, rfl⟩ (by rw [hR]; decide), hts _ (List.mem_cons_of_mem _ tb_131), trivial⟩ ⟨jd_blind nWc, (jd_pre (av := [.int ((I8 3 p1.toNatClampNeg) &&& p3), .int x7]) hP12 hK (hD I8 J0) (fun U h => nWm h hN))⟩ rfl rfl hl14.1 rfl (lv_room (Nat.le_of_ble_eq_true rfl)) d_R_leastFollower_21 ⟨Nat.zero_le _, Nat.zero_le _⟩) hS13 (hD I8 J0) hA (fun H26 L27 hP28 hS29 => ?_)
    refine lv_if_eq (tgt := 52) hx hb d_R_leastFollower_24 rfl (fun h30 => ?_) (fun h30 => ?_)
    · have hf31 := ifp hf25 h30
      obtain ⟨x33, e34, hf35⟩ := bnd_ex hf31
      refine lv_iinc hx hb d_R_leastFollower_52 hl14 (k := 6) rfl (v := x33) (by rw [e34]; rfl) (by decide) (lv' := [(6, .int x33), (0, .ref (ad 9)), (1, .ref (ad 0)), (2, .int p1), (3, .int p2), (4, .int p3), (5, .int p4)]) rfl (fun ls36 hl37 => ?_)
      refine lv_goto (tgt := 3) hx hb d_R_leastFollower_55 rfl ?_
      cases hf35
      exact hc3 rfl H26 L27 ls36 hP28 hS29 (lv_sub hl37 [1, 2, 3, 4, 5, 6, 0] rfl)
    · have hf32 := ifn hf25 h30
      refine lv_aload_n hx hb d_R_leastFollower_27 rfl (lv_at hl14 0 rfl) ?_
      refine lv_aload_n hx hb d_R_leastFollower_28 rfl (lv_at hl14 1 rfl) ?_
      refine lv_iload_n hx hb d_R_leastFollower_29 rfl (lv_at hl14 3 rfl) ?_
      refine lv_iload hx hb d_R_leastFollower_30 (lv_at hl14 4 rfl) ?_
      refine lv_iconst (v := 1) hx hb d_R_leastFollower_32 (by decide) ?_
      refine lv_iload hx hb d_R_leastFollower_33 (lv_at hl14 6 rfl) ?_
      refine lv_ishl hx hb d_R_leastFollower_35 ?_
      refine lv_iconst (v := -1) hx hb d_R_leastFollower_36 (by decide) ?_
      refine lv_ixor hx hb d_R_leastFollower_37 ?_
      refine lv_iand hx hb d_R_leastFollower_38 ?_
      obtain ⟨x38, I39, hc40, hf41⟩ := ob2_ex hf32
      refine jd_ci (va_runV (As := [.ref (ad 0), .int p2, .int (p3 &&& (((1 : Int32) <<< (x7 &&& 31)) ^^^ (-1 : Int32)))]) (rest := []) cx (cm_R_mostPairs l D ca ad hs hc40 H26.size) (cwV 3 hts (jd_gV tb_372 tb_373 tb_19 tb_54 tb_374) rfl rfl rfl ⟨rfl, by decide, by decide, rfl⟩ (by rw [hR]; decide)) ⟨jd_blind nWc, (va_recv hK hP28 (ci := 2) (q0 := 9) rfl rfl), (jd_pre (av := [.ref (ad 9), .ref (ad 0), .int p2, .int (p3 &&& (((1 : Int32) <<< (x7 &&& 31)) ^^^ (-1 : Int32)))]) hP28 hK (hD I8 J0) (fun U h => nWm h hN))⟩ rfl rfl hl14.1 rfl (lv_room (Nat.le_of_ble_eq_true rfl)) d_R_leastFollower_39 ⟨Nat.zero_le _, Nat.zero_le _⟩) hS29 (hD I8 J0) hA (fun H42 L43 hP44 hS45 => ?_)
      refine lv_iload hx hb d_R_leastFollower_42 (lv_at hl14 5 rfl) ?_
      refine lv_iconst (v := 1) hx hb d_R_leastFollower_44 (by decide) ?_
      refine lv_isub hx hb d_R_leastFollower_45 ?_
      refine lv_icmp_ne (tgt := 52) hx hb d_R_leastFollower_46 rfl (fun h46 => ?_) (fun h46 => ?_)
      · have hf47 := ifn hf41 h46
        obtain ⟨x49, e50, hf51⟩ := bnd_ex hf47
        refine lv_iinc hx hb d_R_leastFollower_52 hl14 (k := 6) rfl (v := x49) (by rw [e50]; rfl) (by decide) (lv' := [(6, .int x49), (0, .ref (ad 9)), (1, .ref (ad 0)), (2, .int p1), (3, .int p2), (4, .int p3), (5, .int p4)]) rfl (fun ls52 hl53 => ?_)
        refine lv_goto (tgt := 3) hx hb d_R_leastFollower_55 rfl ?_
        cases hf51
        exact hc3 rfl H42 L43 ls52 hP44 hS45 (lv_sub hl53 [1, 2, 3, 4, 5, 6, 0] rfl)
      · have hf48 := ifp hf41 h46
        cases hf48
        have e54 := he4 (by show (2 : Nat) ≠ 0; decide)
        cases e54
        exact kx3_2 rfl H42 L43 ls11 hP44 hS45 (lv_sub hl14 [6] rfl)
theorem d_R_chooseFollowers_0 : decode b_R_chooseFollowers 0 = .ok (.aload_n 1, 1) := by decide +kernel
theorem d_R_chooseFollowers_1 : decode b_R_chooseFollowers 1 = .ok (.getfield 27, 3) := by decide +kernel
theorem d_R_chooseFollowers_4 : decode b_R_chooseFollowers 4 = .ok (.istore_n 2, 1) := by decide +kernel
theorem d_R_chooseFollowers_5 : decode b_R_chooseFollowers 5 = .ok (.aload_n 1, 1) := by decide +kernel
theorem d_R_chooseFollowers_6 : decode b_R_chooseFollowers 6 = .ok (.getfield 27, 3) := by decide +kernel
theorem d_R_chooseFollowers_9 : decode b_R_chooseFollowers 9 = .ok (.istore_n 3, 1) := by decide +kernel
theorem d_R_chooseFollowers_10 : decode b_R_chooseFollowers 10 = .ok (.aload_n 1, 1) := by decide +kernel
theorem d_R_chooseFollowers_11 : decode b_R_chooseFollowers 11 = .ok (.invokevirtual 58, 3) := by decide +kernel
theorem d_R_chooseFollowers_14 : decode b_R_chooseFollowers 14 = .ok (.aload_n 0, 1) := by decide +kernel
theorem d_R_chooseFollowers_15 : decode b_R_chooseFollowers 15 = .ok (.getfield 37, 3) := by decide +kernel
theorem d_R_chooseFollowers_18 : decode b_R_chooseFollowers 18 = .ok (.isub, 1) := by decide +kernel
theorem d_R_chooseFollowers_19 : decode b_R_chooseFollowers 19 = .ok (.istore 4, 2) := by decide +kernel
theorem d_R_chooseFollowers_21 : decode b_R_chooseFollowers 21 = .ok (.iconst 0, 1) := by decide +kernel
theorem d_R_chooseFollowers_22 : decode b_R_chooseFollowers 22 = .ok (.istore 5, 2) := by decide +kernel
theorem d_R_chooseFollowers_24 : decode b_R_chooseFollowers 24 = .ok (.iload 5, 2) := by decide +kernel
theorem d_R_chooseFollowers_26 : decode b_R_chooseFollowers 26 = .ok (.bipush 16, 2) := by decide +kernel
theorem d_R_chooseFollowers_28 : decode b_R_chooseFollowers 28 = .ok (.if_icmp .ge 64, 3) := by decide +kernel
theorem d_R_chooseFollowers_31 : decode b_R_chooseFollowers 31 = .ok (.iload_n 2, 1) := by decide +kernel
theorem d_R_chooseFollowers_32 : decode b_R_chooseFollowers 32 = .ok (.iconst 1, 1) := by decide +kernel
theorem d_R_chooseFollowers_33 : decode b_R_chooseFollowers 33 = .ok (.iload 5, 2) := by decide +kernel
theorem d_R_chooseFollowers_35 : decode b_R_chooseFollowers 35 = .ok (.ishl, 1) := by decide +kernel
theorem d_R_chooseFollowers_36 : decode b_R_chooseFollowers 36 = .ok (.iconst (-1), 1) := by decide +kernel
theorem d_R_chooseFollowers_37 : decode b_R_chooseFollowers 37 = .ok (.ixor, 1) := by decide +kernel
theorem d_R_chooseFollowers_38 : decode b_R_chooseFollowers 38 = .ok (.iand, 1) := by decide +kernel
theorem d_R_chooseFollowers_39 : decode b_R_chooseFollowers 39 = .ok (.istore_n 2, 1) := by decide +kernel
theorem d_R_chooseFollowers_40 : decode b_R_chooseFollowers 40 = .ok (.aload_n 0, 1) := by decide +kernel
theorem d_R_chooseFollowers_41 : decode b_R_chooseFollowers 41 = .ok (.getfield 9, 3) := by decide +kernel
theorem d_R_chooseFollowers_44 : decode b_R_chooseFollowers 44 = .ok (.iload 5, 2) := by decide +kernel
theorem d_R_chooseFollowers_46 : decode b_R_chooseFollowers 46 = .ok (.aload_n 0, 1) := by decide +kernel
theorem d_R_chooseFollowers_47 : decode b_R_chooseFollowers 47 = .ok (.aload_n 1, 1) := by decide +kernel
theorem d_R_chooseFollowers_48 : decode b_R_chooseFollowers 48 = .ok (.iload 5, 2) := by decide +kernel
theorem d_R_chooseFollowers_50 : decode b_R_chooseFollowers 50 = .ok (.iload_n 2, 1) := by decide +kernel
theorem d_R_chooseFollowers_51 : decode b_R_chooseFollowers 51 = .ok (.iload_n 3, 1) := by decide +kernel
theorem d_R_chooseFollowers_52 : decode b_R_chooseFollowers 52 = .ok (.iload 4, 2) := by decide +kernel
theorem d_R_chooseFollowers_54 : decode b_R_chooseFollowers 54 = .ok (.invokevirtual 62, 3) := by decide +kernel
theorem d_R_chooseFollowers_57 : decode b_R_chooseFollowers 57 = .ok (.iastore, 1) := by decide +kernel
theorem d_R_chooseFollowers_58 : decode b_R_chooseFollowers 58 = .ok (.aload_n 0, 1) := by decide +kernel
theorem d_R_chooseFollowers_59 : decode b_R_chooseFollowers 59 = .ok (.getfield 9, 3) := by decide +kernel
theorem d_R_chooseFollowers_62 : decode b_R_chooseFollowers 62 = .ok (.iload 5, 2) := by decide +kernel
theorem d_R_chooseFollowers_64 : decode b_R_chooseFollowers 64 = .ok (.iaload, 1) := by decide +kernel
theorem d_R_chooseFollowers_65 : decode b_R_chooseFollowers 65 = .ok (.iconst (-1), 1) := by decide +kernel
theorem d_R_chooseFollowers_66 : decode b_R_chooseFollowers 66 = .ok (.if_icmp .eq 20, 3) := by decide +kernel
theorem d_R_chooseFollowers_69 : decode b_R_chooseFollowers 69 = .ok (.iload_n 3, 1) := by decide +kernel
theorem d_R_chooseFollowers_70 : decode b_R_chooseFollowers 70 = .ok (.iconst 1, 1) := by decide +kernel
theorem d_R_chooseFollowers_71 : decode b_R_chooseFollowers 71 = .ok (.aload_n 0, 1) := by decide +kernel
theorem d_R_chooseFollowers_72 : decode b_R_chooseFollowers 72 = .ok (.getfield 9, 3) := by decide +kernel
theorem d_R_chooseFollowers_75 : decode b_R_chooseFollowers 75 = .ok (.iload 5, 2) := by decide +kernel
theorem d_R_chooseFollowers_77 : decode b_R_chooseFollowers 77 = .ok (.iaload, 1) := by decide +kernel
theorem d_R_chooseFollowers_78 : decode b_R_chooseFollowers 78 = .ok (.ishl, 1) := by decide +kernel
theorem d_R_chooseFollowers_79 : decode b_R_chooseFollowers 79 = .ok (.iconst (-1), 1) := by decide +kernel
theorem d_R_chooseFollowers_80 : decode b_R_chooseFollowers 80 = .ok (.ixor, 1) := by decide +kernel
theorem d_R_chooseFollowers_81 : decode b_R_chooseFollowers 81 = .ok (.iand, 1) := by decide +kernel
theorem d_R_chooseFollowers_82 : decode b_R_chooseFollowers 82 = .ok (.istore_n 3, 1) := by decide +kernel
theorem d_R_chooseFollowers_83 : decode b_R_chooseFollowers 83 = .ok (.iinc 4 (-1), 3) := by decide +kernel
theorem d_R_chooseFollowers_86 : decode b_R_chooseFollowers 86 = .ok (.iinc 5 1, 3) := by decide +kernel
theorem d_R_chooseFollowers_89 : decode b_R_chooseFollowers 89 = .ok (.goto (-65), 3) := by decide +kernel
theorem d_R_chooseFollowers_92 : decode b_R_chooseFollowers 92 = .ok (.return_, 1) := by decide +kernel
def fm_R_chooseFollowers_B24  (x29 : Int32) (x30 : Int32) (x31 : Int32) (x32 : Int32) (I33 : IS) : Option (Nat × Int32 × Int32 × Int32 × Int32 × IS) :=
  if (16 : Int32) ≤ x32 then some (1, x29, x30, x31, x32, I33) else bnd (x29 &&& (((1 : Int32) <<< (x32 &&& 31)) ^^^ (-1 : Int32))) (fun x46 => ob2 (fm_R_leastFollower x32 x46 x30 x31 I33) (fun x51 I52 => grd (inB x32 16) (bnd (sI I52 10 x32.toNatClampNeg x51) (fun I61 => grd (inB x32 16) (if (I61 10 x32.toNatClampNeg) = (-1 : Int32) then bnd (x32 + (1 : Int32)) (fun x74 => some (0, x46, x30, x31, x74, I61)) else grd (inB x32 16) (bnd (x30 &&& (((1 : Int32) <<< ((I61 10 x32.toNatClampNeg) &&& 31)) ^^^ (-1 : Int32))) (fun x81 => bnd (x31 + (-1 : Int32)) (fun x86 => bnd (x32 + (1 : Int32)) (fun x91 => some (0, x46, x81, x86, x91, I61))))))))))
def fm_R_chooseFollowers (I0 : IS) : Option (IS) :=
  bnd (I0 5 0) (fun x1 => bnd (I0 5 0) (fun x6 => ob1 (fm_H_size I0) (fun x11 => bnd (x11 - (I0 9 0)) (fun x18 => ob6 (iter (fun z : Int32 × Int32 × Int32 × Int32 × IS => fm_R_chooseFollowers_B24 z.1 z.2.1 z.2.2.1 z.2.2.2.1 z.2.2.2.2) FU (x1, x6, x18, (0 : Int32), I0)) (fun _ x97 x98 x99 x100 I101 => some I101)))))
set_option maxHeartbeats 4000000 in
set_option maxRecDepth 100000 in
theorem cm_R_chooseFollowers (l : Launch) (D : va_G) (ca : Nat → ClassId) (ad : Nat → Nat) (hs : Nat → Option Nat) {I0 : IS} {J0 : JS} {r : IS} (hf : fm_R_chooseFollowers I0 = some r) : CtV l y_R_chooseFollowers (Cond.code y_R_chooseFollowers b_R_chooseFollowers 6 none :: TB) { frames := 4, cells := 0, slots := 0, locals := 104 } [.ref (ad 9), .ref (ad 0)] D cls_all (tysC ca) NN (wC ca ad hs I0 J0) (wC ca ad hs r J0) := by
  refine jd_metV (cc := b_R_chooseFollowers) (by decide) rfl (Nat.le_of_ble_eq_true rfl) (lv := [(0, .ref (ad 9)), (1, .ref (ad 0))]) rfl ?_
  intro p e R s m args below meth c A Q ls cx hR hK hN hD0 hA hP hS hl hend
  have hx := cx.1
  have hb := cx.2.1
  have hml := cx.2.2.1
  have hown := cx.2.2.2.1
  have hts := cx.2.2.2.2
  have hD : ∀ I J, va_D A (wC ca ad hs I J) := fun I J => jd_Dc hD0 rfl
  unfold fm_R_chooseFollowers at hf
  refine lv_aload_n hx hb d_R_chooseFollowers_0 rfl (lv_at hl 1 rfl) ?_
  refine va_get (D := D) (ci := 0) (v := .int (I0 5 0)) (C := R_H) (T := F_H) (N := 9) hx hb hts (fun w h => List.mem_cons_of_mem _ (uw_H w h)) hown hK hP 0 rfl rfl 7 (by decide) (hts _ (List.mem_cons_of_mem _ tb_553)) (fun _ h => h) rfl d_R_chooseFollowers_1 ?_
  obtain ⟨x1, e2, hf3⟩ := bnd_ex hf
  refine jd_tni e2 ?_
  refine lv_istore_n hx hb d_R_chooseFollowers_4 rfl hl (by decide) (lv' := [(2, .int x1), (0, .ref (ad 9)), (1, .ref (ad 0))]) rfl (fun ls4 hl5 => ?_)
  refine lv_aload_n hx hb d_R_chooseFollowers_5 rfl (lv_at hl5 2 rfl) ?_
  refine va_get (D := D) (ci := 0) (v := .int (I0 5 0)) (C := R_H) (T := F_H) (N := 9) hx hb hts (fun w h => List.mem_cons_of_mem _ (uw_H w h)) hown hK hP 0 rfl rfl 7 (by decide) (hts _ (List.mem_cons_of_mem _ tb_553)) (fun _ h => h) rfl d_R_chooseFollowers_6 ?_
  obtain ⟨x6, e7, hf8⟩ := bnd_ex hf3
  refine jd_tni e7 ?_
  refine lv_istore_n hx hb d_R_chooseFollowers_9 rfl hl5 (by decide) (lv' := [(3, .int x6), (2, .int x1), (0, .ref (ad 9)), (1, .ref (ad 0))]) rfl (fun ls9 hl10 => ?_)
  refine lv_aload_n hx hb d_R_chooseFollowers_10 rfl (lv_at hl10 3 rfl) ?_
  obtain ⟨x11, hc12, hf13⟩ := ob1_ex hf8
  refine jd_ci (va_runV (As := []) (rest := []) cx (cm_H_size l D ca ad hs hc12 s.heap.size) (cwV 0 hts (jd_gV tb_385 tb_197 tb_198 tb_52 tb_199) rfl rfl rfl ⟨rfl, by decide, by decide, rfl⟩ (by rw [hR]; decide)) ⟨jd_blind nWc, (va_recv hK hP (ci := 0) (q0 := 0) rfl rfl), (jd_pre (av := [.ref (ad 0)]) hP hK (hD I0 J0) (fun U h => nWm h hN))⟩ rfl rfl hl10.1 rfl (lv_room (Nat.le_of_ble_eq_true rfl)) d_R_chooseFollowers_11 ⟨Nat.zero_le _, Nat.zero_le _⟩) hS (hD I0 J0) hA (fun H14 L15 hP16 hS17 => ?_)
  refine lv_aload_n hx hb d_R_chooseFollowers_14 rfl (lv_at hl10 2 rfl) ?_
  refine va_get (D := D) (ci := 2) (v := .int (I0 9 0)) (C := R_R) (T := F_R) (N := 8) hx hb hts (fun w h => List.mem_cons_of_mem _ (uw_R w h)) hown hK hP16 9 rfl rfl 1 (by decide) (hts _ (List.mem_cons_of_mem _ tb_510)) (fun _ h => h) rfl d_R_chooseFollowers_15 ?_
  refine lv_isub hx hb d_R_chooseFollowers_18 ?_
  obtain ⟨x18, e19, hf20⟩ := bnd_ex hf13
  refine jd_tni e19 ?_
  refine lv_istore hx hb d_R_chooseFollowers_19 hl10 (by decide) (lv' := [(4, .int x18), (3, .int x6), (2, .int x1), (0, .ref (ad 9)), (1, .ref (ad 0))]) rfl (fun ls21 hl22 => ?_)
  refine lv_iconst (v := 0) hx hb d_R_chooseFollowers_21 (by decide) ?_
  refine lv_istore hx hb d_R_chooseFollowers_22 hl22 (by decide) (lv' := [(5, .int (0 : Int32)), (4, .int x18), (3, .int x6), (2, .int x1), (0, .ref (ad 9)), (1, .ref (ad 0))]) rfl (fun ls23 hl24 => ?_)
  obtain ⟨tg96, x97, x98, x99, x100, I101, ho102, hf103⟩ := ob6_ex hf20
  have kx24_1 : ∀ (H104 : Heap) (L105 : List Loc) (ls106 : Array Slot), va_P D cls_all (wC ca ad hs I101 J0) H104 → va_S A s.heap H104 L105 → lv_has ls106 6 [] → W p l e R s m args below meth c H104 L105 0 0 Q (F0 m 92 ls106 []) := by
    intro H104 L105 ls106 hP107 hS108 hl109
    cases hf103
    exact hend H104 L105 92 ls106 hP107 hS108 d_R_chooseFollowers_92
  refine iter_ind (C := fun z : Int32 × Int32 × Int32 × Int32 × IS => ∀ (H34 : Heap) (L35 : List Loc) (ls36 : Array Slot), va_P D cls_all (wC ca ad hs z.2.2.2.2 J0) H34 → va_S A s.heap H34 L35 → lv_has ls36 6 [(0, .ref (ad 9)), (1, .ref (ad 0)), (2, .int z.1), (3, .int z.2.1), (4, .int z.2.2.1), (5, .int z.2.2.2.1)] → W p l e R s m args below meth c H34 L35 0 0 Q (F0 m 24 ls36 [])) (fun z28 o27 hz41 hc25 he26 => ?_) _ _ ho102 H14 L15 ls23 hP16 hS17 (lv_sub hl24 [4, 5, 3, 2, 1, 0] rfl)
  obtain ⟨x29, x30, x31, x32, I33⟩ := z28
  intro H34 L35 ls36 hP37 hS38 hl39
  have hf40 : fm_R_chooseFollowers_B24 x29 x30 x31 x32 I33 = some o27 := hz41
  unfold fm_R_chooseFollowers_B24 at hf40
  refine lv_iload hx hb d_R_chooseFollowers_24 (lv_at hl39 5 rfl) ?_
  refine lv_bipush (v := 16) hx hb d_R_chooseFollowers_26 (by decide) ?_
  refine lv_icmp_ge (tgt := 92) hx hb d_R_chooseFollowers_28 rfl (fun h42 => ?_) (fun h42 => ?_)
  · have hf43 := ifp hf40 h42
    cases hf43
    have e45 := he26 (by show (1 : Nat) ≠ 0; decide)
    cases e45
    exact kx24_1 H34 L35 ls36 hP37 hS38 (lv_sub hl39 [] rfl)
  · have hf44 := ifn hf40 h42
    refine lv_iload_n hx hb d_R_chooseFollowers_31 rfl (lv_at hl39 2 rfl) ?_
    refine lv_iconst (v := 1) hx hb d_R_chooseFollowers_32 (by decide) ?_
    refine lv_iload hx hb d_R_chooseFollowers_33 (lv_at hl39 5 rfl) ?_
    refine lv_ishl hx hb d_R_chooseFollowers_35 ?_
    refine lv_iconst (v := -1) hx hb d_R_chooseFollowers_36 (by decide) ?_
    refine lv_ixor hx hb d_R_chooseFollowers_37 ?_
    refine lv_iand hx hb d_R_chooseFollowers_38 ?_
    obtain ⟨x46, e47, hf48⟩ := bnd_ex hf44
    refine jd_tni e47 ?_
    refine lv_istore_n hx hb d_R_chooseFollowers_39 rfl hl39 (by decide) (lv' := [(2, .int x46), (0, .ref (ad 9)), (1, .ref (ad 0)), (3, .int x30), (4, .int x31), (5, .int x32)]) rfl (fun ls49 hl50 => ?_)
    refine lv_aload_n hx hb d_R_chooseFollowers_40 rfl (lv_at hl50 1 rfl) ?_
    refine va_get (D := D) (ci := 2) (v := .ref (ad 10)) (C := R_R) (T := F_R) (N := 8) hx hb hts (fun w h => List.mem_cons_of_mem _ (uw_R w h)) hown hK hP37 9 rfl rfl 2 (by decide) (hts _ (List.mem_cons_of_mem _ tb_512)) (fun _ h => h) rfl d_R_chooseFollowers_41 ?_
    refine lv_iload hx hb d_R_chooseFollowers_44 (lv_at hl50 5 rfl) ?_
    refine lv_aload_n hx hb d_R_chooseFollowers_46 rfl (lv_at hl50 1 rfl) ?_
    refine lv_aload_n hx hb d_R_chooseFollowers_47 rfl (lv_at hl50 2 rfl) ?_
    refine lv_iload hx hb d_R_chooseFollowers_48 (lv_at hl50 5 rfl) ?_
    refine lv_iload_n hx hb d_R_chooseFollowers_50 rfl (lv_at hl50 0 rfl) ?_
    refine lv_iload_n hx hb d_R_chooseFollowers_51 rfl (lv_at hl50 3 rfl) ?_
    refine lv_iload hx hb d_R_chooseFollowers_52 (lv_at hl50 4 rfl) ?_
    obtain ⟨x51, I52, hc53, hf54⟩ := ob2_ex hf48
    refine jd_ci (va_runV (As := [.ref (ad 0), .int x32, .int x46, .int x30, .int x31]) (rest := [.int x32, .ref (ad 10)]) cx (cm_R_leastFollower l D ca ad hs hc53 H34.size) (cwV 5 hts (jd_gV tb_386 tb_387 tb_23 tb_54 tb_388) rfl rfl rfl ⟨rfl, by decide, by decide, rfl⟩ (by rw [hR]; decide)) ⟨jd_blind nWc, (va_recv hK hP37 (ci := 2) (q0 := 9) rfl rfl), (jd_pre (av := [.ref (ad 9), .ref (ad 0), .int x32, .int x46, .int x30, .int x31]) hP37 hK (hD I33 J0) (fun U h => nWm h hN))⟩ rfl rfl hl50.1 rfl (lv_room (Nat.le_of_ble_eq_true rfl)) d_R_chooseFollowers_54 ⟨Nat.zero_le _, Nat.zero_le _⟩) hS38 (hD I33 J0) hA (fun H55 L56 hP57 hS58 => ?_)
    obtain ⟨hg59, hf60⟩ := grd_ex hf54
    obtain ⟨I61, e62, hf63⟩ := bnd_ex hf60
    refine va_iast hx hb hK hP57 (hD I52 J0) hS58 10 2 rfl rfl (inB_in hg59) d_R_chooseFollowers_57 (fun H64 L65 hp68 _ hS67 => ?_)
    have hP66 : va_P D cls_all (wC ca ad hs I61 J0) H64 := by rw [e62]; exact hp68
    refine lv_aload_n hx hb d_R_chooseFollowers_58 rfl (lv_at hl50 1 rfl) ?_
    refine va_get (D := D) (ci := 2) (v := .ref (ad 10)) (C := R_R) (T := F_R) (N := 8) hx hb hts (fun w h => List.mem_cons_of_mem _ (uw_R w h)) hown hK hP66 9 rfl rfl 2 (by decide) (hts _ (List.mem_cons_of_mem _ tb_512)) (fun _ h => h) rfl d_R_chooseFollowers_59 ?_
    refine lv_iload hx hb d_R_chooseFollowers_62 (lv_at hl50 5 rfl) ?_
    obtain ⟨hg69, hf70⟩ := grd_ex hf63
    refine va_iald hx hb hK hP66 10 2 rfl rfl (inB_in hg69) d_R_chooseFollowers_64 ?_
    refine lv_iconst (v := -1) hx hb d_R_chooseFollowers_65 (by decide) ?_
    refine lv_icmp_eq (tgt := 86) hx hb d_R_chooseFollowers_66 rfl (fun h71 => ?_) (fun h71 => ?_)
    · have hf72 := ifp hf70 h71
      obtain ⟨x74, e75, hf76⟩ := bnd_ex hf72
      refine lv_iinc hx hb d_R_chooseFollowers_86 hl50 (k := 5) rfl (v := x74) (by rw [e75]; rfl) (by decide) (lv' := [(5, .int x74), (2, .int x46), (0, .ref (ad 9)), (1, .ref (ad 0)), (3, .int x30), (4, .int x31)]) rfl (fun ls77 hl78 => ?_)
      refine lv_goto (tgt := 24) hx hb d_R_chooseFollowers_89 rfl ?_
      cases hf76
      exact hc25 rfl H64 L65 ls77 hP66 hS67 (lv_sub hl78 [2, 3, 1, 4, 5, 0] rfl)
    · have hf73 := ifn hf70 h71
      refine lv_iload_n hx hb d_R_chooseFollowers_69 rfl (lv_at hl50 3 rfl) ?_
      refine lv_iconst (v := 1) hx hb d_R_chooseFollowers_70 (by decide) ?_
      refine lv_aload_n hx hb d_R_chooseFollowers_71 rfl (lv_at hl50 1 rfl) ?_
      refine va_get (D := D) (ci := 2) (v := .ref (ad 10)) (C := R_R) (T := F_R) (N := 8) hx hb hts (fun w h => List.mem_cons_of_mem _ (uw_R w h)) hown hK hP66 9 rfl rfl 2 (by decide) (hts _ (List.mem_cons_of_mem _ tb_512)) (fun _ h => h) rfl d_R_chooseFollowers_72 ?_
      refine lv_iload hx hb d_R_chooseFollowers_75 (lv_at hl50 5 rfl) ?_
      obtain ⟨hg79, hf80⟩ := grd_ex hf73
      refine va_iald hx hb hK hP66 10 2 rfl rfl (inB_in hg79) d_R_chooseFollowers_77 ?_
      refine lv_ishl hx hb d_R_chooseFollowers_78 ?_
      refine lv_iconst (v := -1) hx hb d_R_chooseFollowers_79 (by decide) ?_
      refine lv_ixor hx hb d_R_chooseFollowers_80 ?_
      refine lv_iand hx hb d_R_chooseFollowers_81 ?_
      obtain ⟨x81, e82, hf83⟩ := bnd_ex hf80
      refine jd_tni e82 ?_
      refine lv_istore_n hx hb d_R_chooseFollowers_82 rfl hl50 (by decide) (lv' := [(3, .int x81), (2, .int x46), (0, .ref (ad 9)), (1, .ref (ad 0)), (4, .int x31), (5, .int x32)]) rfl (fun ls84 hl85 => ?_)
      obtain ⟨x86, e87, hf88⟩ := bnd_ex hf83
      refine lv_iinc hx hb d_R_chooseFollowers_83 hl85 (k := 4) rfl (v := x86) (by rw [e87]; rfl) (by decide) (lv' := [(4, .int x86), (3, .int x81), (2, .int x46), (0, .ref (ad 9)), (1, .ref (ad 0)), (5, .int x32)]) rfl (fun ls89 hl90 => ?_)
      obtain ⟨x91, e92, hf93⟩ := bnd_ex hf88
      refine lv_iinc hx hb d_R_chooseFollowers_86 hl90 (k := 5) rfl (v := x91) (by rw [e92]; rfl) (by decide) (lv' := [(5, .int x91), (4, .int x86), (3, .int x81), (2, .int x46), (0, .ref (ad 9)), (1, .ref (ad 0))]) rfl (fun ls94 hl95 => ?_)
      refine lv_goto (tgt := 24) hx hb d_R_chooseFollowers_89 rfl ?_
      cases hf93
      exact hc25 rfl H64 L65 ls94 hP66 hS67 (lv_sub hl95 [4, 5, 3, 2, 1, 0] rfl)
theorem d_R_chooseTie_0 : decode b_R_chooseTie 0 = .ok (.aload_n 0, 1) := by decide +kernel
theorem d_R_chooseTie_1 : decode b_R_chooseTie 1 = .ok (.iconst 0, 1) := by decide +kernel
theorem d_R_chooseTie_2 : decode b_R_chooseTie 2 = .ok (.putfield 51, 3) := by decide +kernel
theorem d_R_chooseTie_5 : decode b_R_chooseTie 5 = .ok (.aload_n 1, 1) := by decide +kernel
theorem d_R_chooseTie_6 : decode b_R_chooseTie 6 = .ok (.getfield 27, 3) := by decide +kernel
theorem d_R_chooseTie_9 : decode b_R_chooseTie 9 = .ok (.istore_n 2, 1) := by decide +kernel
theorem d_R_chooseTie_10 : decode b_R_chooseTie 10 = .ok (.aload_n 0, 1) := by decide +kernel
theorem d_R_chooseTie_11 : decode b_R_chooseTie 11 = .ok (.getfield 37, 3) := by decide +kernel
theorem d_R_chooseTie_14 : decode b_R_chooseTie 14 = .ok (.istore_n 3, 1) := by decide +kernel
theorem d_R_chooseTie_15 : decode b_R_chooseTie 15 = .ok (.iconst 0, 1) := by decide +kernel
theorem d_R_chooseTie_16 : decode b_R_chooseTie 16 = .ok (.istore 4, 2) := by decide +kernel
theorem d_R_chooseTie_18 : decode b_R_chooseTie 18 = .ok (.iload 4, 2) := by decide +kernel
theorem d_R_chooseTie_20 : decode b_R_chooseTie 20 = .ok (.bipush 16, 2) := by decide +kernel
theorem d_R_chooseTie_22 : decode b_R_chooseTie 22 = .ok (.if_icmp .ge 82, 3) := by decide +kernel
theorem d_R_chooseTie_25 : decode b_R_chooseTie 25 = .ok (.iload_n 2, 1) := by decide +kernel
theorem d_R_chooseTie_26 : decode b_R_chooseTie 26 = .ok (.iconst 2, 1) := by decide +kernel
theorem d_R_chooseTie_27 : decode b_R_chooseTie 27 = .ok (.iload 4, 2) := by decide +kernel
theorem d_R_chooseTie_29 : decode b_R_chooseTie 29 = .ok (.ishl, 1) := by decide +kernel
theorem d_R_chooseTie_30 : decode b_R_chooseTie 30 = .ok (.iconst 1, 1) := by decide +kernel
theorem d_R_chooseTie_31 : decode b_R_chooseTie 31 = .ok (.isub, 1) := by decide +kernel
theorem d_R_chooseTie_32 : decode b_R_chooseTie 32 = .ok (.iconst (-1), 1) := by decide +kernel
theorem d_R_chooseTie_33 : decode b_R_chooseTie 33 = .ok (.ixor, 1) := by decide +kernel
theorem d_R_chooseTie_34 : decode b_R_chooseTie 34 = .ok (.iand, 1) := by decide +kernel
theorem d_R_chooseTie_35 : decode b_R_chooseTie 35 = .ok (.aload_n 1, 1) := by decide +kernel
theorem d_R_chooseTie_36 : decode b_R_chooseTie 36 = .ok (.getfield 66, 3) := by decide +kernel
theorem d_R_chooseTie_39 : decode b_R_chooseTie 39 = .ok (.iload 4, 2) := by decide +kernel
theorem d_R_chooseTie_41 : decode b_R_chooseTie 41 = .ok (.iaload, 1) := by decide +kernel
theorem d_R_chooseTie_42 : decode b_R_chooseTie 42 = .ok (.iconst (-1), 1) := by decide +kernel
theorem d_R_chooseTie_43 : decode b_R_chooseTie 43 = .ok (.ixor, 1) := by decide +kernel
theorem d_R_chooseTie_44 : decode b_R_chooseTie 44 = .ok (.iand, 1) := by decide +kernel
theorem d_R_chooseTie_45 : decode b_R_chooseTie 45 = .ok (.aload_n 1, 1) := by decide +kernel
theorem d_R_chooseTie_46 : decode b_R_chooseTie 46 = .ok (.getfield 73, 3) := by decide +kernel
theorem d_R_chooseTie_49 : decode b_R_chooseTie 49 = .ok (.iload 4, 2) := by decide +kernel
theorem d_R_chooseTie_51 : decode b_R_chooseTie 51 = .ok (.iaload, 1) := by decide +kernel
theorem d_R_chooseTie_52 : decode b_R_chooseTie 52 = .ok (.iconst (-1), 1) := by decide +kernel
theorem d_R_chooseTie_53 : decode b_R_chooseTie 53 = .ok (.ixor, 1) := by decide +kernel
theorem d_R_chooseTie_54 : decode b_R_chooseTie 54 = .ok (.iand, 1) := by decide +kernel
theorem d_R_chooseTie_55 : decode b_R_chooseTie 55 = .ok (.istore 5, 2) := by decide +kernel
theorem d_R_chooseTie_57 : decode b_R_chooseTie 57 = .ok (.iload_n 2, 1) := by decide +kernel
theorem d_R_chooseTie_58 : decode b_R_chooseTie 58 = .ok (.iload 4, 2) := by decide +kernel
theorem d_R_chooseTie_60 : decode b_R_chooseTie 60 = .ok (.invokestatic 54, 3) := by decide +kernel
theorem d_R_chooseTie_63 : decode b_R_chooseTie 63 = .ok (.ifCond .eq 35, 3) := by decide +kernel
theorem d_R_chooseTie_66 : decode b_R_chooseTie 66 = .ok (.aload_n 0, 1) := by decide +kernel
theorem d_R_chooseTie_67 : decode b_R_chooseTie 67 = .ok (.aload_n 1, 1) := by decide +kernel
theorem d_R_chooseTie_68 : decode b_R_chooseTie 68 = .ok (.iload 5, 2) := by decide +kernel
theorem d_R_chooseTie_70 : decode b_R_chooseTie 70 = .ok (.invokevirtual 33, 3) := by decide +kernel
theorem d_R_chooseTie_73 : decode b_R_chooseTie 73 = .ok (.iload_n 3, 1) := by decide +kernel
theorem d_R_chooseTie_74 : decode b_R_chooseTie 74 = .ok (.iconst 1, 1) := by decide +kernel
theorem d_R_chooseTie_75 : decode b_R_chooseTie 75 = .ok (.isub, 1) := by decide +kernel
theorem d_R_chooseTie_76 : decode b_R_chooseTie 76 = .ok (.if_icmp .ne 22, 3) := by decide +kernel
theorem d_R_chooseTie_79 : decode b_R_chooseTie 79 = .ok (.aload_n 0, 1) := by decide +kernel
theorem d_R_chooseTie_80 : decode b_R_chooseTie 80 = .ok (.dup, 1) := by decide +kernel
theorem d_R_chooseTie_81 : decode b_R_chooseTie 81 = .ok (.getfield 51, 3) := by decide +kernel
theorem d_R_chooseTie_84 : decode b_R_chooseTie 84 = .ok (.iconst 1, 1) := by decide +kernel
theorem d_R_chooseTie_85 : decode b_R_chooseTie 85 = .ok (.iload 4, 2) := by decide +kernel
theorem d_R_chooseTie_87 : decode b_R_chooseTie 87 = .ok (.ishl, 1) := by decide +kernel
theorem d_R_chooseTie_88 : decode b_R_chooseTie 88 = .ok (.ior, 1) := by decide +kernel
theorem d_R_chooseTie_89 : decode b_R_chooseTie 89 = .ok (.putfield 51, 3) := by decide +kernel
theorem d_R_chooseTie_92 : decode b_R_chooseTie 92 = .ok (.iload 5, 2) := by decide +kernel
theorem d_R_chooseTie_94 : decode b_R_chooseTie 94 = .ok (.istore_n 2, 1) := by decide +kernel
theorem d_R_chooseTie_95 : decode b_R_chooseTie 95 = .ok (.iinc 3 (-1), 3) := by decide +kernel
theorem d_R_chooseTie_98 : decode b_R_chooseTie 98 = .ok (.iinc 4 1, 3) := by decide +kernel
theorem d_R_chooseTie_101 : decode b_R_chooseTie 101 = .ok (.goto (-83), 3) := by decide +kernel
theorem d_R_chooseTie_104 : decode b_R_chooseTie 104 = .ok (.return_, 1) := by decide +kernel
def fm_R_chooseTie_B18  (x25 : Int32) (x26 : Int32) (x27 : Int32) (I28 : IS) : Option (Nat × Int32 × Int32 × Int32 × IS) :=
  if (16 : Int32) ≤ x27 then some (1, x25, x26, x27, I28) else grd (inB x27 16) (grd (inB x27 16) (bnd (((x25 &&& ((((2 : Int32) <<< (x27 &&& 31)) - (1 : Int32)) ^^^ (-1 : Int32))) &&& ((I28 3 x27.toNatClampNeg) ^^^ (-1 : Int32))) &&& ((I28 4 x27.toNatClampNeg) ^^^ (-1 : Int32))) (fun x45 => ob1 (fm_K_holds x25 x27) (fun x50 => if x50 = 0 then bnd (x27 + (1 : Int32)) (fun x60 => some (0, x25, x26, x60, I28)) else ob2 (fm_R_widthOf x45 I28) (fun x65 I66 => if x65 = (x26 - (1 : Int32)) then bnd (sV I66 11 ((I66 11 0) ||| ((1 : Int32) <<< (x27 &&& 31)))) (fun I81 => bnd (x26 + (-1 : Int32)) (fun x91 => bnd (x27 + (1 : Int32)) (fun x96 => some (0, x45, x91, x96, I81)))) else bnd (x27 + (1 : Int32)) (fun x76 => some (0, x25, x26, x76, I66)))))))
def fm_R_chooseTie (I0 : IS) : Option (IS) :=
  bnd (sV I0 11 (0 : Int32)) (fun I1 => bnd (I1 5 0) (fun x9 => bnd (I1 9 0) (fun x14 => ob5 (iter (fun z : Int32 × Int32 × Int32 × IS => fm_R_chooseTie_B18 z.1 z.2.1 z.2.2.1 z.2.2.2) FU (x9, x14, (0 : Int32), I1)) (fun _ x102 x103 x104 I105 => some I105))))
set_option maxHeartbeats 4000000 in
set_option maxRecDepth 100000 in
theorem cm_R_chooseTie (l : Launch) (D : va_G) (ca : Nat → ClassId) (ad : Nat → Nat) (hs : Nat → Option Nat) {I0 : IS} {J0 : JS} {r : IS} (hf : fm_R_chooseTie I0 = some r) : CtV l y_R_chooseTie (Cond.code y_R_chooseTie b_R_chooseTie 6 none :: TB) { frames := 4, cells := 0, slots := 0, locals := 100 } [.ref (ad 9), .ref (ad 0)] D cls_all (tysC ca) NN (wC ca ad hs I0 J0) (wC ca ad hs r J0) := by
  refine jd_metV (cc := b_R_chooseTie) (by decide) rfl (Nat.le_of_ble_eq_true rfl) (lv := [(0, .ref (ad 9)), (1, .ref (ad 0))]) rfl ?_
  intro p e R s m args below meth c A Q ls cx hR hK hN hD0 hA hP hS hl hend
  have hx := cx.1
  have hb := cx.2.1
  have hml := cx.2.2.1
  have hown := cx.2.2.2.1
  have hts := cx.2.2.2.2
  have hD : ∀ I J, va_D A (wC ca ad hs I J) := fun I J => jd_Dc hD0 rfl
  unfold fm_R_chooseTie at hf
  refine lv_aload_n hx hb d_R_chooseTie_0 rfl (lv_at hl 0 rfl) ?_
  refine lv_iconst (v := 0) hx hb d_R_chooseTie_1 (by decide) ?_
  obtain ⟨I1, e2, hf3⟩ := bnd_ex hf
  refine va_put (D := D) (ci := 2) (v := .int (0 : Int32)) (ty := .int) (C := R_R) (T := F_R) (N := 8) hx hb hts (fun w h => List.mem_cons_of_mem _ (uw_R w h)) ft_R tk_R n_R hown hK hP (hD I0 J0) hS 9 rfl rfl 3 (by decide) (hts _ (List.mem_cons_of_mem _ tb_514)) (fun _ h => h) rfl (by decide +kernel) rfl rfl (Nat.le_of_ble_eq_true rfl) d_R_chooseTie_2 (fun H4 L5 hp8 _ hS7 => ?_)
  have hP6 : va_P D cls_all (wC ca ad hs I1 J0) H4 := by rw [e2]; exact hp8
  refine lv_aload_n hx hb d_R_chooseTie_5 rfl (lv_at hl 1 rfl) ?_
  refine va_get (D := D) (ci := 0) (v := .int (I1 5 0)) (C := R_H) (T := F_H) (N := 9) hx hb hts (fun w h => List.mem_cons_of_mem _ (uw_H w h)) hown hK hP6 0 rfl rfl 7 (by decide) (hts _ (List.mem_cons_of_mem _ tb_553)) (fun _ h => h) rfl d_R_chooseTie_6 ?_
  obtain ⟨x9, e10, hf11⟩ := bnd_ex hf3
  refine jd_tni e10 ?_
  refine lv_istore_n hx hb d_R_chooseTie_9 rfl hl (by decide) (lv' := [(2, .int x9), (0, .ref (ad 9)), (1, .ref (ad 0))]) rfl (fun ls12 hl13 => ?_)
  refine lv_aload_n hx hb d_R_chooseTie_10 rfl (lv_at hl13 1 rfl) ?_
  refine va_get (D := D) (ci := 2) (v := .int (I1 9 0)) (C := R_R) (T := F_R) (N := 8) hx hb hts (fun w h => List.mem_cons_of_mem _ (uw_R w h)) hown hK hP6 9 rfl rfl 1 (by decide) (hts _ (List.mem_cons_of_mem _ tb_510)) (fun _ h => h) rfl d_R_chooseTie_11 ?_
  obtain ⟨x14, e15, hf16⟩ := bnd_ex hf11
  refine jd_tni e15 ?_
  refine lv_istore_n hx hb d_R_chooseTie_14 rfl hl13 (by decide) (lv' := [(3, .int x14), (2, .int x9), (0, .ref (ad 9)), (1, .ref (ad 0))]) rfl (fun ls17 hl18 => ?_)
  refine lv_iconst (v := 0) hx hb d_R_chooseTie_15 (by decide) ?_
  refine lv_istore hx hb d_R_chooseTie_16 hl18 (by decide) (lv' := [(4, .int (0 : Int32)), (3, .int x14), (2, .int x9), (0, .ref (ad 9)), (1, .ref (ad 0))]) rfl (fun ls19 hl20 => ?_)
  obtain ⟨tg101, x102, x103, x104, I105, ho106, hf107⟩ := ob5_ex hf16
  have kx18_1 : ∀ (H108 : Heap) (L109 : List Loc) (ls110 : Array Slot), va_P D cls_all (wC ca ad hs I105 J0) H108 → va_S A s.heap H108 L109 → lv_has ls110 6 [] → W p l e R s m args below meth c H108 L109 0 0 Q (F0 m 104 ls110 []) := by
    intro H108 L109 ls110 hP111 hS112 hl113
    cases hf107
    exact hend H108 L109 104 ls110 hP111 hS112 d_R_chooseTie_104
  refine iter_ind (C := fun z : Int32 × Int32 × Int32 × IS => ∀ (H29 : Heap) (L30 : List Loc) (ls31 : Array Slot), va_P D cls_all (wC ca ad hs z.2.2.2 J0) H29 → va_S A s.heap H29 L30 → lv_has ls31 6 [(0, .ref (ad 9)), (1, .ref (ad 0)), (2, .int z.1), (3, .int z.2.1), (4, .int z.2.2.1)] → W p l e R s m args below meth c H29 L30 0 0 Q (F0 m 18 ls31 [])) (fun z24 o23 hz36 hc21 he22 => ?_) _ _ ho106 H4 L5 ls19 hP6 hS7 (lv_sub hl20 [3, 4, 2, 1, 0] rfl)
  obtain ⟨x25, x26, x27, I28⟩ := z24
  intro H29 L30 ls31 hP32 hS33 hl34
  have hf35 : fm_R_chooseTie_B18 x25 x26 x27 I28 = some o23 := hz36
  unfold fm_R_chooseTie_B18 at hf35
  refine lv_iload hx hb d_R_chooseTie_18 (lv_at hl34 4 rfl) ?_
  refine lv_bipush (v := 16) hx hb d_R_chooseTie_20 (by decide) ?_
  refine lv_icmp_ge (tgt := 104) hx hb d_R_chooseTie_22 rfl (fun h37 => ?_) (fun h37 => ?_)
  · have hf38 := ifp hf35 h37
    cases hf38
    have e40 := he22 (by show (1 : Nat) ≠ 0; decide)
    cases e40
    exact kx18_1 H29 L30 ls31 hP32 hS33 (lv_sub hl34 [] rfl)
  · have hf39 := ifn hf35 h37
    refine lv_iload_n hx hb d_R_chooseTie_25 rfl (lv_at hl34 2 rfl) ?_
    refine lv_iconst (v := 2) hx hb d_R_chooseTie_26 (by decide) ?_
    refine lv_iload hx hb d_R_chooseTie_27 (lv_at hl34 4 rfl) ?_
    refine lv_ishl hx hb d_R_chooseTie_29 ?_
    refine lv_iconst (v := 1) hx hb d_R_chooseTie_30 (by decide) ?_
    refine lv_isub hx hb d_R_chooseTie_31 ?_
    refine lv_iconst (v := -1) hx hb d_R_chooseTie_32 (by decide) ?_
    refine lv_ixor hx hb d_R_chooseTie_33 ?_
    refine lv_iand hx hb d_R_chooseTie_34 ?_
    refine lv_aload_n hx hb d_R_chooseTie_35 rfl (lv_at hl34 1 rfl) ?_
    refine va_get (D := D) (ci := 0) (v := .ref (ad 4)) (C := R_H) (T := F_H) (N := 9) hx hb hts (fun w h => List.mem_cons_of_mem _ (uw_H w h)) hown hK hP32 0 rfl rfl 3 (by decide) (hts _ (List.mem_cons_of_mem _ tb_543)) (fun _ h => h) rfl d_R_chooseTie_36 ?_
    refine lv_iload hx hb d_R_chooseTie_39 (lv_at hl34 4 rfl) ?_
    obtain ⟨hg41, hf42⟩ := grd_ex hf39
    refine va_iald hx hb hK hP32 4 2 rfl rfl (inB_in hg41) d_R_chooseTie_41 ?_
    refine lv_iconst (v := -1) hx hb d_R_chooseTie_42 (by decide) ?_
    refine lv_ixor hx hb d_R_chooseTie_43 ?_
    refine lv_iand hx hb d_R_chooseTie_44 ?_
    refine lv_aload_n hx hb d_R_chooseTie_45 rfl (lv_at hl34 1 rfl) ?_
    refine va_get (D := D) (ci := 0) (v := .ref (ad 5)) (C := R_H) (T := F_H) (N := 9) hx hb hts (fun w h => List.mem_cons_of_mem _ (uw_H w h)) hown hK hP32 0 rfl rfl 4 (by decide) (hts _ (List.mem_cons_of_mem _ tb_546)) (fun _ h => h) rfl d_R_chooseTie_46 ?_
    refine lv_iload hx hb d_R_chooseTie_49 (lv_at hl34 4 rfl) ?_
    obtain ⟨hg43, hf44⟩ := grd_ex hf42
    refine va_iald hx hb hK hP32 5 2 rfl rfl (inB_in hg43) d_R_chooseTie_51 ?_
    refine lv_iconst (v := -1) hx hb d_R_chooseTie_52 (by decide) ?_
    refine lv_ixor hx hb d_R_chooseTie_53 ?_
    refine lv_iand hx hb d_R_chooseTie_54 ?_
    obtain ⟨x45, e46, hf47⟩ := bnd_ex hf44
    refine jd_tni e46 ?_
    refine lv_istore hx hb d_R_chooseTie_55 hl34 (by decide) (lv' := [(5, .int x45), (0, .ref (ad 9)), (1, .ref (ad 0)), (2, .int x25), (3, .int x26), (4, .int x27)]) rfl (fun ls48 hl49 => ?_)
    refine lv_iload_n hx hb d_R_chooseTie_57 rfl (lv_at hl49 3 rfl) ?_
    refine lv_iload hx hb d_R_chooseTie_58 (lv_at hl49 5 rfl) ?_
    obtain ⟨x50, hc51, hf52⟩ := ob1_ex hf47
    refine jd_ci (va_runSN (As := [.int x25, .int x27]) (rest := []) cx (cm_K_holds l D ca (wC ca ad hs I28 J0) (I0 := I28) (J0 := J0) hc51 H29.size) ⟨va_cnB 2 hts (jd_gB tb_132) rfl rfl rfl (hN _ nw_3) (hts _ (List.mem_cons_of_mem _ tb_43)) ⟨by decide, by decide, rfl⟩ (by rw [hR]; decide), hts _ (List.mem_cons_of_mem _ tb_131), trivial⟩ ⟨jd_blind nWc, (jd_pre (av := [.int x25, .int x27]) hP32 hK (hD I28 J0) (fun U h => nWm h hN))⟩ rfl rfl hl49.1 rfl (lv_room (Nat.le_of_ble_eq_true rfl)) d_R_chooseTie_60 ⟨Nat.zero_le _, Nat.zero_le _⟩) hS33 (hD I28 J0) hA (fun H53 L54 hP55 hS56 => ?_)
    refine lv_if_eq (tgt := 98) hx hb d_R_chooseTie_63 rfl (fun h57 => ?_) (fun h57 => ?_)
    · have hf58 := ifp hf52 h57
      obtain ⟨x60, e61, hf62⟩ := bnd_ex hf58
      refine lv_iinc hx hb d_R_chooseTie_98 hl49 (k := 5) rfl (v := x60) (by rw [e61]; rfl) (by decide) (lv' := [(4, .int x60), (5, .int x45), (0, .ref (ad 9)), (1, .ref (ad 0)), (2, .int x25), (3, .int x26)]) rfl (fun ls63 hl64 => ?_)
      refine lv_goto (tgt := 18) hx hb d_R_chooseTie_101 rfl ?_
      cases hf62
      exact hc21 rfl H53 L54 ls63 hP55 hS56 (lv_sub hl64 [2, 3, 4, 5, 0] rfl)
    · have hf59 := ifn hf52 h57
      refine lv_aload_n hx hb d_R_chooseTie_66 rfl (lv_at hl49 1 rfl) ?_
      refine lv_aload_n hx hb d_R_chooseTie_67 rfl (lv_at hl49 2 rfl) ?_
      refine lv_iload hx hb d_R_chooseTie_68 (lv_at hl49 0 rfl) ?_
      obtain ⟨x65, I66, hc67, hf68⟩ := ob2_ex hf59
      refine jd_ci (va_runV (As := [.ref (ad 0), .int x45]) (rest := []) cx (cm_R_widthOf l D ca ad hs hc67 H53.size) (cwV 2 hts (jd_gV tb_367 tb_368 tb_18 tb_54 tb_370) rfl rfl rfl ⟨rfl, by decide, by decide, rfl⟩ (by rw [hR]; decide)) ⟨jd_blind nWc, (va_recv hK hP55 (ci := 2) (q0 := 9) rfl rfl), (jd_pre (av := [.ref (ad 9), .ref (ad 0), .int x45]) hP55 hK (hD I28 J0) (fun U h => nWm h hN))⟩ rfl rfl hl49.1 rfl (lv_room (Nat.le_of_ble_eq_true rfl)) d_R_chooseTie_70 ⟨Nat.zero_le _, Nat.zero_le _⟩) hS56 (hD I28 J0) hA (fun H69 L70 hP71 hS72 => ?_)
      refine lv_iload_n hx hb d_R_chooseTie_73 rfl (lv_at hl49 4 rfl) ?_
      refine lv_iconst (v := 1) hx hb d_R_chooseTie_74 (by decide) ?_
      refine lv_isub hx hb d_R_chooseTie_75 ?_
      refine lv_icmp_ne (tgt := 98) hx hb d_R_chooseTie_76 rfl (fun h73 => ?_) (fun h73 => ?_)
      · have hf74 := ifn hf68 h73
        obtain ⟨x76, e77, hf78⟩ := bnd_ex hf74
        refine lv_iinc hx hb d_R_chooseTie_98 hl49 (k := 5) rfl (v := x76) (by rw [e77]; rfl) (by decide) (lv' := [(4, .int x76), (5, .int x45), (0, .ref (ad 9)), (1, .ref (ad 0)), (2, .int x25), (3, .int x26)]) rfl (fun ls79 hl80 => ?_)
        refine lv_goto (tgt := 18) hx hb d_R_chooseTie_101 rfl ?_
        cases hf78
        exact hc21 rfl H69 L70 ls79 hP71 hS72 (lv_sub hl80 [2, 3, 4, 5, 0] rfl)
      · have hf75 := ifp hf68 h73
        refine lv_aload_n hx hb d_R_chooseTie_79 rfl (lv_at hl49 1 rfl) ?_
        refine lv_dup hx hb d_R_chooseTie_80 rfl ?_
        refine va_get (D := D) (ci := 2) (v := .int (I66 11 0)) (C := R_R) (T := F_R) (N := 8) hx hb hts (fun w h => List.mem_cons_of_mem _ (uw_R w h)) hown hK hP71 9 rfl rfl 3 (by decide) (hts _ (List.mem_cons_of_mem _ tb_514)) (fun _ h => h) rfl d_R_chooseTie_81 ?_
        refine lv_iconst (v := 1) hx hb d_R_chooseTie_84 (by decide) ?_
        refine lv_iload hx hb d_R_chooseTie_85 (lv_at hl49 5 rfl) ?_
        refine lv_ishl hx hb d_R_chooseTie_87 ?_
        refine lv_ior hx hb d_R_chooseTie_88 ?_
        obtain ⟨I81, e82, hf83⟩ := bnd_ex hf75
        refine va_put (D := D) (ci := 2) (v := .int ((I66 11 0) ||| ((1 : Int32) <<< (x27 &&& 31)))) (ty := .int) (C := R_R) (T := F_R) (N := 8) hx hb hts (fun w h => List.mem_cons_of_mem _ (uw_R w h)) ft_R tk_R n_R hown hK hP71 (hD I66 J0) hS72 9 rfl rfl 3 (by decide) (hts _ (List.mem_cons_of_mem _ tb_514)) (fun _ h => h) rfl (by decide +kernel) rfl rfl (Nat.le_of_ble_eq_true rfl) d_R_chooseTie_89 (fun H84 L85 hp88 _ hS87 => ?_)
        have hP86 : va_P D cls_all (wC ca ad hs I81 J0) H84 := by rw [e82]; exact hp88
        refine lv_iload hx hb d_R_chooseTie_92 (lv_at hl49 0 rfl) ?_
        refine lv_istore_n hx hb d_R_chooseTie_94 rfl hl49 (by decide) (lv' := [(2, .int x45), (5, .int x45), (0, .ref (ad 9)), (1, .ref (ad 0)), (3, .int x26), (4, .int x27)]) rfl (fun ls89 hl90 => ?_)
        obtain ⟨x91, e92, hf93⟩ := bnd_ex hf83
        refine lv_iinc hx hb d_R_chooseTie_95 hl90 (k := 4) rfl (v := x91) (by rw [e92]; rfl) (by decide) (lv' := [(3, .int x91), (2, .int x45), (5, .int x45), (0, .ref (ad 9)), (1, .ref (ad 0)), (4, .int x27)]) rfl (fun ls94 hl95 => ?_)
        obtain ⟨x96, e97, hf98⟩ := bnd_ex hf93
        refine lv_iinc hx hb d_R_chooseTie_98 hl95 (k := 5) rfl (v := x96) (by rw [e97]; rfl) (by decide) (lv' := [(4, .int x96), (3, .int x91), (2, .int x45), (5, .int x45), (0, .ref (ad 9)), (1, .ref (ad 0))]) rfl (fun ls99 hl100 => ?_)
        refine lv_goto (tgt := 18) hx hb d_R_chooseTie_101 rfl ?_
        cases hf98
        exact hc21 rfl H84 L85 ls99 hP86 hS87 (lv_sub hl100 [4, 5, 2, 1, 0] rfl)
theorem d_R_arrange_0 : decode b_R_arrange 0 = .ok (.aload_n 0, 1) := by decide +kernel
theorem d_R_arrange_1 : decode b_R_arrange 1 = .ok (.aload_n 0, 1) := by decide +kernel
theorem d_R_arrange_2 : decode b_R_arrange 2 = .ok (.aload_n 1, 1) := by decide +kernel
theorem d_R_arrange_3 : decode b_R_arrange 3 = .ok (.aload_n 1, 1) := by decide +kernel
theorem d_R_arrange_4 : decode b_R_arrange 4 = .ok (.getfield 27, 3) := by decide +kernel
theorem d_R_arrange_7 : decode b_R_arrange 7 = .ok (.invokevirtual 33, 3) := by decide +kernel
theorem d_R_arrange_10 : decode b_R_arrange 10 = .ok (.putfield 37, 3) := by decide +kernel
theorem d_R_arrange_13 : decode b_R_arrange 13 = .ok (.aload_n 0, 1) := by decide +kernel
theorem d_R_arrange_14 : decode b_R_arrange 14 = .ok (.aload_n 1, 1) := by decide +kernel
theorem d_R_arrange_15 : decode b_R_arrange 15 = .ok (.invokevirtual 40, 3) := by decide +kernel
theorem d_R_arrange_18 : decode b_R_arrange 18 = .ok (.aload_n 0, 1) := by decide +kernel
theorem d_R_arrange_19 : decode b_R_arrange 19 = .ok (.aload_n 1, 1) := by decide +kernel
theorem d_R_arrange_20 : decode b_R_arrange 20 = .ok (.invokevirtual 44, 3) := by decide +kernel
theorem d_R_arrange_23 : decode b_R_arrange 23 = .ok (.aload_n 0, 1) := by decide +kernel
theorem d_R_arrange_24 : decode b_R_arrange 24 = .ok (.iconst 1, 1) := by decide +kernel
theorem d_R_arrange_25 : decode b_R_arrange 25 = .ok (.putfield 47, 3) := by decide +kernel
theorem d_R_arrange_28 : decode b_R_arrange 28 = .ok (.return_, 1) := by decide +kernel
def fm_R_arrange (I0 : IS) : Option (IS) :=
  ob2 (fm_R_widthOf (I0 5 0) I0) (fun x1 I2 => bnd (sV I2 9 x1) (fun I9 => ob1 (fm_R_chooseFollowers I9) (fun I17 => ob1 (fm_R_chooseTie I17) (fun I24 => bnd (sV I24 8 (1 : Int32)) (fun I31 => some I31)))))
set_option maxHeartbeats 4000000 in
set_option maxRecDepth 100000 in
theorem cm_R_arrange (l : Launch) (D : va_G) (ca : Nat → ClassId) (ad : Nat → Nat) (hs : Nat → Option Nat) {I0 : IS} {J0 : JS} {r : IS} (hf : fm_R_arrange I0 = some r) : CtV l y_R_arrange (Cond.code y_R_arrange b_R_arrange 2 none :: TB) { frames := 5, cells := 0, slots := 0, locals := 129 } [.ref (ad 9), .ref (ad 0)] D cls_all (tysC ca) NN (wC ca ad hs I0 J0) (wC ca ad hs r J0) := by
  refine jd_metV (cc := b_R_arrange) (by decide) rfl (Nat.le_of_ble_eq_true rfl) (lv := [(0, .ref (ad 9)), (1, .ref (ad 0))]) rfl ?_
  intro p e R s m args below meth c A Q ls cx hR hK hN hD0 hA hP hS hl hend
  have hx := cx.1
  have hb := cx.2.1
  have hml := cx.2.2.1
  have hown := cx.2.2.2.1
  have hts := cx.2.2.2.2
  have hD : ∀ I J, va_D A (wC ca ad hs I J) := fun I J => jd_Dc hD0 rfl
  unfold fm_R_arrange at hf
  refine lv_aload_n hx hb d_R_arrange_0 rfl (lv_at hl 0 rfl) ?_
  refine lv_aload_n hx hb d_R_arrange_1 rfl (lv_at hl 0 rfl) ?_
  refine lv_aload_n hx hb d_R_arrange_2 rfl (lv_at hl 1 rfl) ?_
  refine lv_aload_n hx hb d_R_arrange_3 rfl (lv_at hl 1 rfl) ?_
  refine va_get (D := D) (ci := 0) (v := .int (I0 5 0)) (C := R_H) (T := F_H) (N := 9) hx hb hts (fun w h => List.mem_cons_of_mem _ (uw_H w h)) hown hK hP 0 rfl rfl 7 (by decide) (hts _ (List.mem_cons_of_mem _ tb_553)) (fun _ h => h) rfl d_R_arrange_4 ?_
  obtain ⟨x1, I2, hc3, hf4⟩ := ob2_ex hf
  refine jd_ci (va_runV (As := [.ref (ad 0), .int (I0 5 0)]) (rest := [.ref (ad 9)]) cx (cm_R_widthOf l D ca ad hs hc3 s.heap.size) (cwV 2 hts (jd_gV tb_367 tb_368 tb_18 tb_54 tb_370) rfl rfl rfl ⟨rfl, by decide, by decide, rfl⟩ (by rw [hR]; decide)) ⟨jd_blind nWc, (va_recv hK hP (ci := 2) (q0 := 9) rfl rfl), (jd_pre (av := [.ref (ad 9), .ref (ad 0), .int (I0 5 0)]) hP hK (hD I0 J0) (fun U h => nWm h hN))⟩ rfl rfl hl.1 rfl (lv_room (Nat.le_of_ble_eq_true rfl)) d_R_arrange_7 ⟨Nat.zero_le _, Nat.zero_le _⟩) hS (hD I0 J0) hA (fun H5 L6 hP7 hS8 => ?_)
  obtain ⟨I9, e10, hf11⟩ := bnd_ex hf4
  refine va_put (D := D) (ci := 2) (v := .int x1) (ty := .int) (C := R_R) (T := F_R) (N := 8) hx hb hts (fun w h => List.mem_cons_of_mem _ (uw_R w h)) ft_R tk_R n_R hown hK hP7 (hD I2 J0) hS8 9 rfl rfl 1 (by decide) (hts _ (List.mem_cons_of_mem _ tb_510)) (fun _ h => h) rfl (by decide +kernel) rfl rfl (Nat.le_of_ble_eq_true rfl) d_R_arrange_10 (fun H12 L13 hp16 _ hS15 => ?_)
  have hP14 : va_P D cls_all (wC ca ad hs I9 J0) H12 := by rw [e10]; exact hp16
  refine lv_aload_n hx hb d_R_arrange_13 rfl (lv_at hl 0 rfl) ?_
  refine lv_aload_n hx hb d_R_arrange_14 rfl (lv_at hl 1 rfl) ?_
  obtain ⟨I17, hc18, hf19⟩ := ob1_ex hf11
  refine jd_cv (va_runV (As := [.ref (ad 0)]) (rest := []) cx (cm_R_chooseFollowers l D ca ad hs hc18 H12.size) (cwV 1 hts (jd_gV tb_382 tb_383 tb_22 tb_54 tb_384) rfl rfl rfl ⟨rfl, by decide, by decide, rfl⟩ (by rw [hR]; decide)) ⟨jd_blind nWc, (va_recv hK hP14 (ci := 2) (q0 := 9) rfl rfl), (jd_pre (av := [.ref (ad 9), .ref (ad 0)]) hP14 hK (hD I9 J0) (fun U h => nWm h hN))⟩ rfl rfl hl.1 rfl (lv_room (Nat.le_of_ble_eq_true rfl)) d_R_arrange_15 ⟨Nat.zero_le _, Nat.zero_le _⟩) hS15 (hD I9 J0) hA (fun H20 L21 hP22 hS23 => ?_)
  refine lv_aload_n hx hb d_R_arrange_18 rfl (lv_at hl 0 rfl) ?_
  refine lv_aload_n hx hb d_R_arrange_19 rfl (lv_at hl 1 rfl) ?_
  obtain ⟨I24, hc25, hf26⟩ := ob1_ex hf19
  refine jd_cv (va_runV (As := [.ref (ad 0)]) (rest := []) cx (cm_R_chooseTie l D ca ad hs hc25 H20.size) (cwV 1 hts (jd_gV tb_389 tb_390 tb_24 tb_54 tb_391) rfl rfl rfl ⟨rfl, by decide, by decide, rfl⟩ (by rw [hR]; decide)) ⟨jd_blind nWc, (va_recv hK hP22 (ci := 2) (q0 := 9) rfl rfl), (jd_pre (av := [.ref (ad 9), .ref (ad 0)]) hP22 hK (hD I17 J0) (fun U h => nWm h hN))⟩ rfl rfl hl.1 rfl (lv_room (Nat.le_of_ble_eq_true rfl)) d_R_arrange_20 ⟨Nat.zero_le _, Nat.zero_le _⟩) hS23 (hD I17 J0) hA (fun H27 L28 hP29 hS30 => ?_)
  refine lv_aload_n hx hb d_R_arrange_23 rfl (lv_at hl 0 rfl) ?_
  refine lv_iconst (v := 1) hx hb d_R_arrange_24 (by decide) ?_
  obtain ⟨I31, e32, hf33⟩ := bnd_ex hf26
  refine va_put (D := D) (ci := 2) (v := .int (1 : Int32)) (ty := .boolean) (C := R_R) (T := F_R) (N := 8) hx hb hts (fun w h => List.mem_cons_of_mem _ (uw_R w h)) ft_R tk_R n_R hown hK hP29 (hD I24 J0) hS30 9 rfl rfl 0 (by decide) (hts _ (List.mem_cons_of_mem _ tb_507)) (fun _ h => h) rfl (by decide +kernel) rfl rfl (Nat.le_of_ble_eq_true rfl) d_R_arrange_25 (fun H34 L35 hp38 _ hS37 => ?_)
  have hP36 : va_P D cls_all (wC ca ad hs I31 J0) H34 := by rw [e32]; exact hp38
  cases hf33
  exact hend H34 L35 28 ls hP36 hS37 d_R_arrange_28
theorem d_R_tied_0 : decode b_R_tied 0 = .ok (.iload_n 1, 1) := by decide +kernel
theorem d_R_tied_1 : decode b_R_tied 1 = .ok (.istore_n 2, 1) := by decide +kernel
theorem d_R_tied_2 : decode b_R_tied 2 = .ok (.iconst 0, 1) := by decide +kernel
theorem d_R_tied_3 : decode b_R_tied 3 = .ok (.istore_n 3, 1) := by decide +kernel
theorem d_R_tied_4 : decode b_R_tied 4 = .ok (.iload_n 3, 1) := by decide +kernel
theorem d_R_tied_5 : decode b_R_tied 5 = .ok (.bipush 16, 2) := by decide +kernel
theorem d_R_tied_7 : decode b_R_tied 7 = .ok (.if_icmp .ge 29, 3) := by decide +kernel
theorem d_R_tied_10 : decode b_R_tied 10 = .ok (.aload_n 0, 1) := by decide +kernel
theorem d_R_tied_11 : decode b_R_tied 11 = .ok (.getfield 51, 3) := by decide +kernel
theorem d_R_tied_14 : decode b_R_tied 14 = .ok (.iload_n 3, 1) := by decide +kernel
theorem d_R_tied_15 : decode b_R_tied 15 = .ok (.invokestatic 54, 3) := by decide +kernel
theorem d_R_tied_18 : decode b_R_tied 18 = .ok (.ifCond .eq 12, 3) := by decide +kernel
theorem d_R_tied_21 : decode b_R_tied 21 = .ok (.iload_n 2, 1) := by decide +kernel
theorem d_R_tied_22 : decode b_R_tied 22 = .ok (.ifCond .ne 5, 3) := by decide +kernel
theorem d_R_tied_25 : decode b_R_tied 25 = .ok (.iload_n 3, 1) := by decide +kernel
theorem d_R_tied_26 : decode b_R_tied 26 = .ok (.ireturn, 1) := by decide +kernel
theorem d_R_tied_27 : decode b_R_tied 27 = .ok (.iinc 2 (-1), 3) := by decide +kernel
theorem d_R_tied_30 : decode b_R_tied 30 = .ok (.iinc 3 1, 3) := by decide +kernel
theorem d_R_tied_33 : decode b_R_tied 33 = .ok (.goto (-29), 3) := by decide +kernel
theorem d_R_tied_36 : decode b_R_tied 36 = .ok (.iconst (-1), 1) := by decide +kernel
theorem d_R_tied_37 : decode b_R_tied 37 = .ok (.ireturn, 1) := by decide +kernel
def fm_R_tied_B4 (I0 : IS) (x9 : Int32) (x10 : Int32) : Option (Nat × Int32 × Int32) :=
  if (16 : Int32) ≤ x10 then some (1, x9, x10) else ob1 (fm_K_holds (I0 11 0) x10) (fun x23 => if x23 = 0 then bnd (x10 + (1 : Int32)) (fun x33 => some (0, x9, x33)) else if x9 = 0 then some (2, x9, x10) else bnd (x9 + (-1 : Int32)) (fun x41 => bnd (x10 + (1 : Int32)) (fun x46 => some (0, x41, x46))))
def fm_R_tied (p0 : Int32) (I0 : IS) : Option (Int32) :=
  ob3 (iter (fun z : Int32 × Int32 => fm_R_tied_B4 I0 z.1 z.2) FU (p0, (0 : Int32))) (fun tg52 x53 x54 => if tg52 = 1 then some (-1 : Int32) else some x54)
set_option maxHeartbeats 4000000 in
set_option maxRecDepth 100000 in
theorem cm_R_tied (l : Launch) (D : va_G) (ca : Nat → ClassId) (ad : Nat → Nat) (hs : Nat → Option Nat) {p0 : Int32} {I0 : IS} {J0 : JS} {r : Int32} (hf : fm_R_tied p0 I0 = some r) : CtI l y_R_tied (Cond.code y_R_tied b_R_tied 4 (some .int) :: TB) { frames := 1, cells := 0, slots := 0, locals := 21 } [.ref (ad 9), .int p0] D cls_all (tysC ca) NN (wC ca ad hs I0 J0) (wC ca ad hs I0 J0) r := by
  refine jd_metI (cc := b_R_tied) (by decide) rfl (Nat.le_of_ble_eq_true rfl) (lv := [(0, .ref (ad 9)), (1, .int p0)]) rfl ?_
  intro p e R s m args below meth c A Q ls cx hR hK hN hD0 hA hP hS hl hend
  have hx := cx.1
  have hb := cx.2.1
  have hml := cx.2.2.1
  have hown := cx.2.2.2.1
  have hts := cx.2.2.2.2
  have hD : ∀ I J, va_D A (wC ca ad hs I J) := fun I J => jd_Dc hD0 rfl
  unfold fm_R_tied at hf
  refine lv_iload_n hx hb d_R_tied_0 rfl (lv_at hl 1 rfl) ?_
  refine lv_istore_n hx hb d_R_tied_1 rfl hl (by decide) (lv' := [(2, .int p0), (0, .ref (ad 9)), (1, .int p0)]) rfl (fun ls1 hl2 => ?_)
  refine lv_iconst (v := 0) hx hb d_R_tied_2 (by decide) ?_
  refine lv_istore_n hx hb d_R_tied_3 rfl hl2 (by decide) (lv' := [(3, .int (0 : Int32)), (2, .int p0), (0, .ref (ad 9)), (1, .int p0)]) rfl (fun ls3 hl4 => ?_)
  obtain ⟨tg52, x53, x54, ho55, hf56⟩ := ob3_ex hf
  have kx4_1 : tg52 = 1 → ∀ (H57 : Heap) (L58 : List Loc) (ls59 : Array Slot), va_P D cls_all (wC ca ad hs I0 J0) H57 → va_S A s.heap H57 L58 → lv_has ls59 4 [] → W p l e R s m args below meth c H57 L58 0 0 Q (F0 m 36 ls59 []) := by
    intro ht64 H57 L58 ls59 hP60 hS61 hl62
    have hf63 := ifp hf56 ht64
    refine lv_iconst (v := -1) hx hb d_R_tied_36 (by decide) ?_
    cases hf63
    exact hend H57 L58 37 ls59 hP60 hS61 d_R_tied_37
  have kx4_2 : tg52 = 2 → ∀ (H65 : Heap) (L66 : List Loc) (ls67 : Array Slot), va_P D cls_all (wC ca ad hs I0 J0) H65 → va_S A s.heap H65 L66 → lv_has ls67 4 [(3, .int x54)] → W p l e R s m args below meth c H65 L66 0 0 Q (F0 m 25 ls67 []) := by
    intro ht72 H65 L66 ls67 hP68 hS69 hl70
    have hf73 := ifn hf56 (by rw [ht72]; decide)
    have hf71 := hf73
    refine lv_iload_n hx hb d_R_tied_25 rfl (lv_at hl70 0 rfl) ?_
    cases hf71
    exact hend H65 L66 26 ls67 hP68 hS69 d_R_tied_26
  refine iter_ind (C := fun z : Int32 × Int32 => ∀ (H11 : Heap) (L12 : List Loc) (ls13 : Array Slot), va_P D cls_all (wC ca ad hs I0 J0) H11 → va_S A s.heap H11 L12 → lv_has ls13 4 [(0, .ref (ad 9)), (2, .int z.1), (3, .int z.2)] → W p l e R s m args below meth c H11 L12 0 0 Q (F0 m 4 ls13 [])) (fun z8 o7 hz18 hc5 he6 => ?_) _ _ ho55 s.heap [] ls3 hP hS (lv_sub hl4 [2, 1, 0] rfl)
  obtain ⟨x9, x10⟩ := z8
  intro H11 L12 ls13 hP14 hS15 hl16
  have hf17 : fm_R_tied_B4 I0 x9 x10 = some o7 := hz18
  unfold fm_R_tied_B4 at hf17
  refine lv_iload_n hx hb d_R_tied_4 rfl (lv_at hl16 2 rfl) ?_
  refine lv_bipush (v := 16) hx hb d_R_tied_5 (by decide) ?_
  refine lv_icmp_ge (tgt := 36) hx hb d_R_tied_7 rfl (fun h19 => ?_) (fun h19 => ?_)
  · have hf20 := ifp hf17 h19
    cases hf20
    have e22 := he6 (by show (1 : Nat) ≠ 0; decide)
    cases e22
    exact kx4_1 rfl H11 L12 ls13 hP14 hS15 (lv_sub hl16 [] rfl)
  · have hf21 := ifn hf17 h19
    refine lv_aload_n hx hb d_R_tied_10 rfl (lv_at hl16 0 rfl) ?_
    refine va_get (D := D) (ci := 2) (v := .int (I0 11 0)) (C := R_R) (T := F_R) (N := 8) hx hb hts (fun w h => List.mem_cons_of_mem _ (uw_R w h)) hown hK hP14 9 rfl rfl 3 (by decide) (hts _ (List.mem_cons_of_mem _ tb_514)) (fun _ h => h) rfl d_R_tied_11 ?_
    refine lv_iload_n hx hb d_R_tied_14 rfl (lv_at hl16 2 rfl) ?_
    obtain ⟨x23, hc24, hf25⟩ := ob1_ex hf21
    refine jd_ci (va_runSN (As := [.int (I0 11 0), .int x10]) (rest := []) cx (cm_K_holds l D ca (wC ca ad hs I0 J0) (I0 := I0) (J0 := J0) hc24 H11.size) ⟨va_cnB 2 hts (jd_gB tb_132) rfl rfl rfl (hN _ nw_3) (hts _ (List.mem_cons_of_mem _ tb_43)) ⟨by decide, by decide, rfl⟩ (by rw [hR]; decide), hts _ (List.mem_cons_of_mem _ tb_131), trivial⟩ ⟨jd_blind nWc, (jd_pre (av := [.int (I0 11 0), .int x10]) hP14 hK (hD I0 J0) (fun U h => nWm h hN))⟩ rfl rfl hl16.1 rfl (lv_room (Nat.le_of_ble_eq_true rfl)) d_R_tied_15 ⟨Nat.zero_le _, Nat.zero_le _⟩) hS15 (hD I0 J0) hA (fun H26 L27 hP28 hS29 => ?_)
    refine lv_if_eq (tgt := 30) hx hb d_R_tied_18 rfl (fun h30 => ?_) (fun h30 => ?_)
    · have hf31 := ifp hf25 h30
      obtain ⟨x33, e34, hf35⟩ := bnd_ex hf31
      refine lv_iinc hx hb d_R_tied_30 hl16 (k := 2) rfl (v := x33) (by rw [e34]; rfl) (by decide) (lv' := [(3, .int x33), (0, .ref (ad 9)), (2, .int x9)]) rfl (fun ls36 hl37 => ?_)
      refine lv_goto (tgt := 4) hx hb d_R_tied_33 rfl ?_
      cases hf35
      exact hc5 rfl H26 L27 ls36 hP28 hS29 (lv_sub hl37 [1, 2, 0] rfl)
    · have hf32 := ifn hf25 h30
      refine lv_iload_n hx hb d_R_tied_21 rfl (lv_at hl16 1 rfl) ?_
      refine lv_if_ne (tgt := 27) hx hb d_R_tied_22 rfl (fun h38 => ?_) (fun h38 => ?_)
      · have hf39 := ifn hf32 h38
        obtain ⟨x41, e42, hf43⟩ := bnd_ex hf39
        refine lv_iinc hx hb d_R_tied_27 hl16 (k := 1) rfl (v := x41) (by rw [e42]; rfl) (by decide) (lv' := [(2, .int x41), (0, .ref (ad 9)), (3, .int x10)]) rfl (fun ls44 hl45 => ?_)
        obtain ⟨x46, e47, hf48⟩ := bnd_ex hf43
        refine lv_iinc hx hb d_R_tied_30 hl45 (k := 2) rfl (v := x46) (by rw [e47]; rfl) (by decide) (lv' := [(3, .int x46), (2, .int x41), (0, .ref (ad 9))]) rfl (fun ls49 hl50 => ?_)
        refine lv_goto (tgt := 4) hx hb d_R_tied_33 rfl ?_
        cases hf48
        exact hc5 rfl H26 L27 ls49 hP28 hS29 (lv_sub hl50 [2, 1, 0] rfl)
      · have hf40 := ifp hf32 h38
        cases hf40
        have e51 := he6 (by show (2 : Nat) ≠ 0; decide)
        cases e51
        exact kx4_2 rfl H26 L27 ls13 hP28 hS29 (lv_sub hl16 [2] rfl)
