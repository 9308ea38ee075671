theorem d_M_meanRank_0 : decode b_M_meanRank 0 = .ok (.aload_n 0, 1) := by decide +kernel
theorem d_M_meanRank_1 : decode b_M_meanRank 1 = .ok (.iconst 0, 1) := by decide +kernel
theorem d_M_meanRank_2 : decode b_M_meanRank 2 = .ok (.putfield 7, 3) := by decide +kernel
theorem d_M_meanRank_5 : decode b_M_meanRank 5 = .ok (.aload_n 0, 1) := by decide +kernel
theorem d_M_meanRank_6 : decode b_M_meanRank 6 = .ok (.iload_n 1, 1) := by decide +kernel
theorem d_M_meanRank_7 : decode b_M_meanRank 7 = .ok (.iload_n 2, 1) := by decide +kernel
theorem d_M_meanRank_8 : decode b_M_meanRank 8 = .ok (.invokevirtual 87, 3) := by decide +kernel
theorem d_M_meanRank_11 : decode b_M_meanRank 11 = .ok (.ifCond .ne 5, 3) := by decide +kernel
theorem d_M_meanRank_14 : decode b_M_meanRank 14 = .ok (.lconst 0, 1) := by decide +kernel
theorem d_M_meanRank_15 : decode b_M_meanRank 15 = .ok (.lreturn, 1) := by decide +kernel
theorem d_M_meanRank_16 : decode b_M_meanRank 16 = .ok (.lconst 0, 1) := by decide +kernel
theorem d_M_meanRank_17 : decode b_M_meanRank 17 = .ok (.lstore 4, 2) := by decide +kernel
theorem d_M_meanRank_19 : decode b_M_meanRank 19 = .ok (.iconst 1, 1) := by decide +kernel
theorem d_M_meanRank_20 : decode b_M_meanRank 20 = .ok (.istore 6, 2) := by decide +kernel
theorem d_M_meanRank_22 : decode b_M_meanRank 22 = .ok (.iload 6, 2) := by decide +kernel
theorem d_M_meanRank_24 : decode b_M_meanRank 24 = .ok (.bipush 17, 2) := by decide +kernel
theorem d_M_meanRank_26 : decode b_M_meanRank 26 = .ok (.if_icmp .ge 26, 3) := by decide +kernel
theorem d_M_meanRank_29 : decode b_M_meanRank 29 = .ok (.lload 4, 2) := by decide +kernel
theorem d_M_meanRank_31 : decode b_M_meanRank 31 = .ok (.iload 6, 2) := by decide +kernel
theorem d_M_meanRank_33 : decode b_M_meanRank 33 = .ok (.i2l, 1) := by decide +kernel
theorem d_M_meanRank_34 : decode b_M_meanRank 34 = .ok (.aload_n 0, 1) := by decide +kernel
theorem d_M_meanRank_35 : decode b_M_meanRank 35 = .ok (.iload_n 1, 1) := by decide +kernel
theorem d_M_meanRank_36 : decode b_M_meanRank 36 = .ok (.iload_n 2, 1) := by decide +kernel
theorem d_M_meanRank_37 : decode b_M_meanRank 37 = .ok (.iload 6, 2) := by decide +kernel
theorem d_M_meanRank_39 : decode b_M_meanRank 39 = .ok (.invokevirtual 138, 3) := by decide +kernel
theorem d_M_meanRank_42 : decode b_M_meanRank 42 = .ok (.lmul, 1) := by decide +kernel
theorem d_M_meanRank_43 : decode b_M_meanRank 43 = .ok (.ladd, 1) := by decide +kernel
theorem d_M_meanRank_44 : decode b_M_meanRank 44 = .ok (.lstore 4, 2) := by decide +kernel
theorem d_M_meanRank_46 : decode b_M_meanRank 46 = .ok (.iinc 6 1, 3) := by decide +kernel
theorem d_M_meanRank_49 : decode b_M_meanRank 49 = .ok (.goto (-27), 3) := by decide +kernel
theorem d_M_meanRank_52 : decode b_M_meanRank 52 = .ok (.lload 4, 2) := by decide +kernel
theorem d_M_meanRank_54 : decode b_M_meanRank 54 = .ok (.aload_n 0, 1) := by decide +kernel
theorem d_M_meanRank_55 : decode b_M_meanRank 55 = .ok (.getfield 54, 3) := by decide +kernel
theorem d_M_meanRank_58 : decode b_M_meanRank 58 = .ok (.iconst 0, 1) := by decide +kernel
theorem d_M_meanRank_59 : decode b_M_meanRank 59 = .ok (.laload, 1) := by decide +kernel
theorem d_M_meanRank_60 : decode b_M_meanRank 60 = .ok (.invokestatic 142, 3) := by decide +kernel
theorem d_M_meanRank_63 : decode b_M_meanRank 63 = .ok (.lstore 6, 2) := by decide +kernel
theorem d_M_meanRank_65 : decode b_M_meanRank 65 = .ok (.iload_n 3, 1) := by decide +kernel
theorem d_M_meanRank_66 : decode b_M_meanRank 66 = .ok (.ifCond .eq 11, 3) := by decide +kernel
theorem d_M_meanRank_69 : decode b_M_meanRank 69 = .ok (.lload 4, 2) := by decide +kernel
theorem d_M_meanRank_71 : decode b_M_meanRank 71 = .ok (.lload 6, 2) := by decide +kernel
theorem d_M_meanRank_73 : decode b_M_meanRank 73 = .ok (.ldiv, 1) := by decide +kernel
theorem d_M_meanRank_74 : decode b_M_meanRank 74 = .ok (.goto 12, 3) := by decide +kernel
theorem d_M_meanRank_77 : decode b_M_meanRank 77 = .ok (.aload_n 0, 1) := by decide +kernel
theorem d_M_meanRank_78 : decode b_M_meanRank 78 = .ok (.getfield 54, 3) := by decide +kernel
theorem d_M_meanRank_81 : decode b_M_meanRank 81 = .ok (.iconst 0, 1) := by decide +kernel
theorem d_M_meanRank_82 : decode b_M_meanRank 82 = .ok (.laload, 1) := by decide +kernel
theorem d_M_meanRank_83 : decode b_M_meanRank 83 = .ok (.lload 6, 2) := by decide +kernel
theorem d_M_meanRank_85 : decode b_M_meanRank 85 = .ok (.ldiv, 1) := by decide +kernel
theorem d_M_meanRank_86 : decode b_M_meanRank 86 = .ok (.lreturn, 1) := by decide +kernel
def fm_M_meanRank_B22 (p0 : Int32) (p1 : Int32) (y27 : Int64) (x28 : Int32) (I29 : IS) (J30 : JS) : Option (Nat × Int64 × Int32 × IS × JS) :=
  if (17 : Int32) ≤ x28 then some (1, y27, x28, I29, J30) else ob3 (fm_M_rank p0 p1 x28 I29 J30) (fun y43 I44 J45 => bnd (y27 + (x28.toInt64 * y43)) (fun y52 => bnd (x28 + (1 : Int32)) (fun x57 => some (0, y52, x57, I44, J45))))
def fm_M_meanRank (p0 : Int32) (p1 : Int32) (p2 : Int32) (I0 : IS) (J0 : JS) : Option (Int64 × IS × JS) :=
  bnd (sV I0 0 (0 : Int32)) (fun I1 => ob1 (fm_M_there p0 p1 I1) (fun x9 => if x9 = 0 then some ((0 : Int64), I1, J0) else ob5 (iter (fun z : Int64 × Int32 × IS × JS => fm_M_meanRank_B22 p0 p1 z.1 z.2.1 z.2.2.1 z.2.2.2) FU ((0 : Int64), (1 : Int32), I1, J0)) (fun _ y63 x64 I65 J66 => grd (inB (0 : Int32) 65536) (ob1 (fm_M_common y63 (J66 1 (0 : Int32).toNatClampNeg)) (fun y77 => if p2 = 0 then grd (inB (0 : Int32) 65536) (grd (decide (¬ y77 = 0)) (some ((J66 1 (0 : Int32).toNatClampNeg) / y77, I65, J66))) else grd (decide (¬ y77 = 0)) (some (y63 / y77, I65, J66)))))))
set_option maxHeartbeats 4000000 in
set_option maxRecDepth 100000 in
theorem cm_M_meanRank (l : Launch) (D : va_G) (ca : Nat → ClassId) (am : Nat → Nat) {p0 : Int32} {p1 : Int32} {p2 : Int32} {I0 : IS} {J0 : JS} {r : Int64 × IS × JS} (hf : fm_M_meanRank p0 p1 p2 I0 J0 = some r) : CtL l y_M_meanRank (Cond.code y_M_meanRank b_M_meanRank 8 (some .long) :: TB) { frames := 5, cells := 0, slots := 0, locals := 117 } [.ref (am 0), .int p0, .int p1, .int p2] D cls_all (tysC ca) NN (wM ca am I0 J0) (wM ca am r.2.1 r.2.2) r.1 := by
  refine jd_metL (cc := b_M_meanRank) (by decide) rfl (Nat.le_of_ble_eq_true rfl) (lv := [(0, .ref (am 0)), (1, .int p0), (2, .int p1), (3, .int p2)]) rfl ?_
  intro p e R s m args below meth c A Q ls cx hR hK hN hD0 hA hP hS hl hend
  have hx := cx.1
  have hb := cx.2.1
  have hml := cx.2.2.1
  have hown := cx.2.2.2.1
  have hts := cx.2.2.2.2
  have hD : ∀ I J, va_D A (wM ca am I J) := fun I J => jd_Dc hD0 rfl
  unfold fm_M_meanRank at hf
  refine lv_aload_n hx hb d_M_meanRank_0 rfl (lv_at hl 0 rfl) ?_
  refine lv_iconst (v := 0) hx hb d_M_meanRank_1 (by decide) ?_
  obtain ⟨I1, e2, hf3⟩ := bnd_ex hf
  refine va_put (D := D) (ci := 6) (v := .int (0 : Int32)) (ty := .int) (C := R_M) (T := F_M) (N := 24) hx hb hts (fun w h => List.mem_cons_of_mem _ (uw_M w h)) ft_M tk_M n_M hown hK hP (hD I0 J0) hS 0 rfl rfl 0 (by decide) (hts _ (List.mem_cons_of_mem _ tb_600)) (fun _ h => h) rfl (by decide +kernel) rfl rfl (Nat.le_of_ble_eq_true rfl) d_M_meanRank_2 (fun H4 L5 hp8 _ hS7 => ?_)
  have hP6 : va_P D cls_all (wM ca am I1 J0) H4 := by rw [e2]; exact hp8
  refine lv_aload_n hx hb d_M_meanRank_5 rfl (lv_at hl 0 rfl) ?_
  refine lv_iload_n hx hb d_M_meanRank_6 rfl (lv_at hl 1 rfl) ?_
  refine lv_iload_n hx hb d_M_meanRank_7 rfl (lv_at hl 2 rfl) ?_
  obtain ⟨x9, hc10, hf11⟩ := ob1_ex hf3
  refine jd_ci (va_runV (As := [.int p0, .int p1]) (rest := []) cx (cm_M_there l D ca am hc10 H4.size) (cwV 2 hts (jd_gV tb_684 tb_685 tb_26 tb_47 tb_686) rfl rfl rfl ⟨rfl, by decide, by decide, rfl⟩ (by rw [hR]; decide)) ⟨jd_blind nWc, (va_recv hK hP6 (ci := 6) (q0 := 0) rfl rfl), (jd_pre (av := [.ref (am 0), .int p0, .int p1]) hP6 hK (hD I1 J0) (fun U h => nWm h hN))⟩ rfl rfl hl.1 rfl (lv_room (Nat.le_of_ble_eq_true rfl)) d_M_meanRank_8 ⟨Nat.zero_le _, Nat.zero_le _⟩) hS7 (hD I1 J0) hA (fun H12 L13 hP14 hS15 => ?_)
  refine lv_if_ne (tgt := 16) hx hb d_M_meanRank_11 rfl (fun h16 => ?_) (fun h16 => ?_)
  · have hf17 := ifn hf11 h16
    refine lv_lconst (v := 0) hx hb d_M_meanRank_16 (by decide) ?_
    refine lv_lstore hx hb d_M_meanRank_17 hl (by decide) (lv' := [(4, .long (0 : Int64)), (0, .ref (am 0)), (1, .int p0), (2, .int p1), (3, .int p2)]) rfl (fun ls19 hl20 => ?_)
    refine lv_iconst (v := 1) hx hb d_M_meanRank_19 (by decide) ?_
    refine lv_istore hx hb d_M_meanRank_20 hl20 (by decide) (lv' := [(6, .int (1 : Int32)), (4, .long (0 : Int64)), (0, .ref (am 0)), (1, .int p0), (2, .int p1), (3, .int p2)]) rfl (fun ls21 hl22 => ?_)
    obtain ⟨tg62, y63, x64, I65, J66, ho67, hf68⟩ := ob5_ex hf17
    have kx22_1 : ∀ (H69 : Heap) (L70 : List Loc) (ls71 : Array Slot), va_P D cls_all (wM ca am I65 J66) H69 → va_S A s.heap H69 L70 → lv_has ls71 8 [(0, .ref (am 0)), (3, .int p2), (4, .long y63)] → W p l e R s m args below meth c H69 L70 0 0 Q (F0 m 52 ls71 []) := by
      intro H69 L70 ls71 hP72 hS73 hl74
      refine lv_lload hx hb d_M_meanRank_52 (lv_at hl74 2 rfl) ?_
      refine lv_aload_n hx hb d_M_meanRank_54 rfl (lv_at hl74 0 rfl) ?_
      refine va_get (D := D) (ci := 6) (v := .ref (am 10)) (C := R_M) (T := F_M) (N := 24) hx hb hts (fun w h => List.mem_cons_of_mem _ (uw_M w h)) hown hK hP72 0 rfl rfl 13 (by decide) (hts _ (List.mem_cons_of_mem _ tb_613)) (fun _ h => h) rfl d_M_meanRank_55 ?_
      refine lv_iconst (v := 0) hx hb d_M_meanRank_58 (by decide) ?_
      obtain ⟨hg75, hf76⟩ := grd_ex hf68
      refine va_lald hx hb hK hP72 10 3 rfl rfl (inB_in hg75) d_M_meanRank_59 ?_
      obtain ⟨y77, hc78, hf79⟩ := ob1_ex hf76
      refine jd_cl (va_runS (As := [.long y63, .long (J66 1 (0 : Int32).toNatClampNeg)]) (rest := []) cx (cm_M_common l D ca (wM ca am I65 J66) (I0 := I65) (J0 := J66) hc78 H69.size) (va_cwS 2 hts (jd_gS2 tb_752 tb_753 tb_47 tb_754) rfl rfl rfl ⟨by decide, by decide, rfl⟩ (by rw [hR]; decide)) ⟨jd_blind nWc, (jd_pre (av := [.long y63, .long (J66 1 (0 : Int32).toNatClampNeg)]) hP72 hK (hD I65 J66) (fun U h => nWm h hN))⟩ rfl rfl hl74.1 rfl (lv_room (Nat.le_of_ble_eq_true rfl)) d_M_meanRank_60 ⟨Nat.zero_le _, Nat.zero_le _⟩) hS73 (hD I65 J66) hA (fun H80 L81 hP82 hS83 => ?_)
      refine lv_lstore hx hb d_M_meanRank_63 hl74 (by decide) (lv' := [(6, .long y77), (0, .ref (am 0)), (3, .int p2), (4, .long y63)]) rfl (fun ls84 hl85 => ?_)
      refine lv_iload_n hx hb d_M_meanRank_65 rfl (lv_at hl85 2 rfl) ?_
      refine lv_if_eq (tgt := 77) hx hb d_M_meanRank_66 rfl (fun h86 => ?_) (fun h86 => ?_)
      · have hf87 := ifp hf79 h86
        refine lv_aload_n hx hb d_M_meanRank_77 rfl (lv_at hl85 1 rfl) ?_
        refine va_get (D := D) (ci := 6) (v := .ref (am 10)) (C := R_M) (T := F_M) (N := 24) hx hb hts (fun w h => List.mem_cons_of_mem _ (uw_M w h)) hown hK hP82 0 rfl rfl 13 (by decide) (hts _ (List.mem_cons_of_mem _ tb_613)) (fun _ h => h) rfl d_M_meanRank_78 ?_
        refine lv_iconst (v := 0) hx hb d_M_meanRank_81 (by decide) ?_
        obtain ⟨hg89, hf90⟩ := grd_ex hf87
        refine va_lald hx hb hK hP82 10 3 rfl rfl (inB_in hg89) d_M_meanRank_82 ?_
        refine lv_lload hx hb d_M_meanRank_83 (lv_at hl85 0 rfl) ?_
        obtain ⟨hg91, hf92⟩ := grd_ex hf90
        refine lv_ldiv hx hb d_M_meanRank_85 (of_decide_eq_true hg91) ?_
        cases hf92
        exact hend H80 L81 86 ls84 hP82 hS83 d_M_meanRank_86
      · have hf88 := ifn hf79 h86
        refine lv_lload hx hb d_M_meanRank_69 (lv_at hl85 3 rfl) ?_
        refine lv_lload hx hb d_M_meanRank_71 (lv_at hl85 0 rfl) ?_
        obtain ⟨hg93, hf94⟩ := grd_ex hf88
        refine lv_ldiv hx hb d_M_meanRank_73 (of_decide_eq_true hg93) ?_
        refine lv_goto (tgt := 86) hx hb d_M_meanRank_74 rfl ?_
        cases hf94
        exact hend H80 L81 86 ls84 hP82 hS83 d_M_meanRank_86
    refine iter_ind (C := fun z : Int64 × Int32 × IS × JS => ∀ (H31 : Heap) (L32 : List Loc) (ls33 : Array Slot), va_P D cls_all (wM ca am z.2.2.1 z.2.2.2) H31 → va_S A s.heap H31 L32 → lv_has ls33 8 [(0, .ref (am 0)), (1, .int p0), (2, .int p1), (3, .int p2), (4, .long z.1), (6, .int z.2.1)] → W p l e R s m args below meth c H31 L32 0 0 Q (F0 m 22 ls33 [])) (fun z26 o25 hz38 hc23 he24 => ?_) _ _ ho67 H12 L13 ls21 hP14 hS15 (lv_sub hl22 [2, 3, 4, 5, 1, 0] rfl)
    obtain ⟨y27, x28, I29, J30⟩ := z26
    intro H31 L32 ls33 hP34 hS35 hl36
    have hf37 : fm_M_meanRank_B22 p0 p1 y27 x28 I29 J30 = some o25 := hz38
    unfold fm_M_meanRank_B22 at hf37
    refine lv_iload hx hb d_M_meanRank_22 (lv_at hl36 5 rfl) ?_
    refine lv_bipush (v := 17) hx hb d_M_meanRank_24 (by decide) ?_
    refine lv_icmp_ge (tgt := 52) hx hb d_M_meanRank_26 rfl (fun h39 => ?_) (fun h39 => ?_)
    · have hf40 := ifp hf37 h39
      cases hf40
      have e42 := he24 (by show (1 : Nat) ≠ 0; decide)
      cases e42
      exact kx22_1 H31 L32 ls33 hP34 hS35 (lv_sub hl36 [0, 3, 4] rfl)
    · have hf41 := ifn hf37 h39
      refine lv_lload hx hb d_M_meanRank_29 (lv_at hl36 4 rfl) ?_
      refine lv_iload hx hb d_M_meanRank_31 (lv_at hl36 5 rfl) ?_
      refine lv_i2l hx hb d_M_meanRank_33 rfl ?_
      refine lv_aload_n hx hb d_M_meanRank_34 rfl (lv_at hl36 0 rfl) ?_
      refine lv_iload_n hx hb d_M_meanRank_35 rfl (lv_at hl36 1 rfl) ?_
      refine lv_iload_n hx hb d_M_meanRank_36 rfl (lv_at hl36 2 rfl) ?_
      refine lv_iload hx hb d_M_meanRank_37 (lv_at hl36 5 rfl) ?_
      obtain ⟨y43, I44, J45, hc46, hf47⟩ := ob3_ex hf41
      refine jd_cl (va_runV (As := [.int p0, .int p1, .int x28]) (rest := [.long x28.toInt64, .long y27]) cx (cm_M_rank l D ca am hc46 H31.size) (cwV 3 hts (jd_gV tb_741 tb_742 tb_33 tb_47 tb_743) rfl rfl rfl ⟨rfl, by decide, by decide, rfl⟩ (by rw [hR]; decide)) ⟨jd_blind nWc, (va_recv hK hP34 (ci := 6) (q0 := 0) rfl rfl), (jd_pre (av := [.ref (am 0), .int p0, .int p1, .int x28]) hP34 hK (hD I29 J30) (fun U h => nWm h hN))⟩ rfl rfl hl36.1 rfl (lv_room (Nat.le_of_ble_eq_true rfl)) d_M_meanRank_39 ⟨Nat.zero_le _, Nat.zero_le _⟩) hS35 (hD I29 J30) hA (fun H48 L49 hP50 hS51 => ?_)
      refine lv_lmul hx hb d_M_meanRank_42 ?_
      refine lv_ladd hx hb d_M_meanRank_43 ?_
      obtain ⟨y52, e53, hf54⟩ := bnd_ex hf47
      refine jd_tnl e53 ?_
      refine lv_lstore hx hb d_M_meanRank_44 hl36 (by decide) (lv' := [(4, .long y52), (0, .ref (am 0)), (1, .int p0), (2, .int p1), (3, .int p2), (6, .int x28)]) rfl (fun ls55 hl56 => ?_)
      obtain ⟨x57, e58, hf59⟩ := bnd_ex hf54
      refine lv_iinc hx hb d_M_meanRank_46 hl56 (k := 5) rfl (v := x57) (by rw [e58]; rfl) (by decide) (lv' := [(6, .int x57), (4, .long y52), (0, .ref (am 0)), (1, .int p0), (2, .int p1), (3, .int p2)]) rfl (fun ls60 hl61 => ?_)
      refine lv_goto (tgt := 22) hx hb d_M_meanRank_49 rfl ?_
      cases hf59
      exact hc23 rfl H48 L49 ls60 hP50 hS51 (lv_sub hl61 [2, 3, 4, 5, 1, 0] rfl)
  · have hf18 := ifp hf11 h16
    refine lv_lconst (v := 0) hx hb d_M_meanRank_14 (by decide) ?_
    cases hf18
    exact hend H12 L13 15 ls hP14 hS15 d_M_meanRank_15
theorem d_M_chance_0 : decode b_M_chance 0 = .ok (.aload_n 0, 1) := by decide +kernel
theorem d_M_chance_1 : decode b_M_chance 1 = .ok (.lload_n 1, 1) := by decide +kernel
theorem d_M_chance_2 : decode b_M_chance 2 = .ok (.lconst 0, 1) := by decide +kernel
theorem d_M_chance_3 : decode b_M_chance 3 = .ok (.lcmp, 1) := by decide +kernel
theorem d_M_chance_4 : decode b_M_chance 4 = .ok (.ifCond .lt 9, 3) := by decide +kernel
theorem d_M_chance_7 : decode b_M_chance 7 = .ok (.lload_n 3, 1) := by decide +kernel
theorem d_M_chance_8 : decode b_M_chance 8 = .ok (.lconst 1, 1) := by decide +kernel
theorem d_M_chance_9 : decode b_M_chance 9 = .ok (.lcmp, 1) := by decide +kernel
theorem d_M_chance_10 : decode b_M_chance 10 = .ok (.ifCond .ge 7, 3) := by decide +kernel
theorem d_M_chance_13 : decode b_M_chance 13 = .ok (.iconst 1, 1) := by decide +kernel
theorem d_M_chance_14 : decode b_M_chance 14 = .ok (.goto 4, 3) := by decide +kernel
theorem d_M_chance_17 : decode b_M_chance 17 = .ok (.iconst 0, 1) := by decide +kernel
theorem d_M_chance_18 : decode b_M_chance 18 = .ok (.putfield 7, 3) := by decide +kernel
theorem d_M_chance_21 : decode b_M_chance 21 = .ok (.aload_n 0, 1) := by decide +kernel
theorem d_M_chance_22 : decode b_M_chance 22 = .ok (.getfield 7, 3) := by decide +kernel
theorem d_M_chance_25 : decode b_M_chance 25 = .ok (.ifCond .eq 5, 3) := by decide +kernel
theorem d_M_chance_28 : decode b_M_chance 28 = .ok (.lconst 0, 1) := by decide +kernel
theorem d_M_chance_29 : decode b_M_chance 29 = .ok (.lreturn, 1) := by decide +kernel
theorem d_M_chance_30 : decode b_M_chance 30 = .ok (.lload_n 1, 1) := by decide +kernel
theorem d_M_chance_31 : decode b_M_chance 31 = .ok (.lload_n 3, 1) := by decide +kernel
theorem d_M_chance_32 : decode b_M_chance 32 = .ok (.invokestatic 142, 3) := by decide +kernel
theorem d_M_chance_35 : decode b_M_chance 35 = .ok (.lstore 6, 2) := by decide +kernel
theorem d_M_chance_37 : decode b_M_chance 37 = .ok (.iload 5, 2) := by decide +kernel
theorem d_M_chance_39 : decode b_M_chance 39 = .ok (.ifCond .eq 10, 3) := by decide +kernel
theorem d_M_chance_42 : decode b_M_chance 42 = .ok (.lload_n 1, 1) := by decide +kernel
theorem d_M_chance_43 : decode b_M_chance 43 = .ok (.lload 6, 2) := by decide +kernel
theorem d_M_chance_45 : decode b_M_chance 45 = .ok (.ldiv, 1) := by decide +kernel
theorem d_M_chance_46 : decode b_M_chance 46 = .ok (.goto 7, 3) := by decide +kernel
theorem d_M_chance_49 : decode b_M_chance 49 = .ok (.lload_n 3, 1) := by decide +kernel
theorem d_M_chance_50 : decode b_M_chance 50 = .ok (.lload 6, 2) := by decide +kernel
theorem d_M_chance_52 : decode b_M_chance 52 = .ok (.ldiv, 1) := by decide +kernel
theorem d_M_chance_53 : decode b_M_chance 53 = .ok (.lreturn, 1) := by decide +kernel
def fm_M_chance_j18 (p0 : Int64) (p1 : Int64) (p2 : Int32) (x1 : Int32) (I2 : IS) : Option (Int64 × IS) :=
  bnd (sV I2 0 x1) (fun I10 => if (I10 0 0) = 0 then ob1 (fm_M_common p0 p1) (fun y21 => if p2 = 0 then grd (decide (¬ y21 = 0)) (some (p1 / y21, I10)) else grd (decide (¬ y21 = 0)) (some (p0 / y21, I10))) else some ((0 : Int64), I10))
def fm_M_chance_j13 (p0 : Int64) (p1 : Int64) (p2 : Int32) (I37 : IS) : Option (Int64 × IS) :=
  fm_M_chance_j18 p0 p1 p2 (1 : Int32) I37
def fm_M_chance (p0 : Int64) (p1 : Int64) (p2 : Int32) (I0 : IS) : Option (Int64 × IS) :=
  if (lg_cmp p0 (0 : Int64)) < 0 then fm_M_chance_j13 p0 p1 p2 I0 else if 0 ≤ (lg_cmp p1 (1 : Int64)) then fm_M_chance_j18 p0 p1 p2 (0 : Int32) I0 else fm_M_chance_j13 p0 p1 p2 I0
set_option maxHeartbeats 4000000 in
set_option maxRecDepth 100000 in
theorem cm_M_chance (l : Launch) (D : va_G) (ca : Nat → ClassId) (am : Nat → Nat) {p0 : Int64} {p1 : Int64} {p2 : Int32} {I0 : IS} {J0 : JS} {r : Int64 × IS} (hf : fm_M_chance p0 p1 p2 I0 = some r) : CtL l y_M_chance (Cond.code y_M_chance b_M_chance 8 (some .long) :: TB) { frames := 1, cells := 0, slots := 0, locals := 29 } [.ref (am 0), .long p0, .long p1, .int p2] D cls_all (tysC ca) NN (wM ca am I0 J0) (wM ca am r.2 J0) r.1 := by
  refine jd_metL (cc := b_M_chance) (by decide) rfl (Nat.le_of_ble_eq_true rfl) (lv := [(0, .ref (am 0)), (1, .long p0), (3, .long p1), (5, .int p2)]) rfl ?_
  intro p e R s m args below meth c A Q ls cx hR hK hN hD0 hA hP hS hl hend
  have hx := cx.1
  have hb := cx.2.1
  have hml := cx.2.2.1
  have hown := cx.2.2.2.1
  have hts := cx.2.2.2.2
  have hD : ∀ I J, va_D A (wM ca am I J) := fun I J => jd_Dc hD0 rfl
  unfold fm_M_chance at hf
  have kj18 : ∀ (x1 : Int32) (I2 : IS), fm_M_chance_j18 p0 p1 p2 x1 I2 = some r → ∀ (H3 : Heap) (L4 : List Loc) (ls5 : Array Slot), va_P D cls_all (wM ca am I2 J0) H3 → va_S A s.heap H3 L4 → lv_has ls5 8 [(0, .ref (am 0)), (1, .long p0), (3, .long p1), (5, .int p2)] → W p l e R s m args below meth c H3 L4 0 0 Q (F0 m 18 ls5 [.int x1, .ref (am 0)]) := by
    intro x1 I2 hf9 H3 L4 ls5 hP6 hS7 hl8
    unfold fm_M_chance_j18 at hf9
    obtain ⟨I10, e11, hf12⟩ := bnd_ex hf9
    refine va_put (D := D) (ci := 6) (v := .int x1) (ty := .int) (C := R_M) (T := F_M) (N := 24) hx hb hts (fun w h => List.mem_cons_of_mem _ (uw_M w h)) ft_M tk_M n_M hown hK hP6 (hD I2 J0) hS7 0 rfl rfl 0 (by decide) (hts _ (List.mem_cons_of_mem _ tb_600)) (fun _ h => h) rfl (by decide +kernel) rfl rfl (Nat.le_of_ble_eq_true rfl) d_M_chance_18 (fun H13 L14 hp17 _ hS16 => ?_)
    have hP15 : va_P D cls_all (wM ca am I10 J0) H13 := by rw [e11]; exact hp17
    refine lv_aload_n hx hb d_M_chance_21 rfl (lv_at hl8 0 rfl) ?_
    refine va_get (D := D) (ci := 6) (v := .int (I10 0 0)) (C := R_M) (T := F_M) (N := 24) hx hb hts (fun w h => List.mem_cons_of_mem _ (uw_M w h)) hown hK hP15 0 rfl rfl 0 (by decide) (hts _ (List.mem_cons_of_mem _ tb_600)) (fun _ h => h) rfl d_M_chance_22 ?_
    refine lv_if_eq (tgt := 30) hx hb d_M_chance_25 rfl (fun h18 => ?_) (fun h18 => ?_)
    · have hf19 := ifp hf12 h18
      refine lv_lload_n hx hb d_M_chance_30 rfl (lv_at hl8 1 rfl) ?_
      refine lv_lload_n hx hb d_M_chance_31 rfl (lv_at hl8 2 rfl) ?_
      obtain ⟨y21, hc22, hf23⟩ := ob1_ex hf19
      refine jd_cl (va_runS (As := [.long p0, .long p1]) (rest := []) cx (cm_M_common l D ca (wM ca am I10 J0) (I0 := I10) (J0 := J0) hc22 H13.size) (va_cwS 2 hts (jd_gS2 tb_752 tb_753 tb_47 tb_754) rfl rfl rfl ⟨by decide, by decide, rfl⟩ (by rw [hR]; decide)) ⟨jd_blind nWc, (jd_pre (av := [.long p0, .long p1]) hP15 hK (hD I10 J0) (fun U h => nWm h hN))⟩ rfl rfl hl8.1 rfl (lv_room (Nat.le_of_ble_eq_true rfl)) d_M_chance_32 ⟨Nat.zero_le _, Nat.zero_le _⟩) hS16 (hD I10 J0) hA (fun H24 L25 hP26 hS27 => ?_)
      refine lv_lstore hx hb d_M_chance_35 hl8 (by decide) (lv' := [(6, .long y21), (0, .ref (am 0)), (1, .long p0), (3, .long p1), (5, .int p2)]) rfl (fun ls28 hl29 => ?_)
      refine lv_iload hx hb d_M_chance_37 (lv_at hl29 4 rfl) ?_
      refine lv_if_eq (tgt := 49) hx hb d_M_chance_39 rfl (fun h30 => ?_) (fun h30 => ?_)
      · have hf31 := ifp hf23 h30
        refine lv_lload_n hx hb d_M_chance_49 rfl (lv_at hl29 3 rfl) ?_
        refine lv_lload hx hb d_M_chance_50 (lv_at hl29 0 rfl) ?_
        obtain ⟨hg33, hf34⟩ := grd_ex hf31
        refine lv_ldiv hx hb d_M_chance_52 (of_decide_eq_true hg33) ?_
        cases hf34
        exact hend H24 L25 53 ls28 hP26 hS27 d_M_chance_53
      · have hf32 := ifn hf23 h30
        refine lv_lload_n hx hb d_M_chance_42 rfl (lv_at hl29 2 rfl) ?_
        refine lv_lload hx hb d_M_chance_43 (lv_at hl29 0 rfl) ?_
        obtain ⟨hg35, hf36⟩ := grd_ex hf32
        refine lv_ldiv hx hb d_M_chance_45 (of_decide_eq_true hg35) ?_
        refine lv_goto (tgt := 53) hx hb d_M_chance_46 rfl ?_
        cases hf36
        exact hend H24 L25 53 ls28 hP26 hS27 d_M_chance_53
    · have hf20 := ifn hf12 h18
      refine lv_lconst (v := 0) hx hb d_M_chance_28 (by decide) ?_
      cases hf20
      exact hend H13 L14 29 ls5 hP15 hS16 d_M_chance_29
  have kj13 : ∀ (I37 : IS), fm_M_chance_j13 p0 p1 p2 I37 = some r → ∀ (H38 : Heap) (L39 : List Loc) (ls40 : Array Slot), va_P D cls_all (wM ca am I37 J0) H38 → va_S A s.heap H38 L39 → lv_has ls40 8 [(0, .ref (am 0)), (1, .long p0), (3, .long p1), (5, .int p2)] → W p l e R s m args below meth c H38 L39 0 0 Q (F0 m 13 ls40 [.ref (am 0)]) := by
    intro I37 hf44 H38 L39 ls40 hP41 hS42 hl43
    unfold fm_M_chance_j13 at hf44
    refine lv_iconst (v := 1) hx hb d_M_chance_13 (by decide) ?_
    refine lv_goto (tgt := 18) hx hb d_M_chance_14 rfl ?_
    exact kj18 (1 : Int32) I37 hf44 H38 L39 ls40 hP41 hS42 (lv_sub hl43 [0, 1, 2, 3] rfl)
  refine lv_aload_n hx hb d_M_chance_0 rfl (lv_at hl 0 rfl) ?_
  refine lv_lload_n hx hb d_M_chance_1 rfl (lv_at hl 1 rfl) ?_
  refine lv_lconst (v := 0) hx hb d_M_chance_2 (by decide) ?_
  refine W.lcmp hx hb d_M_chance_3 ?_
  refine lv_if_lt (tgt := 13) hx hb d_M_chance_4 rfl (fun h45 => ?_) (fun h45 => ?_)
  · have hf46 := ifp hf h45
    exact kj13 I0 hf46 s.heap [] ls hP hS (lv_sub hl [0, 1, 2, 3] rfl)
  · have hf47 := ifn hf h45
    refine lv_lload_n hx hb d_M_chance_7 rfl (lv_at hl 2 rfl) ?_
    refine lv_lconst (v := 1) hx hb d_M_chance_8 (by decide) ?_
    refine W.lcmp hx hb d_M_chance_9 ?_
    refine lv_if_ge (tgt := 17) hx hb d_M_chance_10 rfl (fun h48 => ?_) (fun h48 => ?_)
    · have hf49 := ifp hf47 h48
      refine lv_iconst (v := 0) hx hb d_M_chance_17 (by decide) ?_
      exact kj18 (0 : Int32) I0 hf49 s.heap [] ls hP hS (lv_sub hl [0, 1, 2, 3] rfl)
    · have hf50 := ifn hf47 h48
      exact kj13 I0 hf50 s.heap [] ls hP hS (lv_sub hl [0, 1, 2, 3] rfl)
theorem d_M_order_0 : decode b_M_order 0 = .ok (.aload_n 0, 1) := by decide +kernel
theorem d_M_order_1 : decode b_M_order 1 = .ok (.iconst 0, 1) := by decide +kernel
theorem d_M_order_2 : decode b_M_order 2 = .ok (.putfield 7, 3) := by decide +kernel
theorem d_M_order_5 : decode b_M_order 5 = .ok (.aload_n 0, 1) := by decide +kernel
theorem d_M_order_6 : decode b_M_order 6 = .ok (.iload_n 1, 1) := by decide +kernel
theorem d_M_order_7 : decode b_M_order 7 = .ok (.invokevirtual 131, 3) := by decide +kernel
theorem d_M_order_10 : decode b_M_order 10 = .ok (.ifCond .ne 5, 3) := by decide +kernel
theorem d_M_order_13 : decode b_M_order 13 = .ok (.iconst (-1), 1) := by decide +kernel
theorem d_M_order_14 : decode b_M_order 14 = .ok (.ireturn, 1) := by decide +kernel
theorem d_M_order_15 : decode b_M_order 15 = .ok (.aload_n 0, 1) := by decide +kernel
theorem d_M_order_16 : decode b_M_order 16 = .ok (.iload_n 1, 1) := by decide +kernel
theorem d_M_order_17 : decode b_M_order 17 = .ok (.invokevirtual 124, 3) := by decide +kernel
theorem d_M_order_20 : decode b_M_order 20 = .ok (.lload_n 2, 1) := by decide +kernel
theorem d_M_order_21 : decode b_M_order 21 = .ok (.lconst 0, 1) := by decide +kernel
theorem d_M_order_22 : decode b_M_order 22 = .ok (.lcmp, 1) := by decide +kernel
theorem d_M_order_23 : decode b_M_order 23 = .ok (.ifCond .lt 32, 3) := by decide +kernel
theorem d_M_order_26 : decode b_M_order 26 = .ok (.lload_n 2, 1) := by decide +kernel
theorem d_M_order_27 : decode b_M_order 27 = .ok (.aload_n 0, 1) := by decide +kernel
theorem d_M_order_28 : decode b_M_order 28 = .ok (.getfield 54, 3) := by decide +kernel
theorem d_M_order_31 : decode b_M_order 31 = .ok (.iconst 0, 1) := by decide +kernel
theorem d_M_order_32 : decode b_M_order 32 = .ok (.laload, 1) := by decide +kernel
theorem d_M_order_33 : decode b_M_order 33 = .ok (.lcmp, 1) := by decide +kernel
theorem d_M_order_34 : decode b_M_order 34 = .ok (.ifCond .ge 21, 3) := by decide +kernel
theorem d_M_order_37 : decode b_M_order 37 = .ok (.iload 4, 2) := by decide +kernel
theorem d_M_order_39 : decode b_M_order 39 = .ok (.iconst 1, 1) := by decide +kernel
theorem d_M_order_40 : decode b_M_order 40 = .ok (.if_icmp .lt 15, 3) := by decide +kernel
theorem d_M_order_43 : decode b_M_order 43 = .ok (.iload 4, 2) := by decide +kernel
theorem d_M_order_45 : decode b_M_order 45 = .ok (.aload_n 0, 1) := by decide +kernel
theorem d_M_order_46 : decode b_M_order 46 = .ok (.getfield 36, 3) := by decide +kernel
theorem d_M_order_49 : decode b_M_order 49 = .ok (.invokestatic 112, 3) := by decide +kernel
theorem d_M_order_52 : decode b_M_order 52 = .ok (.if_icmp .le 5, 3) := by decide +kernel
theorem d_M_order_55 : decode b_M_order 55 = .ok (.iconst (-1), 1) := by decide +kernel
theorem d_M_order_56 : decode b_M_order 56 = .ok (.ireturn, 1) := by decide +kernel
theorem d_M_order_57 : decode b_M_order 57 = .ok (.lload_n 2, 1) := by decide +kernel
theorem d_M_order_58 : decode b_M_order 58 = .ok (.lstore 5, 2) := by decide +kernel
theorem d_M_order_60 : decode b_M_order 60 = .ok (.iconst 0, 1) := by decide +kernel
theorem d_M_order_61 : decode b_M_order 61 = .ok (.istore 7, 2) := by decide +kernel
theorem d_M_order_63 : decode b_M_order 63 = .ok (.iconst (-1), 1) := by decide +kernel
theorem d_M_order_64 : decode b_M_order 64 = .ok (.istore 8, 2) := by decide +kernel
theorem d_M_order_66 : decode b_M_order 66 = .ok (.iconst 0, 1) := by decide +kernel
theorem d_M_order_67 : decode b_M_order 67 = .ok (.istore 9, 2) := by decide +kernel
theorem d_M_order_69 : decode b_M_order 69 = .ok (.iload 9, 2) := by decide +kernel
theorem d_M_order_71 : decode b_M_order 71 = .ok (.iload 4, 2) := by decide +kernel
theorem d_M_order_73 : decode b_M_order 73 = .ok (.if_icmp .ge 96, 3) := by decide +kernel
theorem d_M_order_76 : decode b_M_order 76 = .ok (.iconst 0, 1) := by decide +kernel
theorem d_M_order_77 : decode b_M_order 77 = .ok (.istore 10, 2) := by decide +kernel
theorem d_M_order_79 : decode b_M_order 79 = .ok (.iconst 0, 1) := by decide +kernel
theorem d_M_order_80 : decode b_M_order 80 = .ok (.istore 11, 2) := by decide +kernel
theorem d_M_order_82 : decode b_M_order 82 = .ok (.iload 11, 2) := by decide +kernel
theorem d_M_order_84 : decode b_M_order 84 = .ok (.ifCond .ne 66, 3) := by decide +kernel
theorem d_M_order_87 : decode b_M_order 87 = .ok (.aload_n 0, 1) := by decide +kernel
theorem d_M_order_88 : decode b_M_order 88 = .ok (.iload 7, 2) := by decide +kernel
theorem d_M_order_90 : decode b_M_order 90 = .ok (.iload 10, 2) := by decide +kernel
theorem d_M_order_92 : decode b_M_order 92 = .ok (.invokevirtual 98, 3) := by decide +kernel
theorem d_M_order_95 : decode b_M_order 95 = .ok (.ifCond .eq 44, 3) := by decide +kernel
theorem d_M_order_98 : decode b_M_order 98 = .ok (.lload 5, 2) := by decide +kernel
theorem d_M_order_100 : decode b_M_order 100 = .ok (.aload_n 0, 1) := by decide +kernel
theorem d_M_order_101 : decode b_M_order 101 = .ok (.getfield 54, 3) := by decide +kernel
theorem d_M_order_104 : decode b_M_order 104 = .ok (.iload 7, 2) := by decide +kernel
theorem d_M_order_106 : decode b_M_order 106 = .ok (.iconst 1, 1) := by decide +kernel
theorem d_M_order_107 : decode b_M_order 107 = .ok (.iload 10, 2) := by decide +kernel
theorem d_M_order_109 : decode b_M_order 109 = .ok (.ishl, 1) := by decide +kernel
theorem d_M_order_110 : decode b_M_order 110 = .ok (.ior, 1) := by decide +kernel
theorem d_M_order_111 : decode b_M_order 111 = .ok (.laload, 1) := by decide +kernel
theorem d_M_order_112 : decode b_M_order 112 = .ok (.lcmp, 1) := by decide +kernel
theorem d_M_order_113 : decode b_M_order 113 = .ok (.ifCond .ge 9, 3) := by decide +kernel
theorem d_M_order_116 : decode b_M_order 116 = .ok (.iconst 1, 1) := by decide +kernel
theorem d_M_order_117 : decode b_M_order 117 = .ok (.istore 11, 2) := by decide +kernel
theorem d_M_order_119 : decode b_M_order 119 = .ok (.goto 20, 3) := by decide +kernel
theorem d_M_order_122 : decode b_M_order 122 = .ok (.lload 5, 2) := by decide +kernel
theorem d_M_order_124 : decode b_M_order 124 = .ok (.aload_n 0, 1) := by decide +kernel
theorem d_M_order_125 : decode b_M_order 125 = .ok (.getfield 54, 3) := by decide +kernel
theorem d_M_order_128 : decode b_M_order 128 = .ok (.iload 7, 2) := by decide +kernel
theorem d_M_order_130 : decode b_M_order 130 = .ok (.iconst 1, 1) := by decide +kernel
theorem d_M_order_131 : decode b_M_order 131 = .ok (.iload 10, 2) := by decide +kernel
theorem d_M_order_133 : decode b_M_order 133 = .ok (.ishl, 1) := by decide +kernel
theorem d_M_order_134 : decode b_M_order 134 = .ok (.ior, 1) := by decide +kernel
theorem d_M_order_135 : decode b_M_order 135 = .ok (.laload, 1) := by decide +kernel
theorem d_M_order_136 : decode b_M_order 136 = .ok (.lsub, 1) := by decide +kernel
theorem d_M_order_137 : decode b_M_order 137 = .ok (.lstore 5, 2) := by decide +kernel
theorem d_M_order_139 : decode b_M_order 139 = .ok (.iload 11, 2) := by decide +kernel
theorem d_M_order_141 : decode b_M_order 141 = .ok (.ifCond .ne (-59), 3) := by decide +kernel
theorem d_M_order_144 : decode b_M_order 144 = .ok (.iinc 10 1, 3) := by decide +kernel
theorem d_M_order_147 : decode b_M_order 147 = .ok (.goto (-65), 3) := by decide +kernel
theorem d_M_order_150 : decode b_M_order 150 = .ok (.iload 7, 2) := by decide +kernel
theorem d_M_order_152 : decode b_M_order 152 = .ok (.iconst 1, 1) := by decide +kernel
theorem d_M_order_153 : decode b_M_order 153 = .ok (.iload 10, 2) := by decide +kernel
theorem d_M_order_155 : decode b_M_order 155 = .ok (.ishl, 1) := by decide +kernel
theorem d_M_order_156 : decode b_M_order 156 = .ok (.ior, 1) := by decide +kernel
theorem d_M_order_157 : decode b_M_order 157 = .ok (.istore 7, 2) := by decide +kernel
theorem d_M_order_159 : decode b_M_order 159 = .ok (.iload 10, 2) := by decide +kernel
theorem d_M_order_161 : decode b_M_order 161 = .ok (.istore 8, 2) := by decide +kernel
theorem d_M_order_163 : decode b_M_order 163 = .ok (.iinc 9 1, 3) := by decide +kernel
theorem d_M_order_166 : decode b_M_order 166 = .ok (.goto (-97), 3) := by decide +kernel
theorem d_M_order_169 : decode b_M_order 169 = .ok (.iload 8, 2) := by decide +kernel
theorem d_M_order_171 : decode b_M_order 171 = .ok (.ireturn, 1) := by decide +kernel
def fm_M_order_B82 (I19 : IS) (J20 : JS) (x61 : Int32) (y84 : Int64) (x85 : Int32) (x86 : Int32) : Option (Nat × Int64 × Int32 × Int32) :=
  if x86 = 0 then ob1 (fm_M_mayCome x61 x85 I19) (fun x99 => if x99 = 0 then if x86 = 0 then bnd (x85 + (1 : Int32)) (fun x112 => some (0, y84, x112, x86)) else some (0, y84, x85, x86) else grd (inB (x61 ||| ((1 : Int32) <<< (x85 &&& 31))) 65536) (if 0 ≤ (lg_cmp y84 (J20 1 (x61 ||| ((1 : Int32) <<< (x85 &&& 31))).toNatClampNeg)) then grd (inB (x61 ||| ((1 : Int32) <<< (x85 &&& 31))) 65536) (bnd (y84 - (J20 1 (x61 ||| ((1 : Int32) <<< (x85 &&& 31))).toNatClampNeg)) (fun y124 => if x86 = 0 then bnd (x85 + (1 : Int32)) (fun x132 => some (0, y124, x132, x86)) else some (0, y124, x85, x86))) else some (0, y84, x85, (1 : Int32)))) else some (1, y84, x85, x86)
def fm_M_order_B69 (p2 : Int32) (I19 : IS) (J20 : JS) (y60 : Int64) (x61 : Int32) (x62 : Int32) (x63 : Int32) : Option (Nat × Int64 × Int32 × Int32 × Int32) :=
  if p2 ≤ x63 then some (1, y60, x61, x62, x63) else ob4 (iter (fun z : Int64 × Int32 × Int32 => fm_M_order_B82 I19 J20 x61 z.1 z.2.1 z.2.2) FU (y60, (0 : Int32), (0 : Int32))) (fun _ y141 x142 x143 => bnd (x61 ||| ((1 : Int32) <<< (x142 &&& 31))) (fun x152 => bnd (x63 + (1 : Int32)) (fun x159 => some (0, y141, x152, x142, x159))))
def fm_M_order (p0 : Int32) (p1 : Int64) (p2 : Int32) (I0 : IS) (J0 : JS) : Option (Int32 × IS × JS) :=
  bnd (sV I0 0 (0 : Int32)) (fun I1 => ob1 (fm_M_isHeat p0 I1) (fun x9 => if x9 = 0 then some ((-1 : Int32), I1, J0) else ob2 (fm_M_countAll p0 I1 J0) (fun I19 J20 => if (lg_cmp p1 (0 : Int64)) < 0 then some ((-1 : Int32), I19, J20) else grd (inB (0 : Int32) 65536) (if 0 ≤ (lg_cmp p1 (J20 1 (0 : Int32).toNatClampNeg)) then some ((-1 : Int32), I19, J20) else if p2 < (1 : Int32) then some ((-1 : Int32), I19, J20) else ob1 (fm_M_bits (I19 8 0)) (fun x38 => if p2 ≤ x38 then ob5 (iter (fun z : Int64 × Int32 × Int32 × Int32 => fm_M_order_B69 p2 I19 J20 z.1 z.2.1 z.2.2.1 z.2.2.2) FU (p1, (0 : Int32), (-1 : Int32), (0 : Int32))) (fun _ y165 x166 x167 x168 => some (x167, I19, J20)) else some ((-1 : Int32), I19, J20))))))
set_option maxHeartbeats 4000000 in
set_option maxRecDepth 100000 in
theorem cm_M_order (l : Launch) (D : va_G) (ca : Nat → ClassId) (am : Nat → Nat) {p0 : Int32} {p1 : Int64} {p2 : Int32} {I0 : IS} {J0 : JS} {r : Int32 × IS × JS} (hf : fm_M_order p0 p1 p2 I0 J0 = some r) : CtI l y_M_order (Cond.code y_M_order b_M_order 12 (some .int) :: TB) { frames := 4, cells := 0, slots := 0, locals := 91 } [.ref (am 0), .int p0, .long p1, .int p2] D cls_all (tysC ca) NN (wM ca am I0 J0) (wM ca am r.2.1 r.2.2) r.1 := by
  refine jd_metI (cc := b_M_order) (by decide) rfl (Nat.le_of_ble_eq_true rfl) (lv := [(0, .ref (am 0)), (1, .int p0), (2, .long p1), (4, .int p2)]) rfl ?_
  intro p e R s m args below meth c A Q ls cx hR hK hN hD0 hA hP hS hl hend
  have hx := cx.1
  have hb := cx.2.1
  have hml := cx.2.2.1
  have hown := cx.2.2.2.1
  have hts := cx.2.2.2.2
  have hD : ∀ I J, va_D A (wM ca am I J) := fun I J => jd_Dc hD0 rfl
  unfold fm_M_order at hf
  refine lv_aload_n hx hb d_M_order_0 rfl (lv_at hl 0 rfl) ?_
  refine lv_iconst (v := 0) hx hb d_M_order_1 (by decide) ?_
  obtain ⟨I1, e2, hf3⟩ := bnd_ex hf
  refine va_put (D := D) (ci := 6) (v := .int (0 : Int32)) (ty := .int) (C := R_M) (T := F_M) (N := 24) hx hb hts (fun w h => List.mem_cons_of_mem _ (uw_M w h)) ft_M tk_M n_M hown hK hP (hD I0 J0) hS 0 rfl rfl 0 (by decide) (hts _ (List.mem_cons_of_mem _ tb_600)) (fun _ h => h) rfl (by decide +kernel) rfl rfl (Nat.le_of_ble_eq_true rfl) d_M_order_2 (fun H4 L5 hp8 _ hS7 => ?_)
  have hP6 : va_P D cls_all (wM ca am I1 J0) H4 := by rw [e2]; exact hp8
  refine lv_aload_n hx hb d_M_order_5 rfl (lv_at hl 0 rfl) ?_
  refine lv_iload_n hx hb d_M_order_6 rfl (lv_at hl 1 rfl) ?_
  obtain ⟨x9, hc10, hf11⟩ := ob1_ex hf3
  refine jd_ci (va_runV (As := [.int p0]) (rest := []) cx (cm_M_isHeat l D ca am hc10 H4.size) (cwV 1 hts (jd_gV tb_708 tb_709 tb_30 tb_47 tb_710) rfl rfl rfl ⟨rfl, by decide, by decide, rfl⟩ (by rw [hR]; decide)) ⟨jd_blind nWc, (va_recv hK hP6 (ci := 6) (q0 := 0) rfl rfl), (jd_pre (av := [.ref (am 0), .int p0]) hP6 hK (hD I1 J0) (fun U h => nWm h hN))⟩ rfl rfl hl.1 rfl (lv_room (Nat.le_of_ble_eq_true rfl)) d_M_order_7 ⟨Nat.zero_le _, Nat.zero_le _⟩) hS7 (hD I1 J0) hA (fun H12 L13 hP14 hS15 => ?_)
  refine lv_if_ne (tgt := 15) hx hb d_M_order_10 rfl (fun h16 => ?_) (fun h16 => ?_)
  · have hf17 := ifn hf11 h16
    refine lv_aload_n hx hb d_M_order_15 rfl (lv_at hl 0 rfl) ?_
    refine lv_iload_n hx hb d_M_order_16 rfl (lv_at hl 1 rfl) ?_
    obtain ⟨I19, J20, hc21, hf22⟩ := ob2_ex hf17
    refine jd_cv (va_runV (As := [.int p0]) (rest := []) cx (cm_M_countAll l D ca am hc21 H12.size) (cwV 1 hts (jd_gV tb_731 tb_732 tb_31 tb_47 tb_733) rfl rfl rfl ⟨rfl, by decide, by decide, rfl⟩ (by rw [hR]; decide)) ⟨jd_blind nWc, (va_recv hK hP14 (ci := 6) (q0 := 0) rfl rfl), (jd_pre (av := [.ref (am 0), .int p0]) hP14 hK (hD I1 J0) (fun U h => nWm h hN))⟩ rfl rfl hl.1 rfl (lv_room (Nat.le_of_ble_eq_true rfl)) d_M_order_17 ⟨Nat.zero_le _, Nat.zero_le _⟩) hS15 (hD I1 J0) hA (fun H23 L24 hP25 hS26 => ?_)
    refine lv_lload_n hx hb d_M_order_20 rfl (lv_at hl 2 rfl) ?_
    refine lv_lconst (v := 0) hx hb d_M_order_21 (by decide) ?_
    refine W.lcmp hx hb d_M_order_22 ?_
    refine lv_if_lt (tgt := 55) hx hb d_M_order_23 rfl (fun h27 => ?_) (fun h27 => ?_)
    · have hf28 := ifp hf22 h27
      refine lv_iconst (v := -1) hx hb d_M_order_55 (by decide) ?_
      cases hf28
      exact hend H23 L24 56 ls hP25 hS26 d_M_order_56
    · have hf29 := ifn hf22 h27
      refine lv_lload_n hx hb d_M_order_26 rfl (lv_at hl 2 rfl) ?_
      refine lv_aload_n hx hb d_M_order_27 rfl (lv_at hl 0 rfl) ?_
      refine va_get (D := D) (ci := 6) (v := .ref (am 10)) (C := R_M) (T := F_M) (N := 24) hx hb hts (fun w h => List.mem_cons_of_mem _ (uw_M w h)) hown hK hP25 0 rfl rfl 13 (by decide) (hts _ (List.mem_cons_of_mem _ tb_613)) (fun _ h => h) rfl d_M_order_28 ?_
      refine lv_iconst (v := 0) hx hb d_M_order_31 (by decide) ?_
      obtain ⟨hg30, hf31⟩ := grd_ex hf29
      refine va_lald hx hb hK hP25 10 3 rfl rfl (inB_in hg30) d_M_order_32 ?_
      refine W.lcmp hx hb d_M_order_33 ?_
      refine lv_if_ge (tgt := 55) hx hb d_M_order_34 rfl (fun h32 => ?_) (fun h32 => ?_)
      · have hf33 := ifp hf31 h32
        refine lv_iconst (v := -1) hx hb d_M_order_55 (by decide) ?_
        cases hf33
        exact hend H23 L24 56 ls hP25 hS26 d_M_order_56
      · have hf34 := ifn hf31 h32
        refine lv_iload hx hb d_M_order_37 (lv_at hl 3 rfl) ?_
        refine lv_iconst (v := 1) hx hb d_M_order_39 (by decide) ?_
        refine lv_icmp_lt (tgt := 55) hx hb d_M_order_40 rfl (fun h35 => ?_) (fun h35 => ?_)
        · have hf36 := ifp hf34 h35
          refine lv_iconst (v := -1) hx hb d_M_order_55 (by decide) ?_
          cases hf36
          exact hend H23 L24 56 ls hP25 hS26 d_M_order_56
        · have hf37 := ifn hf34 h35
          refine lv_iload hx hb d_M_order_43 (lv_at hl 3 rfl) ?_
          refine lv_aload_n hx hb d_M_order_45 rfl (lv_at hl 0 rfl) ?_
          refine va_get (D := D) (ci := 6) (v := .int (I19 8 0)) (C := R_M) (T := F_M) (N := 24) hx hb hts (fun w h => List.mem_cons_of_mem _ (uw_M w h)) hown hK hP25 0 rfl rfl 8 (by decide) (hts _ (List.mem_cons_of_mem _ tb_608)) (fun _ h => h) rfl d_M_order_46 ?_
          obtain ⟨x38, hc39, hf40⟩ := ob1_ex hf37
          refine jd_ci (va_runS (As := [.int (I19 8 0)]) (rest := [.int p2]) cx (cm_M_bits l D ca (wM ca am I19 J20) (I0 := I19) (J0 := J20) hc39 H23.size) (va_cwS 1 hts (jd_gS2 tb_715 tb_716 tb_47 tb_717) rfl rfl rfl ⟨by decide, by decide, rfl⟩ (by rw [hR]; decide)) ⟨jd_blind nWc, (jd_pre (av := [.int (I19 8 0)]) hP25 hK (hD I19 J20) (fun U h => nWm h hN))⟩ rfl rfl hl.1 rfl (lv_room (Nat.le_of_ble_eq_true rfl)) d_M_order_49 ⟨Nat.zero_le _, Nat.zero_le _⟩) hS26 (hD I19 J20) hA (fun H41 L42 hP43 hS44 => ?_)
          refine lv_icmp_le (tgt := 57) hx hb d_M_order_52 rfl (fun h45 => ?_) (fun h45 => ?_)
          · have hf46 := ifp hf40 h45
            refine lv_lload_n hx hb d_M_order_57 rfl (lv_at hl 2 rfl) ?_
            refine lv_lstore hx hb d_M_order_58 hl (by decide) (lv' := [(5, .long p1), (0, .ref (am 0)), (1, .int p0), (2, .long p1), (4, .int p2)]) rfl (fun ls48 hl49 => ?_)
            refine lv_iconst (v := 0) hx hb d_M_order_60 (by decide) ?_
            refine lv_istore hx hb d_M_order_61 hl49 (by decide) (lv' := [(7, .int (0 : Int32)), (5, .long p1), (0, .ref (am 0)), (1, .int p0), (2, .long p1), (4, .int p2)]) rfl (fun ls50 hl51 => ?_)
            refine lv_iconst (v := -1) hx hb d_M_order_63 (by decide) ?_
            refine lv_istore hx hb d_M_order_64 hl51 (by decide) (lv' := [(8, .int (-1 : Int32)), (7, .int (0 : Int32)), (5, .long p1), (0, .ref (am 0)), (1, .int p0), (2, .long p1), (4, .int p2)]) rfl (fun ls52 hl53 => ?_)
            refine lv_iconst (v := 0) hx hb d_M_order_66 (by decide) ?_
            refine lv_istore hx hb d_M_order_67 hl53 (by decide) (lv' := [(9, .int (0 : Int32)), (8, .int (-1 : Int32)), (7, .int (0 : Int32)), (5, .long p1), (0, .ref (am 0)), (1, .int p0), (2, .long p1), (4, .int p2)]) rfl (fun ls54 hl55 => ?_)
            obtain ⟨tg164, y165, x166, x167, x168, ho169, hf170⟩ := ob5_ex hf46
            have kx69_1 : ∀ (H171 : Heap) (L172 : List Loc) (ls173 : Array Slot), va_P D cls_all (wM ca am I19 J20) H171 → va_S A s.heap H171 L172 → lv_has ls173 12 [(8, .int x167)] → W p l e R s m args below meth c H171 L172 0 0 Q (F0 m 169 ls173 []) := by
              intro H171 L172 ls173 hP174 hS175 hl176
              refine lv_iload hx hb d_M_order_169 (lv_at hl176 0 rfl) ?_
              cases hf170
              exact hend H171 L172 171 ls173 hP174 hS175 d_M_order_171
            refine iter_ind (C := fun z : Int64 × Int32 × Int32 × Int32 => ∀ (H64 : Heap) (L65 : List Loc) (ls66 : Array Slot), va_P D cls_all (wM ca am I19 J20) H64 → va_S A s.heap H64 L65 → lv_has ls66 12 [(0, .ref (am 0)), (4, .int p2), (5, .long z.1), (7, .int z.2.1), (8, .int z.2.2.1), (9, .int z.2.2.2)] → W p l e R s m args below meth c H64 L65 0 0 Q (F0 m 69 ls66 [])) (fun z59 o58 hz71 hc56 he57 => ?_) _ _ ho169 H41 L42 ls54 hP43 hS44 (lv_sub hl55 [4, 7, 3, 2, 1, 0] rfl)
            obtain ⟨y60, x61, x62, x63⟩ := z59
            intro H64 L65 ls66 hP67 hS68 hl69
            have hf70 : fm_M_order_B69 p2 I19 J20 y60 x61 x62 x63 = some o58 := hz71
            unfold fm_M_order_B69 at hf70
            refine lv_iload hx hb d_M_order_69 (lv_at hl69 5 rfl) ?_
            refine lv_iload hx hb d_M_order_71 (lv_at hl69 1 rfl) ?_
            refine lv_icmp_ge (tgt := 169) hx hb d_M_order_73 rfl (fun h72 => ?_) (fun h72 => ?_)
            · have hf73 := ifp hf70 h72
              cases hf73
              have e75 := he57 (by show (1 : Nat) ≠ 0; decide)
              cases e75
              exact kx69_1 H64 L65 ls66 hP67 hS68 (lv_sub hl69 [4] rfl)
            · have hf74 := ifn hf70 h72
              refine lv_iconst (v := 0) hx hb d_M_order_76 (by decide) ?_
              refine lv_istore hx hb d_M_order_77 hl69 (by decide) (lv' := [(10, .int (0 : Int32)), (0, .ref (am 0)), (4, .int p2), (5, .long y60), (7, .int x61), (8, .int x62), (9, .int x63)]) rfl (fun ls76 hl77 => ?_)
              refine lv_iconst (v := 0) hx hb d_M_order_79 (by decide) ?_
              refine lv_istore hx hb d_M_order_80 hl77 (by decide) (lv' := [(11, .int (0 : Int32)), (10, .int (0 : Int32)), (0, .ref (am 0)), (4, .int p2), (5, .long y60), (7, .int x61), (8, .int x62), (9, .int x63)]) rfl (fun ls78 hl79 => ?_)
              obtain ⟨tg140, y141, x142, x143, ho144, hf145⟩ := ob4_ex hf74
              have kx82_1 : ∀ (H146 : Heap) (L147 : List Loc) (ls148 : Array Slot), va_P D cls_all (wM ca am I19 J20) H146 → va_S A s.heap H146 L147 → lv_has ls148 12 [(0, .ref (am 0)), (4, .int p2), (5, .long y141), (7, .int x61), (9, .int x63), (10, .int x142)] → W p l e R s m args below meth c H146 L147 0 0 Q (F0 m 150 ls148 []) := by
                intro H146 L147 ls148 hP149 hS150 hl151
                refine lv_iload hx hb d_M_order_150 (lv_at hl151 3 rfl) ?_
                refine lv_iconst (v := 1) hx hb d_M_order_152 (by decide) ?_
                refine lv_iload hx hb d_M_order_153 (lv_at hl151 5 rfl) ?_
                refine lv_ishl hx hb d_M_order_155 ?_
                refine lv_ior hx hb d_M_order_156 ?_
                obtain ⟨x152, e153, hf154⟩ := bnd_ex hf145
                refine jd_tni e153 ?_
                refine lv_istore hx hb d_M_order_157 hl151 (by decide) (lv' := [(7, .int x152), (0, .ref (am 0)), (4, .int p2), (5, .long y141), (9, .int x63), (10, .int x142)]) rfl (fun ls155 hl156 => ?_)
                refine lv_iload hx hb d_M_order_159 (lv_at hl156 5 rfl) ?_
                refine lv_istore hx hb d_M_order_161 hl156 (by decide) (lv' := [(8, .int x142), (7, .int x152), (0, .ref (am 0)), (4, .int p2), (5, .long y141), (9, .int x63), (10, .int x142)]) rfl (fun ls157 hl158 => ?_)
                obtain ⟨x159, e160, hf161⟩ := bnd_ex hf154
                refine lv_iinc hx hb d_M_order_163 hl158 (k := 5) rfl (v := x159) (by rw [e160]; rfl) (by decide) (lv' := [(9, .int x159), (8, .int x142), (7, .int x152), (0, .ref (am 0)), (4, .int p2), (5, .long y141), (10, .int x142)]) rfl (fun ls162 hl163 => ?_)
                refine lv_goto (tgt := 69) hx hb d_M_order_166 rfl ?_
                cases hf161
                exact hc56 rfl H146 L147 ls162 hP149 hS150 (lv_sub hl163 [3, 4, 5, 2, 1, 0] rfl)
              refine iter_ind (C := fun z : Int64 × Int32 × Int32 => ∀ (H87 : Heap) (L88 : List Loc) (ls89 : Array Slot), va_P D cls_all (wM ca am I19 J20) H87 → va_S A s.heap H87 L88 → lv_has ls89 12 [(0, .ref (am 0)), (4, .int p2), (5, .long z.1), (7, .int x61), (9, .int x63), (10, .int z.2.1), (11, .int z.2.2)] → W p l e R s m args below meth c H87 L88 0 0 Q (F0 m 82 ls89 [])) (fun z83 o82 hz94 hc80 he81 => ?_) _ _ ho144 H64 L65 ls78 hP67 hS68 (lv_sub hl79 [2, 3, 4, 5, 7, 1, 0] rfl)
              obtain ⟨y84, x85, x86⟩ := z83
              intro H87 L88 ls89 hP90 hS91 hl92
              have hf93 : fm_M_order_B82 I19 J20 x61 y84 x85 x86 = some o82 := hz94
              unfold fm_M_order_B82 at hf93
              refine lv_iload hx hb d_M_order_82 (lv_at hl92 6 rfl) ?_
              refine lv_if_ne (tgt := 150) hx hb d_M_order_84 rfl (fun h95 => ?_) (fun h95 => ?_)
              · have hf96 := ifn hf93 h95
                cases hf96
                have e98 := he81 (by show (1 : Nat) ≠ 0; decide)
                cases e98
                exact kx82_1 H87 L88 ls89 hP90 hS91 (lv_sub hl92 [0, 1, 2, 3, 4, 5] rfl)
              · have hf97 := ifp hf93 h95
                refine lv_aload_n hx hb d_M_order_87 rfl (lv_at hl92 0 rfl) ?_
                refine lv_iload hx hb d_M_order_88 (lv_at hl92 3 rfl) ?_
                refine lv_iload hx hb d_M_order_90 (lv_at hl92 5 rfl) ?_
                obtain ⟨x99, hc100, hf101⟩ := ob1_ex hf97
                refine jd_ci (va_runV (As := [.int x61, .int x85]) (rest := []) cx (cm_M_mayCome l D ca am hc100 H87.size) (cwV 2 hts (jd_gV tb_734 tb_735 tb_32 tb_47 tb_736) rfl rfl rfl ⟨rfl, by decide, by decide, rfl⟩ (by rw [hR]; decide)) ⟨jd_blind nWc, (va_recv hK hP90 (ci := 6) (q0 := 0) rfl rfl), (jd_pre (av := [.ref (am 0), .int x61, .int x85]) hP90 hK (hD I19 J20) (fun U h => nWm h hN))⟩ rfl rfl hl92.1 rfl (lv_room (Nat.le_of_ble_eq_true rfl)) d_M_order_92 ⟨Nat.zero_le _, Nat.zero_le _⟩) hS91 (hD I19 J20) hA (fun H102 L103 hP104 hS105 => ?_)
                refine lv_if_eq (tgt := 139) hx hb d_M_order_95 rfl (fun h106 => ?_) (fun h106 => ?_)
                · have hf107 := ifp hf101 h106
                  refine lv_iload hx hb d_M_order_139 (lv_at hl92 6 rfl) ?_
                  refine lv_if_ne (tgt := 82) hx hb d_M_order_141 rfl (fun h109 => ?_) (fun h109 => ?_)
                  · have hf110 := ifn hf107 h109
                    cases hf110
                    exact hc80 rfl H102 L103 ls89 hP104 hS105 (lv_sub hl92 [0, 1, 2, 3, 4, 5, 6] rfl)
                  · have hf111 := ifp hf107 h109
                    obtain ⟨x112, e113, hf114⟩ := bnd_ex hf111
                    refine lv_iinc hx hb d_M_order_144 hl92 (k := 5) rfl (v := x112) (by rw [e113]; rfl) (by decide) (lv' := [(10, .int x112), (0, .ref (am 0)), (4, .int p2), (5, .long y84), (7, .int x61), (9, .int x63), (11, .int x86)]) rfl (fun ls115 hl116 => ?_)
                    refine lv_goto (tgt := 82) hx hb d_M_order_147 rfl ?_
                    cases hf114
                    exact hc80 rfl H102 L103 ls115 hP104 hS105 (lv_sub hl116 [1, 2, 3, 4, 5, 0, 6] rfl)
                · have hf108 := ifn hf101 h106
                  refine lv_lload hx hb d_M_order_98 (lv_at hl92 2 rfl) ?_
                  refine lv_aload_n hx hb d_M_order_100 rfl (lv_at hl92 0 rfl) ?_
                  refine va_get (D := D) (ci := 6) (v := .ref (am 10)) (C := R_M) (T := F_M) (N := 24) hx hb hts (fun w h => List.mem_cons_of_mem _ (uw_M w h)) hown hK hP104 0 rfl rfl 13 (by decide) (hts _ (List.mem_cons_of_mem _ tb_613)) (fun _ h => h) rfl d_M_order_101 ?_
                  refine lv_iload hx hb d_M_order_104 (lv_at hl92 3 rfl) ?_
                  refine lv_iconst (v := 1) hx hb d_M_order_106 (by decide) ?_
                  refine lv_iload hx hb d_M_order_107 (lv_at hl92 5 rfl) ?_
                  refine lv_ishl hx hb d_M_order_109 ?_
                  refine lv_ior hx hb d_M_order_110 ?_
                  obtain ⟨hg117, hf118⟩ := grd_ex hf108
                  refine va_lald hx hb hK hP104 10 3 rfl rfl (inB_in hg117) d_M_order_111 ?_
                  refine W.lcmp hx hb d_M_order_112 ?_
                  refine lv_if_ge (tgt := 122) hx hb d_M_order_113 rfl (fun h119 => ?_) (fun h119 => ?_)
                  · have hf120 := ifp hf118 h119
                    refine lv_lload hx hb d_M_order_122 (lv_at hl92 2 rfl) ?_
                    refine lv_aload_n hx hb d_M_order_124 rfl (lv_at hl92 0 rfl) ?_
                    refine va_get (D := D) (ci := 6) (v := .ref (am 10)) (C := R_M) (T := F_M) (N := 24) hx hb hts (fun w h => List.mem_cons_of_mem _ (uw_M w h)) hown hK hP104 0 rfl rfl 13 (by decide) (hts _ (List.mem_cons_of_mem _ tb_613)) (fun _ h => h) rfl d_M_order_125 ?_
                    refine lv_iload hx hb d_M_order_128 (lv_at hl92 3 rfl) ?_
                    refine lv_iconst (v := 1) hx hb d_M_order_130 (by decide) ?_
                    refine lv_iload hx hb d_M_order_131 (lv_at hl92 5 rfl) ?_
                    refine lv_ishl hx hb d_M_order_133 ?_
                    refine lv_ior hx hb d_M_order_134 ?_
                    obtain ⟨hg122, hf123⟩ := grd_ex hf120
                    refine va_lald hx hb hK hP104 10 3 rfl rfl (inB_in hg122) d_M_order_135 ?_
                    refine lv_lsub hx hb d_M_order_136 ?_
                    obtain ⟨y124, e125, hf126⟩ := bnd_ex hf123
                    refine jd_tnl e125 ?_
                    refine lv_lstore hx hb d_M_order_137 hl92 (by decide) (lv' := [(5, .long y124), (0, .ref (am 0)), (4, .int p2), (7, .int x61), (9, .int x63), (10, .int x85), (11, .int x86)]) rfl (fun ls127 hl128 => ?_)
                    refine lv_iload hx hb d_M_order_139 (lv_at hl128 6 rfl) ?_
                    refine lv_if_ne (tgt := 82) hx hb d_M_order_141 rfl (fun h129 => ?_) (fun h129 => ?_)
                    · have hf130 := ifn hf126 h129
                      cases hf130
                      exact hc80 rfl H102 L103 ls127 hP104 hS105 (lv_sub hl128 [1, 2, 0, 3, 4, 5, 6] rfl)
                    · have hf131 := ifp hf126 h129
                      obtain ⟨x132, e133, hf134⟩ := bnd_ex hf131
                      refine lv_iinc hx hb d_M_order_144 hl128 (k := 5) rfl (v := x132) (by rw [e133]; rfl) (by decide) (lv' := [(10, .int x132), (5, .long y124), (0, .ref (am 0)), (4, .int p2), (7, .int x61), (9, .int x63), (11, .int x86)]) rfl (fun ls135 hl136 => ?_)
                      refine lv_goto (tgt := 82) hx hb d_M_order_147 rfl ?_
                      cases hf134
                      exact hc80 rfl H102 L103 ls135 hP104 hS105 (lv_sub hl136 [2, 3, 1, 4, 5, 0, 6] rfl)
                  · have hf121 := ifn hf118 h119
                    refine lv_iconst (v := 1) hx hb d_M_order_116 (by decide) ?_
                    refine lv_istore hx hb d_M_order_117 hl92 (by decide) (lv' := [(11, .int (1 : Int32)), (0, .ref (am 0)), (4, .int p2), (5, .long y84), (7, .int x61), (9, .int x63), (10, .int x85)]) rfl (fun ls137 hl138 => ?_)
                    refine lv_goto (tgt := 139) hx hb d_M_order_119 rfl ?_
                    refine lv_iload hx hb d_M_order_139 (lv_at hl138 0 rfl) ?_
                    refine lv_if_ne (tgt := 82) hx hb d_M_order_141 rfl (fun _ => ?_) (fun h139 => absurd h139 (by decide))
                    cases hf121
                    exact hc80 rfl H102 L103 ls137 hP104 hS105 (lv_sub hl138 [1, 2, 3, 4, 5, 6, 0] rfl)
          · have hf47 := ifn hf40 h45
            refine lv_iconst (v := -1) hx hb d_M_order_55 (by decide) ?_
            cases hf47
            exact hend H41 L42 56 ls hP43 hS44 d_M_order_56
  · have hf18 := ifp hf11 h16
    refine lv_iconst (v := -1) hx hb d_M_order_13 (by decide) ?_
    cases hf18
    exact hend H12 L13 14 ls hP14 hS15 d_M_order_14
theorem d_M_give_0 : decode b_M_give 0 = .ok (.aload_n 0, 1) := by decide +kernel
theorem d_M_give_1 : decode b_M_give 1 = .ok (.iload_n 1, 1) := by decide +kernel
theorem d_M_give_2 : decode b_M_give 2 = .ok (.iconst 1, 1) := by decide +kernel
theorem d_M_give_3 : decode b_M_give 3 = .ok (.if_icmp .lt 20, 3) := by decide +kernel
theorem d_M_give_6 : decode b_M_give 6 = .ok (.iload_n 1, 1) := by decide +kernel
theorem d_M_give_7 : decode b_M_give 7 = .ok (.bipush 16, 2) := by decide +kernel
theorem d_M_give_9 : decode b_M_give 9 = .ok (.if_icmp .gt 14, 3) := by decide +kernel
theorem d_M_give_12 : decode b_M_give 12 = .ok (.iload_n 2, 1) := by decide +kernel
theorem d_M_give_13 : decode b_M_give 13 = .ok (.iconst (-1), 1) := by decide +kernel
theorem d_M_give_14 : decode b_M_give 14 = .ok (.if_icmp .lt 9, 3) := by decide +kernel
theorem d_M_give_17 : decode b_M_give 17 = .ok (.iload_n 2, 1) := by decide +kernel
theorem d_M_give_18 : decode b_M_give 18 = .ok (.bipush 15, 2) := by decide +kernel
theorem d_M_give_20 : decode b_M_give 20 = .ok (.if_icmp .le 7, 3) := by decide +kernel
theorem d_M_give_23 : decode b_M_give 23 = .ok (.iconst 1, 1) := by decide +kernel
theorem d_M_give_24 : decode b_M_give 24 = .ok (.goto 4, 3) := by decide +kernel
theorem d_M_give_27 : decode b_M_give 27 = .ok (.iconst 0, 1) := by decide +kernel
theorem d_M_give_28 : decode b_M_give 28 = .ok (.putfield 7, 3) := by decide +kernel
theorem d_M_give_31 : decode b_M_give 31 = .ok (.aload_n 0, 1) := by decide +kernel
theorem d_M_give_32 : decode b_M_give 32 = .ok (.getfield 7, 3) := by decide +kernel
theorem d_M_give_35 : decode b_M_give 35 = .ok (.ifCond .eq 5, 3) := by decide +kernel
theorem d_M_give_38 : decode b_M_give 38 = .ok (.iconst 0, 1) := by decide +kernel
theorem d_M_give_39 : decode b_M_give 39 = .ok (.ireturn, 1) := by decide +kernel
theorem d_M_give_40 : decode b_M_give 40 = .ok (.aload_n 0, 1) := by decide +kernel
theorem d_M_give_41 : decode b_M_give 41 = .ok (.getfield 66, 3) := by decide +kernel
theorem d_M_give_44 : decode b_M_give 44 = .ok (.iload_n 1, 1) := by decide +kernel
theorem d_M_give_45 : decode b_M_give 45 = .ok (.iconst 1, 1) := by decide +kernel
theorem d_M_give_46 : decode b_M_give 46 = .ok (.isub, 1) := by decide +kernel
theorem d_M_give_47 : decode b_M_give 47 = .ok (.iaload, 1) := by decide +kernel
theorem d_M_give_48 : decode b_M_give 48 = .ok (.istore_n 3, 1) := by decide +kernel
theorem d_M_give_49 : decode b_M_give 49 = .ok (.aload_n 0, 1) := by decide +kernel
theorem d_M_give_50 : decode b_M_give 50 = .ok (.getfield 66, 3) := by decide +kernel
theorem d_M_give_53 : decode b_M_give 53 = .ok (.iload_n 1, 1) := by decide +kernel
theorem d_M_give_54 : decode b_M_give 54 = .ok (.iconst 1, 1) := by decide +kernel
theorem d_M_give_55 : decode b_M_give 55 = .ok (.isub, 1) := by decide +kernel
theorem d_M_give_56 : decode b_M_give 56 = .ok (.iload_n 2, 1) := by decide +kernel
theorem d_M_give_57 : decode b_M_give 57 = .ok (.iastore, 1) := by decide +kernel
theorem d_M_give_58 : decode b_M_give 58 = .ok (.iload_n 3, 1) := by decide +kernel
theorem d_M_give_59 : decode b_M_give 59 = .ok (.ireturn, 1) := by decide +kernel
def fm_M_give_j28 (p0 : Int32) (p1 : Int32) (x1 : Int32) (I2 : IS) : Option (Int32 × IS) :=
  bnd (sV I2 0 x1) (fun I10 => if (I10 0 0) = 0 then grd (inB (p0 - (1 : Int32)) 16) (bnd (I10 15 (p0 - (1 : Int32)).toNatClampNeg) (fun x23 => grd (inB (p0 - (1 : Int32)) 16) (bnd (sI I10 15 (p0 - (1 : Int32)).toNatClampNeg p1) (fun I30 => some (x23, I30))))) else some ((0 : Int32), I10))
def fm_M_give_j23 (p0 : Int32) (p1 : Int32) (I38 : IS) : Option (Int32 × IS) :=
  fm_M_give_j28 p0 p1 (1 : Int32) I38
def fm_M_give (p0 : Int32) (p1 : Int32) (I0 : IS) : Option (Int32 × IS) :=
  if p0 < (1 : Int32) then fm_M_give_j23 p0 p1 I0 else if (16 : Int32) < p0 then fm_M_give_j23 p0 p1 I0 else if p1 < (-1 : Int32) then fm_M_give_j23 p0 p1 I0 else if p1 ≤ (15 : Int32) then fm_M_give_j28 p0 p1 (0 : Int32) I0 else fm_M_give_j23 p0 p1 I0
set_option maxHeartbeats 4000000 in
set_option maxRecDepth 100000 in
theorem cm_M_give (l : Launch) (D : va_G) (ca : Nat → ClassId) (am : Nat → Nat) {p0 : Int32} {p1 : Int32} {I0 : IS} {J0 : JS} {r : Int32 × IS} (hf : fm_M_give p0 p1 I0 = some r) : CtI l y_M_give (Cond.code y_M_give b_M_give 4 (some .int) :: TB) { frames := 0, cells := 0, slots := 0, locals := 0 } [.ref (am 0), .int p0, .int p1] D cls_all (tysC ca) NN (wM ca am I0 J0) (wM ca am r.2 J0) r.1 := by
  refine jd_metI (cc := b_M_give) (by decide) rfl (Nat.le_of_ble_eq_true rfl) (lv := [(0, .ref (am 0)), (1, .int p0), (2, .int p1)]) rfl ?_
  intro p e R s m args below meth c A Q ls cx hR hK hN hD0 hA hP hS hl hend
  have hx := cx.1
  have hb := cx.2.1
  have hml := cx.2.2.1
  have hown := cx.2.2.2.1
  have hts := cx.2.2.2.2
  have hD : ∀ I J, va_D A (wM ca am I J) := fun I J => jd_Dc hD0 rfl
  unfold fm_M_give at hf
  have kj28 : ∀ (x1 : Int32) (I2 : IS), fm_M_give_j28 p0 p1 x1 I2 = some r → ∀ (H3 : Heap) (L4 : List Loc) (ls5 : Array Slot), va_P D cls_all (wM ca am I2 J0) H3 → va_S A s.heap H3 L4 → lv_has ls5 4 [(0, .ref (am 0)), (1, .int p0), (2, .int p1)] → W p l e R s m args below meth c H3 L4 0 0 Q (F0 m 28 ls5 [.int x1, .ref (am 0)]) := by
    intro x1 I2 hf9 H3 L4 ls5 hP6 hS7 hl8
    unfold fm_M_give_j28 at hf9
    obtain ⟨I10, e11, hf12⟩ := bnd_ex hf9
    refine va_put (D := D) (ci := 6) (v := .int x1) (ty := .int) (C := R_M) (T := F_M) (N := 24) hx hb hts (fun w h => List.mem_cons_of_mem _ (uw_M w h)) ft_M tk_M n_M hown hK hP6 (hD I2 J0) hS7 0 rfl rfl 0 (by decide) (hts _ (List.mem_cons_of_mem _ tb_600)) (fun _ h => h) rfl (by decide +kernel) rfl rfl (Nat.le_of_ble_eq_true rfl) d_M_give_28 (fun H13 L14 hp17 _ hS16 => ?_)
    have hP15 : va_P D cls_all (wM ca am I10 J0) H13 := by rw [e11]; exact hp17
    refine lv_aload_n hx hb d_M_give_31 rfl (lv_at hl8 0 rfl) ?_
    refine va_get (D := D) (ci := 6) (v := .int (I10 0 0)) (C := R_M) (T := F_M) (N := 24) hx hb hts (fun w h => List.mem_cons_of_mem _ (uw_M w h)) hown hK hP15 0 rfl rfl 0 (by decide) (hts _ (List.mem_cons_of_mem _ tb_600)) (fun _ h => h) rfl d_M_give_32 ?_
    refine lv_if_eq (tgt := 40) hx hb d_M_give_35 rfl (fun h18 => ?_) (fun h18 => ?_)
    · have hf19 := ifp hf12 h18
      refine lv_aload_n hx hb d_M_give_40 rfl (lv_at hl8 0 rfl) ?_
      refine va_get (D := D) (ci := 6) (v := .ref (am 13)) (C := R_M) (T := F_M) (N := 24) hx hb hts (fun w h => List.mem_cons_of_mem _ (uw_M w h)) hown hK hP15 0 rfl rfl 17 (by decide) (hts _ (List.mem_cons_of_mem _ tb_617)) (fun _ h => h) rfl d_M_give_41 ?_
      refine lv_iload_n hx hb d_M_give_44 rfl (lv_at hl8 1 rfl) ?_
      refine lv_iconst (v := 1) hx hb d_M_give_45 (by decide) ?_
      refine lv_isub hx hb d_M_give_46 ?_
      obtain ⟨hg21, hf22⟩ := grd_ex hf19
      refine va_iald hx hb hK hP15 13 2 rfl rfl (inB_in hg21) d_M_give_47 ?_
      obtain ⟨x23, e24, hf25⟩ := bnd_ex hf22
      refine jd_tni e24 ?_
      refine lv_istore_n hx hb d_M_give_48 rfl hl8 (by decide) (lv' := [(3, .int x23), (0, .ref (am 0)), (1, .int p0), (2, .int p1)]) rfl (fun ls26 hl27 => ?_)
      refine lv_aload_n hx hb d_M_give_49 rfl (lv_at hl27 1 rfl) ?_
      refine va_get (D := D) (ci := 6) (v := .ref (am 13)) (C := R_M) (T := F_M) (N := 24) hx hb hts (fun w h => List.mem_cons_of_mem _ (uw_M w h)) hown hK hP15 0 rfl rfl 17 (by decide) (hts _ (List.mem_cons_of_mem _ tb_617)) (fun _ h => h) rfl d_M_give_50 ?_
      refine lv_iload_n hx hb d_M_give_53 rfl (lv_at hl27 2 rfl) ?_
      refine lv_iconst (v := 1) hx hb d_M_give_54 (by decide) ?_
      refine lv_isub hx hb d_M_give_55 ?_
      refine lv_iload_n hx hb d_M_give_56 rfl (lv_at hl27 3 rfl) ?_
      obtain ⟨hg28, hf29⟩ := grd_ex hf25
      obtain ⟨I30, e31, hf32⟩ := bnd_ex hf29
      refine va_iast hx hb hK hP15 (hD I10 J0) hS16 13 2 rfl rfl (inB_in hg28) d_M_give_57 (fun H33 L34 hp37 _ hS36 => ?_)
      have hP35 : va_P D cls_all (wM ca am I30 J0) H33 := by rw [e31]; exact hp37
      refine lv_iload_n hx hb d_M_give_58 rfl (lv_at hl27 0 rfl) ?_
      cases hf32
      exact hend H33 L34 59 ls26 hP35 hS36 d_M_give_59
    · have hf20 := ifn hf12 h18
      refine lv_iconst (v := 0) hx hb d_M_give_38 (by decide) ?_
      cases hf20
      exact hend H13 L14 39 ls5 hP15 hS16 d_M_give_39
  have kj23 : ∀ (I38 : IS), fm_M_give_j23 p0 p1 I38 = some r → ∀ (H39 : Heap) (L40 : List Loc) (ls41 : Array Slot), va_P D cls_all (wM ca am I38 J0) H39 → va_S A s.heap H39 L40 → lv_has ls41 4 [(0, .ref (am 0)), (1, .int p0), (2, .int p1)] → W p l e R s m args below meth c H39 L40 0 0 Q (F0 m 23 ls41 [.ref (am 0)]) := by
    intro I38 hf45 H39 L40 ls41 hP42 hS43 hl44
    unfold fm_M_give_j23 at hf45
    refine lv_iconst (v := 1) hx hb d_M_give_23 (by decide) ?_
    refine lv_goto (tgt := 28) hx hb d_M_give_24 rfl ?_
    exact kj28 (1 : Int32) I38 hf45 H39 L40 ls41 hP42 hS43 (lv_sub hl44 [0, 1, 2] rfl)
  refine lv_aload_n hx hb d_M_give_0 rfl (lv_at hl 0 rfl) ?_
  refine lv_iload_n hx hb d_M_give_1 rfl (lv_at hl 1 rfl) ?_
  refine lv_iconst (v := 1) hx hb d_M_give_2 (by decide) ?_
  refine lv_icmp_lt (tgt := 23) hx hb d_M_give_3 rfl (fun h46 => ?_) (fun h46 => ?_)
  · have hf47 := ifp hf h46
    exact kj23 I0 hf47 s.heap [] ls hP hS (lv_sub hl [0, 1, 2] rfl)
  · have hf48 := ifn hf h46
    refine lv_iload_n hx hb d_M_give_6 rfl (lv_at hl 1 rfl) ?_
    refine lv_bipush (v := 16) hx hb d_M_give_7 (by decide) ?_
    refine lv_icmp_gt (tgt := 23) hx hb d_M_give_9 rfl (fun h49 => ?_) (fun h49 => ?_)
    · have hf50 := ifp hf48 h49
      exact kj23 I0 hf50 s.heap [] ls hP hS (lv_sub hl [0, 1, 2] rfl)
    · have hf51 := ifn hf48 h49
      refine lv_iload_n hx hb d_M_give_12 rfl (lv_at hl 2 rfl) ?_
      refine lv_iconst (v := -1) hx hb d_M_give_13 (by decide) ?_
      refine lv_icmp_lt (tgt := 23) hx hb d_M_give_14 rfl (fun h52 => ?_) (fun h52 => ?_)
      · have hf53 := ifp hf51 h52
        exact kj23 I0 hf53 s.heap [] ls hP hS (lv_sub hl [0, 1, 2] rfl)
      · have hf54 := ifn hf51 h52
        refine lv_iload_n hx hb d_M_give_17 rfl (lv_at hl 2 rfl) ?_
        refine lv_bipush (v := 15) hx hb d_M_give_18 (by decide) ?_
        refine lv_icmp_le (tgt := 27) hx hb d_M_give_20 rfl (fun h55 => ?_) (fun h55 => ?_)
        · have hf56 := ifp hf54 h55
          refine lv_iconst (v := 0) hx hb d_M_give_27 (by decide) ?_
          exact kj28 (0 : Int32) I0 hf56 s.heap [] ls hP hS (lv_sub hl [0, 1, 2] rfl)
        · have hf57 := ifn hf54 h55
          exact kj23 I0 hf57 s.heap [] ls hP hS (lv_sub hl [0, 1, 2] rfl)
theorem d_M_numberOf_0 : decode b_M_numberOf 0 = .ok (.aload_n 0, 1) := by decide +kernel
theorem d_M_numberOf_1 : decode b_M_numberOf 1 = .ok (.iconst 0, 1) := by decide +kernel
theorem d_M_numberOf_2 : decode b_M_numberOf 2 = .ok (.putfield 7, 3) := by decide +kernel
theorem d_M_numberOf_5 : decode b_M_numberOf 5 = .ok (.aload_n 0, 1) := by decide +kernel
theorem d_M_numberOf_6 : decode b_M_numberOf 6 = .ok (.iload_n 1, 1) := by decide +kernel
theorem d_M_numberOf_7 : decode b_M_numberOf 7 = .ok (.invokevirtual 131, 3) := by decide +kernel
theorem d_M_numberOf_10 : decode b_M_numberOf 10 = .ok (.ifCond .ne 7, 3) := by decide +kernel
theorem d_M_numberOf_13 : decode b_M_numberOf 13 = .ok (.ldc2_w 146, 3) := by decide +kernel
theorem d_M_numberOf_16 : decode b_M_numberOf 16 = .ok (.lreturn, 1) := by decide +kernel
theorem d_M_numberOf_17 : decode b_M_numberOf 17 = .ok (.aload_n 0, 1) := by decide +kernel
theorem d_M_numberOf_18 : decode b_M_numberOf 18 = .ok (.iload_n 1, 1) := by decide +kernel
theorem d_M_numberOf_19 : decode b_M_numberOf 19 = .ok (.invokevirtual 124, 3) := by decide +kernel
theorem d_M_numberOf_22 : decode b_M_numberOf 22 = .ok (.lconst 0, 1) := by decide +kernel
theorem d_M_numberOf_23 : decode b_M_numberOf 23 = .ok (.lstore_n 2, 1) := by decide +kernel
theorem d_M_numberOf_24 : decode b_M_numberOf 24 = .ok (.iconst 0, 1) := by decide +kernel
theorem d_M_numberOf_25 : decode b_M_numberOf 25 = .ok (.istore 4, 2) := by decide +kernel
theorem d_M_numberOf_27 : decode b_M_numberOf 27 = .ok (.iconst 0, 1) := by decide +kernel
theorem d_M_numberOf_28 : decode b_M_numberOf 28 = .ok (.istore 5, 2) := by decide +kernel
theorem d_M_numberOf_30 : decode b_M_numberOf 30 = .ok (.iload 5, 2) := by decide +kernel
theorem d_M_numberOf_32 : decode b_M_numberOf 32 = .ok (.aload_n 0, 1) := by decide +kernel
theorem d_M_numberOf_33 : decode b_M_numberOf 33 = .ok (.getfield 36, 3) := by decide +kernel
theorem d_M_numberOf_36 : decode b_M_numberOf 36 = .ok (.invokestatic 112, 3) := by decide +kernel
theorem d_M_numberOf_39 : decode b_M_numberOf 39 = .ok (.if_icmp .ge 100, 3) := by decide +kernel
theorem d_M_numberOf_42 : decode b_M_numberOf 42 = .ok (.aload_n 0, 1) := by decide +kernel
theorem d_M_numberOf_43 : decode b_M_numberOf 43 = .ok (.getfield 66, 3) := by decide +kernel
theorem d_M_numberOf_46 : decode b_M_numberOf 46 = .ok (.iload 5, 2) := by decide +kernel
theorem d_M_numberOf_48 : decode b_M_numberOf 48 = .ok (.iaload, 1) := by decide +kernel
theorem d_M_numberOf_49 : decode b_M_numberOf 49 = .ok (.ifCond .lt 19, 3) := by decide +kernel
theorem d_M_numberOf_52 : decode b_M_numberOf 52 = .ok (.aload_n 0, 1) := by decide +kernel
theorem d_M_numberOf_53 : decode b_M_numberOf 53 = .ok (.iload 4, 2) := by decide +kernel
theorem d_M_numberOf_55 : decode b_M_numberOf 55 = .ok (.aload_n 0, 1) := by decide +kernel
theorem d_M_numberOf_56 : decode b_M_numberOf 56 = .ok (.getfield 66, 3) := by decide +kernel
theorem d_M_numberOf_59 : decode b_M_numberOf 59 = .ok (.iload 5, 2) := by decide +kernel
theorem d_M_numberOf_61 : decode b_M_numberOf 61 = .ok (.iaload, 1) := by decide +kernel
theorem d_M_numberOf_62 : decode b_M_numberOf 62 = .ok (.invokevirtual 98, 3) := by decide +kernel
theorem d_M_numberOf_65 : decode b_M_numberOf 65 = .ok (.ifCond .ne 7, 3) := by decide +kernel
theorem d_M_numberOf_68 : decode b_M_numberOf 68 = .ok (.ldc2_w 146, 3) := by decide +kernel
theorem d_M_numberOf_71 : decode b_M_numberOf 71 = .ok (.lreturn, 1) := by decide +kernel
theorem d_M_numberOf_72 : decode b_M_numberOf 72 = .ok (.iconst 0, 1) := by decide +kernel
theorem d_M_numberOf_73 : decode b_M_numberOf 73 = .ok (.istore 6, 2) := by decide +kernel
theorem d_M_numberOf_75 : decode b_M_numberOf 75 = .ok (.iload 6, 2) := by decide +kernel
theorem d_M_numberOf_77 : decode b_M_numberOf 77 = .ok (.aload_n 0, 1) := by decide +kernel
theorem d_M_numberOf_78 : decode b_M_numberOf 78 = .ok (.getfield 66, 3) := by decide +kernel
theorem d_M_numberOf_81 : decode b_M_numberOf 81 = .ok (.iload 5, 2) := by decide +kernel
theorem d_M_numberOf_83 : decode b_M_numberOf 83 = .ok (.iaload, 1) := by decide +kernel
theorem d_M_numberOf_84 : decode b_M_numberOf 84 = .ok (.if_icmp .ge 35, 3) := by decide +kernel
theorem d_M_numberOf_87 : decode b_M_numberOf 87 = .ok (.aload_n 0, 1) := by decide +kernel
theorem d_M_numberOf_88 : decode b_M_numberOf 88 = .ok (.iload 4, 2) := by decide +kernel
theorem d_M_numberOf_90 : decode b_M_numberOf 90 = .ok (.iload 6, 2) := by decide +kernel
theorem d_M_numberOf_92 : decode b_M_numberOf 92 = .ok (.invokevirtual 98, 3) := by decide +kernel
theorem d_M_numberOf_95 : decode b_M_numberOf 95 = .ok (.ifCond .eq 18, 3) := by decide +kernel
theorem d_M_numberOf_98 : decode b_M_numberOf 98 = .ok (.lload_n 2, 1) := by decide +kernel
theorem d_M_numberOf_99 : decode b_M_numberOf 99 = .ok (.aload_n 0, 1) := by decide +kernel
theorem d_M_numberOf_100 : decode b_M_numberOf 100 = .ok (.getfield 54, 3) := by decide +kernel
theorem d_M_numberOf_103 : decode b_M_numberOf 103 = .ok (.iload 4, 2) := by decide +kernel
theorem d_M_numberOf_105 : decode b_M_numberOf 105 = .ok (.iconst 1, 1) := by decide +kernel
theorem d_M_numberOf_106 : decode b_M_numberOf 106 = .ok (.iload 6, 2) := by decide +kernel
theorem d_M_numberOf_108 : decode b_M_numberOf 108 = .ok (.ishl, 1) := by decide +kernel
theorem d_M_numberOf_109 : decode b_M_numberOf 109 = .ok (.ior, 1) := by decide +kernel
theorem d_M_numberOf_110 : decode b_M_numberOf 110 = .ok (.laload, 1) := by decide +kernel
theorem d_M_numberOf_111 : decode b_M_numberOf 111 = .ok (.ladd, 1) := by decide +kernel
theorem d_M_numberOf_112 : decode b_M_numberOf 112 = .ok (.lstore_n 2, 1) := by decide +kernel
theorem d_M_numberOf_113 : decode b_M_numberOf 113 = .ok (.iinc 6 1, 3) := by decide +kernel
theorem d_M_numberOf_116 : decode b_M_numberOf 116 = .ok (.goto (-41), 3) := by decide +kernel
theorem d_M_numberOf_119 : decode b_M_numberOf 119 = .ok (.iload 4, 2) := by decide +kernel
theorem d_M_numberOf_121 : decode b_M_numberOf 121 = .ok (.iconst 1, 1) := by decide +kernel
theorem d_M_numberOf_122 : decode b_M_numberOf 122 = .ok (.aload_n 0, 1) := by decide +kernel
theorem d_M_numberOf_123 : decode b_M_numberOf 123 = .ok (.getfield 66, 3) := by decide +kernel
theorem d_M_numberOf_126 : decode b_M_numberOf 126 = .ok (.iload 5, 2) := by decide +kernel
theorem d_M_numberOf_128 : decode b_M_numberOf 128 = .ok (.iaload, 1) := by decide +kernel
theorem d_M_numberOf_129 : decode b_M_numberOf 129 = .ok (.ishl, 1) := by decide +kernel
theorem d_M_numberOf_130 : decode b_M_numberOf 130 = .ok (.ior, 1) := by decide +kernel
theorem d_M_numberOf_131 : decode b_M_numberOf 131 = .ok (.istore 4, 2) := by decide +kernel
theorem d_M_numberOf_133 : decode b_M_numberOf 133 = .ok (.iinc 5 1, 3) := by decide +kernel
theorem d_M_numberOf_136 : decode b_M_numberOf 136 = .ok (.goto (-106), 3) := by decide +kernel
theorem d_M_numberOf_139 : decode b_M_numberOf 139 = .ok (.lload_n 2, 1) := by decide +kernel
theorem d_M_numberOf_140 : decode b_M_numberOf 140 = .ok (.lreturn, 1) := by decide +kernel
def fm_M_numberOf_B75 (I19 : IS) (J20 : JS) (x38 : Int32) (x39 : Int32) (y83 : Int64) (x84 : Int32) : Option (Nat × Int64 × Int32) :=
  grd (inB x39 16) (if (I19 15 x39.toNatClampNeg) ≤ x84 then some (1, y83, x84) else ob1 (fm_M_mayCome x38 x84 I19) (fun x99 => if x99 = 0 then bnd (x84 + (1 : Int32)) (fun x109 => some (0, y83, x109)) else grd (inB (x38 ||| ((1 : Int32) <<< (x84 &&& 31))) 65536) (bnd (y83 + (J20 1 (x38 ||| ((1 : Int32) <<< (x84 &&& 31))).toNatClampNeg)) (fun y116 => bnd (x84 + (1 : Int32)) (fun x121 => some (0, y116, x121))))))
def fm_M_numberOf_B30 (I19 : IS) (J20 : JS) (y37 : Int64) (x38 : Int32) (x39 : Int32) : Option (Nat × Int64 × Int32 × Int32) :=
  ob1 (fm_M_bits (I19 8 0)) (fun x48 => if x48 ≤ x39 then some (1, y37, x38, x39) else grd (inB x39 16) (if (I19 15 x39.toNatClampNeg) < 0 then some (2, y37, x38, x39) else grd (inB x39 16) (ob1 (fm_M_mayCome x38 (I19 15 x39.toNatClampNeg) I19) (fun x67 => if x67 = 0 then some (2, y37, x38, x39) else ob3 (iter (fun z : Int64 × Int32 => fm_M_numberOf_B75 I19 J20 x38 x39 z.1 z.2) FU (y37, (0 : Int32))) (fun _ y127 x128 => grd (inB x39 16) (bnd (x38 ||| ((1 : Int32) <<< ((I19 15 x39.toNatClampNeg) &&& 31))) (fun x139 => bnd (x39 + (1 : Int32)) (fun x144 => some (0, y127, x139, x144)))))))))
def fm_M_numberOf (p0 : Int32) (I0 : IS) (J0 : JS) : Option (Int64 × IS × JS) :=
  bnd (sV I0 0 (0 : Int32)) (fun I1 => ob1 (fm_M_isHeat p0 I1) (fun x9 => if x9 = 0 then some ((-1 : Int64), I1, J0) else ob2 (fm_M_countAll p0 I1 J0) (fun I19 J20 => ob4 (iter (fun z : Int64 × Int32 × Int32 => fm_M_numberOf_B30 I19 J20 z.1 z.2.1 z.2.2) FU ((0 : Int64), (0 : Int32), (0 : Int32))) (fun tg150 y151 x152 x153 => if tg150 = 1 then some (y151, I19, J20) else some ((-1 : Int64), I19, J20)))))
set_option maxHeartbeats 4000000 in
set_option maxRecDepth 100000 in
theorem cm_M_numberOf (l : Launch) (D : va_G) (ca : Nat → ClassId) (am : Nat → Nat) {p0 : Int32} {I0 : IS} {J0 : JS} {r : Int64 × IS × JS} (hf : fm_M_numberOf p0 I0 J0 = some r) : CtL l y_M_numberOf (Cond.code y_M_numberOf b_M_numberOf 7 (some .long) :: TB) { frames := 4, cells := 0, slots := 0, locals := 91 } [.ref (am 0), .int p0] D cls_all (tysC ca) NN (wM ca am I0 J0) (wM ca am r.2.1 r.2.2) r.1 := by
  refine jd_metL (cc := b_M_numberOf) (by decide) rfl (Nat.le_of_ble_eq_true rfl) (lv := [(0, .ref (am 0)), (1, .int p0)]) rfl ?_
  intro p e R s m args below meth c A Q ls cx hR hK hN hD0 hA hP hS hl hend
  have hx := cx.1
  have hb := cx.2.1
  have hml := cx.2.2.1
  have hown := cx.2.2.2.1
  have hts := cx.2.2.2.2
  have hD : ∀ I J, va_D A (wM ca am I J) := fun I J => jd_Dc hD0 rfl
  unfold fm_M_numberOf at hf
  refine lv_aload_n hx hb d_M_numberOf_0 rfl (lv_at hl 0 rfl) ?_
  refine lv_iconst (v := 0) hx hb d_M_numberOf_1 (by decide) ?_
  obtain ⟨I1, e2, hf3⟩ := bnd_ex hf
  refine va_put (D := D) (ci := 6) (v := .int (0 : Int32)) (ty := .int) (C := R_M) (T := F_M) (N := 24) hx hb hts (fun w h => List.mem_cons_of_mem _ (uw_M w h)) ft_M tk_M n_M hown hK hP (hD I0 J0) hS 0 rfl rfl 0 (by decide) (hts _ (List.mem_cons_of_mem _ tb_600)) (fun _ h => h) rfl (by decide +kernel) rfl rfl (Nat.le_of_ble_eq_true rfl) d_M_numberOf_2 (fun H4 L5 hp8 _ hS7 => ?_)
  have hP6 : va_P D cls_all (wM ca am I1 J0) H4 := by rw [e2]; exact hp8
  refine lv_aload_n hx hb d_M_numberOf_5 rfl (lv_at hl 0 rfl) ?_
  refine lv_iload_n hx hb d_M_numberOf_6 rfl (lv_at hl 1 rfl) ?_
  obtain ⟨x9, hc10, hf11⟩ := ob1_ex hf3
  refine jd_ci (va_runV (As := [.int p0]) (rest := []) cx (cm_M_isHeat l D ca am hc10 H4.size) (cwV 1 hts (jd_gV tb_708 tb_709 tb_30 tb_47 tb_710) rfl rfl rfl ⟨rfl, by decide, by decide, rfl⟩ (by rw [hR]; decide)) ⟨jd_blind nWc, (va_recv hK hP6 (ci := 6) (q0 := 0) rfl rfl), (jd_pre (av := [.ref (am 0), .int p0]) hP6 hK (hD I1 J0) (fun U h => nWm h hN))⟩ rfl rfl hl.1 rfl (lv_room (Nat.le_of_ble_eq_true rfl)) d_M_numberOf_7 ⟨Nat.zero_le _, Nat.zero_le _⟩) hS7 (hD I1 J0) hA (fun H12 L13 hP14 hS15 => ?_)
  refine lv_if_ne (tgt := 17) hx hb d_M_numberOf_10 rfl (fun h16 => ?_) (fun h16 => ?_)
  · have hf17 := ifn hf11 h16
    refine lv_aload_n hx hb d_M_numberOf_17 rfl (lv_at hl 0 rfl) ?_
    refine lv_iload_n hx hb d_M_numberOf_18 rfl (lv_at hl 1 rfl) ?_
    obtain ⟨I19, J20, hc21, hf22⟩ := ob2_ex hf17
    refine jd_cv (va_runV (As := [.int p0]) (rest := []) cx (cm_M_countAll l D ca am hc21 H12.size) (cwV 1 hts (jd_gV tb_731 tb_732 tb_31 tb_47 tb_733) rfl rfl rfl ⟨rfl, by decide, by decide, rfl⟩ (by rw [hR]; decide)) ⟨jd_blind nWc, (va_recv hK hP14 (ci := 6) (q0 := 0) rfl rfl), (jd_pre (av := [.ref (am 0), .int p0]) hP14 hK (hD I1 J0) (fun U h => nWm h hN))⟩ rfl rfl hl.1 rfl (lv_room (Nat.le_of_ble_eq_true rfl)) d_M_numberOf_19 ⟨Nat.zero_le _, Nat.zero_le _⟩) hS15 (hD I1 J0) hA (fun H23 L24 hP25 hS26 => ?_)
    refine lv_lconst (v := 0) hx hb d_M_numberOf_22 (by decide) ?_
    refine lv_lstore_n hx hb d_M_numberOf_23 rfl hl (by decide) (lv' := [(2, .long (0 : Int64)), (0, .ref (am 0)), (1, .int p0)]) rfl (fun ls27 hl28 => ?_)
    refine lv_iconst (v := 0) hx hb d_M_numberOf_24 (by decide) ?_
    refine lv_istore hx hb d_M_numberOf_25 hl28 (by decide) (lv' := [(4, .int (0 : Int32)), (2, .long (0 : Int64)), (0, .ref (am 0)), (1, .int p0)]) rfl (fun ls29 hl30 => ?_)
    refine lv_iconst (v := 0) hx hb d_M_numberOf_27 (by decide) ?_
    refine lv_istore hx hb d_M_numberOf_28 hl30 (by decide) (lv' := [(5, .int (0 : Int32)), (4, .int (0 : Int32)), (2, .long (0 : Int64)), (0, .ref (am 0)), (1, .int p0)]) rfl (fun ls31 hl32 => ?_)
    obtain ⟨tg150, y151, x152, x153, ho154, hf155⟩ := ob4_ex hf22
    have kx30_1 : tg150 = 1 → ∀ (H156 : Heap) (L157 : List Loc) (ls158 : Array Slot), va_P D cls_all (wM ca am I19 J20) H156 → va_S A s.heap H156 L157 → lv_has ls158 7 [(2, .long y151)] → W p l e R s m args below meth c H156 L157 0 0 Q (F0 m 139 ls158 []) := by
      intro ht163 H156 L157 ls158 hP159 hS160 hl161
      have hf162 := ifp hf155 ht163
      refine lv_lload_n hx hb d_M_numberOf_139 rfl (lv_at hl161 0 rfl) ?_
      cases hf162
      exact hend H156 L157 140 ls158 hP159 hS160 d_M_numberOf_140
    have kx30_2 : tg150 = 2 → ∀ (H164 : Heap) (L165 : List Loc) (ls166 : Array Slot), va_P D cls_all (wM ca am I19 J20) H164 → va_S A s.heap H164 L165 → lv_has ls166 7 [] → W p l e R s m args below meth c H164 L165 0 0 Q (F0 m 68 ls166 []) := by
      intro ht171 H164 L165 ls166 hP167 hS168 hl169
      have hf172 := ifn hf155 (by rw [ht171]; decide)
      have hf170 := hf172
      refine lv_ldc2 (v := -1) hx hb hown (hts _ (List.mem_cons_of_mem _ tb_771)) d_M_numberOf_68 ?_
      cases hf170
      exact hend H164 L165 71 ls166 hP167 hS168 d_M_numberOf_71
    refine iter_ind (C := fun z : Int64 × Int32 × Int32 => ∀ (H40 : Heap) (L41 : List Loc) (ls42 : Array Slot), va_P D cls_all (wM ca am I19 J20) H40 → va_S A s.heap H40 L41 → lv_has ls42 7 [(0, .ref (am 0)), (2, .long z.1), (4, .int z.2.1), (5, .int z.2.2)] → W p l e R s m args below meth c H40 L41 0 0 Q (F0 m 30 ls42 [])) (fun z36 o35 hz47 hc33 he34 => ?_) _ _ ho154 H23 L24 ls31 hP25 hS26 (lv_sub hl32 [3, 2, 1, 0] rfl)
    obtain ⟨y37, x38, x39⟩ := z36
    intro H40 L41 ls42 hP43 hS44 hl45
    have hf46 : fm_M_numberOf_B30 I19 J20 y37 x38 x39 = some o35 := hz47
    unfold fm_M_numberOf_B30 at hf46
    refine lv_iload hx hb d_M_numberOf_30 (lv_at hl45 3 rfl) ?_
    refine lv_aload_n hx hb d_M_numberOf_32 rfl (lv_at hl45 0 rfl) ?_
    refine va_get (D := D) (ci := 6) (v := .int (I19 8 0)) (C := R_M) (T := F_M) (N := 24) hx hb hts (fun w h => List.mem_cons_of_mem _ (uw_M w h)) hown hK hP43 0 rfl rfl 8 (by decide) (hts _ (List.mem_cons_of_mem _ tb_608)) (fun _ h => h) rfl d_M_numberOf_33 ?_
    obtain ⟨x48, hc49, hf50⟩ := ob1_ex hf46
    refine jd_ci (va_runS (As := [.int (I19 8 0)]) (rest := [.int x39]) cx (cm_M_bits l D ca (wM ca am I19 J20) (I0 := I19) (J0 := J20) hc49 H40.size) (va_cwS 1 hts (jd_gS2 tb_715 tb_716 tb_47 tb_717) rfl rfl rfl ⟨by decide, by decide, rfl⟩ (by rw [hR]; decide)) ⟨jd_blind nWc, (jd_pre (av := [.int (I19 8 0)]) hP43 hK (hD I19 J20) (fun U h => nWm h hN))⟩ rfl rfl hl45.1 rfl (lv_room (Nat.le_of_ble_eq_true rfl)) d_M_numberOf_36 ⟨Nat.zero_le _, Nat.zero_le _⟩) hS44 (hD I19 J20) hA (fun H51 L52 hP53 hS54 => ?_)
    refine lv_icmp_ge (tgt := 139) hx hb d_M_numberOf_39 rfl (fun h55 => ?_) (fun h55 => ?_)
    · have hf56 := ifp hf50 h55
      cases hf56
      have e58 := he34 (by show (1 : Nat) ≠ 0; decide)
      cases e58
      exact kx30_1 rfl H51 L52 ls42 hP53 hS54 (lv_sub hl45 [1] rfl)
    · have hf57 := ifn hf50 h55
      refine lv_aload_n hx hb d_M_numberOf_42 rfl (lv_at hl45 0 rfl) ?_
      refine va_get (D := D) (ci := 6) (v := .ref (am 13)) (C := R_M) (T := F_M) (N := 24) hx hb hts (fun w h => List.mem_cons_of_mem _ (uw_M w h)) hown hK hP53 0 rfl rfl 17 (by decide) (hts _ (List.mem_cons_of_mem _ tb_617)) (fun _ h => h) rfl d_M_numberOf_43 ?_
      refine lv_iload hx hb d_M_numberOf_46 (lv_at hl45 3 rfl) ?_
      obtain ⟨hg59, hf60⟩ := grd_ex hf57
      refine va_iald hx hb hK hP53 13 2 rfl rfl (inB_in hg59) d_M_numberOf_48 ?_
      refine lv_if_lt (tgt := 68) hx hb d_M_numberOf_49 rfl (fun h61 => ?_) (fun h61 => ?_)
      · have hf62 := ifp hf60 h61
        cases hf62
        have e64 := he34 (by show (2 : Nat) ≠ 0; decide)
        cases e64
        exact kx30_2 rfl H51 L52 ls42 hP53 hS54 (lv_sub hl45 [] rfl)
      · have hf63 := ifn hf60 h61
        refine lv_aload_n hx hb d_M_numberOf_52 rfl (lv_at hl45 0 rfl) ?_
        refine lv_iload hx hb d_M_numberOf_53 (lv_at hl45 2 rfl) ?_
        refine lv_aload_n hx hb d_M_numberOf_55 rfl (lv_at hl45 0 rfl) ?_
        refine va_get (D := D) (ci := 6) (v := .ref (am 13)) (C := R_M) (T := F_M) (N := 24) hx hb hts (fun w h => List.mem_cons_of_mem _ (uw_M w h)) hown hK hP53 0 rfl rfl 17 (by decide) (hts _ (List.mem_cons_of_mem _ tb_617)) (fun _ h => h) rfl d_M_numberOf_56 ?_
        refine lv_iload hx hb d_M_numberOf_59 (lv_at hl45 3 rfl) ?_
        obtain ⟨hg65, hf66⟩ := grd_ex hf63
        refine va_iald hx hb hK hP53 13 2 rfl rfl (inB_in hg65) d_M_numberOf_61 ?_
        obtain ⟨x67, hc68, hf69⟩ := ob1_ex hf66
        refine jd_ci (va_runV (As := [.int x38, .int (I19 15 x39.toNatClampNeg)]) (rest := []) cx (cm_M_mayCome l D ca am hc68 H51.size) (cwV 2 hts (jd_gV tb_734 tb_735 tb_32 tb_47 tb_736) rfl rfl rfl ⟨rfl, by decide, by decide, rfl⟩ (by rw [hR]; decide)) ⟨jd_blind nWc, (va_recv hK hP53 (ci := 6) (q0 := 0) rfl rfl), (jd_pre (av := [.ref (am 0), .int x38, .int (I19 15 x39.toNatClampNeg)]) hP53 hK (hD I19 J20) (fun U h => nWm h hN))⟩ rfl rfl hl45.1 rfl (lv_room (Nat.le_of_ble_eq_true rfl)) d_M_numberOf_62 ⟨Nat.zero_le _, Nat.zero_le _⟩) hS54 (hD I19 J20) hA (fun H70 L71 hP72 hS73 => ?_)
        refine lv_if_ne (tgt := 72) hx hb d_M_numberOf_65 rfl (fun h74 => ?_) (fun h74 => ?_)
        · have hf75 := ifn hf69 h74
          refine lv_iconst (v := 0) hx hb d_M_numberOf_72 (by decide) ?_
          refine lv_istore hx hb d_M_numberOf_73 hl45 (by decide) (lv' := [(6, .int (0 : Int32)), (0, .ref (am 0)), (2, .long y37), (4, .int x38), (5, .int x39)]) rfl (fun ls77 hl78 => ?_)
          obtain ⟨tg126, y127, x128, ho129, hf130⟩ := ob3_ex hf75
          have kx75_1 : ∀ (H131 : Heap) (L132 : List Loc) (ls133 : Array Slot), va_P D cls_all (wM ca am I19 J20) H131 → va_S A s.heap H131 L132 → lv_has ls133 7 [(0, .ref (am 0)), (2, .long y127), (4, .int x38), (5, .int x39)] → W p l e R s m args below meth c H131 L132 0 0 Q (F0 m 119 ls133 []) := by
            intro H131 L132 ls133 hP134 hS135 hl136
            refine lv_iload hx hb d_M_numberOf_119 (lv_at hl136 2 rfl) ?_
            refine lv_iconst (v := 1) hx hb d_M_numberOf_121 (by decide) ?_
            refine lv_aload_n hx hb d_M_numberOf_122 rfl (lv_at hl136 0 rfl) ?_
            refine va_get (D := D) (ci := 6) (v := .ref (am 13)) (C := R_M) (T := F_M) (N := 24) hx hb hts (fun w h => List.mem_cons_of_mem _ (uw_M w h)) hown hK hP134 0 rfl rfl 17 (by decide) (hts _ (List.mem_cons_of_mem _ tb_617)) (fun _ h => h) rfl d_M_numberOf_123 ?_
            refine lv_iload hx hb d_M_numberOf_126 (lv_at hl136 3 rfl) ?_
            obtain ⟨hg137, hf138⟩ := grd_ex hf130
            refine va_iald hx hb hK hP134 13 2 rfl rfl (inB_in hg137) d_M_numberOf_128 ?_
            refine lv_ishl hx hb d_M_numberOf_129 ?_
            refine lv_ior hx hb d_M_numberOf_130 ?_
            obtain ⟨x139, e140, hf141⟩ := bnd_ex hf138
            refine jd_tni e140 ?_
            refine lv_istore hx hb d_M_numberOf_131 hl136 (by decide) (lv' := [(4, .int x139), (0, .ref (am 0)), (2, .long y127), (5, .int x39)]) rfl (fun ls142 hl143 => ?_)
            obtain ⟨x144, e145, hf146⟩ := bnd_ex hf141
            refine lv_iinc hx hb d_M_numberOf_133 hl143 (k := 3) rfl (v := x144) (by rw [e145]; rfl) (by decide) (lv' := [(5, .int x144), (4, .int x139), (0, .ref (am 0)), (2, .long y127)]) rfl (fun ls147 hl148 => ?_)
            refine lv_goto (tgt := 30) hx hb d_M_numberOf_136 rfl ?_
            cases hf146
            exact hc33 rfl H131 L132 ls147 hP134 hS135 (lv_sub hl148 [2, 3, 1, 0] rfl)
          refine iter_ind (C := fun z : Int64 × Int32 => ∀ (H85 : Heap) (L86 : List Loc) (ls87 : Array Slot), va_P D cls_all (wM ca am I19 J20) H85 → va_S A s.heap H85 L86 → lv_has ls87 7 [(0, .ref (am 0)), (2, .long z.1), (4, .int x38), (5, .int x39), (6, .int z.2)] → W p l e R s m args below meth c H85 L86 0 0 Q (F0 m 75 ls87 [])) (fun z82 o81 hz92 hc79 he80 => ?_) _ _ ho129 H70 L71 ls77 hP72 hS73 (lv_sub hl78 [1, 2, 3, 4, 0] rfl)
          obtain ⟨y83, x84⟩ := z82
          intro H85 L86 ls87 hP88 hS89 hl90
          have hf91 : fm_M_numberOf_B75 I19 J20 x38 x39 y83 x84 = some o81 := hz92
          unfold fm_M_numberOf_B75 at hf91
          refine lv_iload hx hb d_M_numberOf_75 (lv_at hl90 4 rfl) ?_
          refine lv_aload_n hx hb d_M_numberOf_77 rfl (lv_at hl90 0 rfl) ?_
          refine va_get (D := D) (ci := 6) (v := .ref (am 13)) (C := R_M) (T := F_M) (N := 24) hx hb hts (fun w h => List.mem_cons_of_mem _ (uw_M w h)) hown hK hP88 0 rfl rfl 17 (by decide) (hts _ (List.mem_cons_of_mem _ tb_617)) (fun _ h => h) rfl d_M_numberOf_78 ?_
          refine lv_iload hx hb d_M_numberOf_81 (lv_at hl90 3 rfl) ?_
          obtain ⟨hg93, hf94⟩ := grd_ex hf91
          refine va_iald hx hb hK hP88 13 2 rfl rfl (inB_in hg93) d_M_numberOf_83 ?_
          refine lv_icmp_ge (tgt := 119) hx hb d_M_numberOf_84 rfl (fun h95 => ?_) (fun h95 => ?_)
          · have hf96 := ifp hf94 h95
            cases hf96
            have e98 := he80 (by show (1 : Nat) ≠ 0; decide)
            cases e98
            exact kx75_1 H85 L86 ls87 hP88 hS89 (lv_sub hl90 [0, 1, 2, 3] rfl)
          · have hf97 := ifn hf94 h95
            refine lv_aload_n hx hb d_M_numberOf_87 rfl (lv_at hl90 0 rfl) ?_
            refine lv_iload hx hb d_M_numberOf_88 (lv_at hl90 2 rfl) ?_
            refine lv_iload hx hb d_M_numberOf_90 (lv_at hl90 4 rfl) ?_
            obtain ⟨x99, hc100, hf101⟩ := ob1_ex hf97
            refine jd_ci (va_runV (As := [.int x38, .int x84]) (rest := []) cx (cm_M_mayCome l D ca am hc100 H85.size) (cwV 2 hts (jd_gV tb_734 tb_735 tb_32 tb_47 tb_736) rfl rfl rfl ⟨rfl, by decide, by decide, rfl⟩ (by rw [hR]; decide)) ⟨jd_blind nWc, (va_recv hK hP88 (ci := 6) (q0 := 0) rfl rfl), (jd_pre (av := [.ref (am 0), .int x38, .int x84]) hP88 hK (hD I19 J20) (fun U h => nWm h hN))⟩ rfl rfl hl90.1 rfl (lv_room (Nat.le_of_ble_eq_true rfl)) d_M_numberOf_92 ⟨Nat.zero_le _, Nat.zero_le _⟩) hS89 (hD I19 J20) hA (fun H102 L103 hP104 hS105 => ?_)
            refine lv_if_eq (tgt := 113) hx hb d_M_numberOf_95 rfl (fun h106 => ?_) (fun h106 => ?_)
            · have hf107 := ifp hf101 h106
              obtain ⟨x109, e110, hf111⟩ := bnd_ex hf107
              refine lv_iinc hx hb d_M_numberOf_113 hl90 (k := 4) rfl (v := x109) (by rw [e110]; rfl) (by decide) (lv' := [(6, .int x109), (0, .ref (am 0)), (2, .long y83), (4, .int x38), (5, .int x39)]) rfl (fun ls112 hl113 => ?_)
              refine lv_goto (tgt := 75) hx hb d_M_numberOf_116 rfl ?_
              cases hf111
              exact hc79 rfl H102 L103 ls112 hP104 hS105 (lv_sub hl113 [1, 2, 3, 4, 0] rfl)
            · have hf108 := ifn hf101 h106
              refine lv_lload_n hx hb d_M_numberOf_98 rfl (lv_at hl90 1 rfl) ?_
              refine lv_aload_n hx hb d_M_numberOf_99 rfl (lv_at hl90 0 rfl) ?_
              refine va_get (D := D) (ci := 6) (v := .ref (am 10)) (C := R_M) (T := F_M) (N := 24) hx hb hts (fun w h => List.mem_cons_of_mem _ (uw_M w h)) hown hK hP104 0 rfl rfl 13 (by decide) (hts _ (List.mem_cons_of_mem _ tb_613)) (fun _ h => h) rfl d_M_numberOf_100 ?_
              refine lv_iload hx hb d_M_numberOf_103 (lv_at hl90 2 rfl) ?_
              refine lv_iconst (v := 1) hx hb d_M_numberOf_105 (by decide) ?_
              refine lv_iload hx hb d_M_numberOf_106 (lv_at hl90 4 rfl) ?_
              refine lv_ishl hx hb d_M_numberOf_108 ?_
              refine lv_ior hx hb d_M_numberOf_109 ?_
              obtain ⟨hg114, hf115⟩ := grd_ex hf108
              refine va_lald hx hb hK hP104 10 3 rfl rfl (inB_in hg114) d_M_numberOf_110 ?_
              refine lv_ladd hx hb d_M_numberOf_111 ?_
              obtain ⟨y116, e117, hf118⟩ := bnd_ex hf115
              refine jd_tnl e117 ?_
              refine lv_lstore_n hx hb d_M_numberOf_112 rfl hl90 (by decide) (lv' := [(2, .long y116), (0, .ref (am 0)), (4, .int x38), (5, .int x39), (6, .int x84)]) rfl (fun ls119 hl120 => ?_)
              obtain ⟨x121, e122, hf123⟩ := bnd_ex hf118
              refine lv_iinc hx hb d_M_numberOf_113 hl120 (k := 4) rfl (v := x121) (by rw [e122]; rfl) (by decide) (lv' := [(6, .int x121), (2, .long y116), (0, .ref (am 0)), (4, .int x38), (5, .int x39)]) rfl (fun ls124 hl125 => ?_)
              refine lv_goto (tgt := 75) hx hb d_M_numberOf_116 rfl ?_
              cases hf123
              exact hc79 rfl H102 L103 ls124 hP104 hS105 (lv_sub hl125 [2, 1, 3, 4, 0] rfl)
        · have hf76 := ifp hf69 h74
          cases hf76
          have e149 := he34 (by show (2 : Nat) ≠ 0; decide)
          cases e149
          exact kx30_2 rfl H70 L71 ls42 hP72 hS73 (lv_sub hl45 [] rfl)
  · have hf18 := ifp hf11 h16
    refine lv_ldc2 (v := -1) hx hb hown (hts _ (List.mem_cons_of_mem _ tb_771)) d_M_numberOf_13 ?_
    cases hf18
    exact hend H12 L13 16 ls hP14 hS15 d_M_numberOf_16
theorem d_M_ask_0 : decode b_M_ask 0 = .ok (.aload_n 0, 1) := by decide +kernel
theorem d_M_ask_1 : decode b_M_ask 1 = .ok (.iconst 0, 1) := by decide +kernel
theorem d_M_ask_2 : decode b_M_ask 2 = .ok (.putfield 7, 3) := by decide +kernel
theorem d_M_ask_5 : decode b_M_ask 5 = .ok (.aload_n 0, 1) := by decide +kernel
theorem d_M_ask_6 : decode b_M_ask 6 = .ok (.iload_n 1, 1) := by decide +kernel
theorem d_M_ask_7 : decode b_M_ask 7 = .ok (.invokevirtual 131, 3) := by decide +kernel
theorem d_M_ask_10 : decode b_M_ask 10 = .ok (.ifCond .eq 12, 3) := by decide +kernel
theorem d_M_ask_13 : decode b_M_ask 13 = .ok (.iload_n 2, 1) := by decide +kernel
theorem d_M_ask_14 : decode b_M_ask 14 = .ok (.ifCond .lt 8, 3) := by decide +kernel
theorem d_M_ask_17 : decode b_M_ask 17 = .ok (.iload_n 2, 1) := by decide +kernel
theorem d_M_ask_18 : decode b_M_ask 18 = .ok (.iconst 1, 1) := by decide +kernel
theorem d_M_ask_19 : decode b_M_ask 19 = .ok (.if_icmp .le 5, 3) := by decide +kernel
theorem d_M_ask_22 : decode b_M_ask 22 = .ok (.iconst (-1), 1) := by decide +kernel
theorem d_M_ask_23 : decode b_M_ask 23 = .ok (.ireturn, 1) := by decide +kernel
theorem d_M_ask_24 : decode b_M_ask 24 = .ok (.aload_n 0, 1) := by decide +kernel
theorem d_M_ask_25 : decode b_M_ask 25 = .ok (.iload_n 1, 1) := by decide +kernel
theorem d_M_ask_26 : decode b_M_ask 26 = .ok (.invokevirtual 148, 3) := by decide +kernel
theorem d_M_ask_29 : decode b_M_ask 29 = .ok (.iconst (-1), 1) := by decide +kernel
theorem d_M_ask_30 : decode b_M_ask 30 = .ok (.istore_n 3, 1) := by decide +kernel
theorem d_M_ask_31 : decode b_M_ask 31 = .ok (.lconst 0, 1) := by decide +kernel
theorem d_M_ask_32 : decode b_M_ask 32 = .ok (.lstore 4, 2) := by decide +kernel
theorem d_M_ask_34 : decode b_M_ask 34 = .ok (.iconst 0, 1) := by decide +kernel
theorem d_M_ask_35 : decode b_M_ask 35 = .ok (.istore 6, 2) := by decide +kernel
theorem d_M_ask_37 : decode b_M_ask 37 = .ok (.iload 6, 2) := by decide +kernel
theorem d_M_ask_39 : decode b_M_ask 39 = .ok (.bipush 16, 2) := by decide +kernel
theorem d_M_ask_41 : decode b_M_ask 41 = .ok (.if_icmp .ge 162, 3) := by decide +kernel
theorem d_M_ask_44 : decode b_M_ask 44 = .ok (.iload 6, 2) := by decide +kernel
theorem d_M_ask_46 : decode b_M_ask 46 = .ok (.iconst 1, 1) := by decide +kernel
theorem d_M_ask_47 : decode b_M_ask 47 = .ok (.iadd, 1) := by decide +kernel
theorem d_M_ask_48 : decode b_M_ask 48 = .ok (.istore 7, 2) := by decide +kernel
theorem d_M_ask_50 : decode b_M_ask 50 = .ok (.iload 7, 2) := by decide +kernel
theorem d_M_ask_52 : decode b_M_ask 52 = .ok (.bipush 16, 2) := by decide +kernel
theorem d_M_ask_54 : decode b_M_ask 54 = .ok (.if_icmp .ge 143, 3) := by decide +kernel
theorem d_M_ask_57 : decode b_M_ask 57 = .ok (.aload_n 0, 1) := by decide +kernel
theorem d_M_ask_58 : decode b_M_ask 58 = .ok (.getfield 36, 3) := by decide +kernel
theorem d_M_ask_61 : decode b_M_ask 61 = .ok (.iload 6, 2) := by decide +kernel
theorem d_M_ask_63 : decode b_M_ask 63 = .ok (.ishr, 1) := by decide +kernel
theorem d_M_ask_64 : decode b_M_ask 64 = .ok (.iconst 1, 1) := by decide +kernel
theorem d_M_ask_65 : decode b_M_ask 65 = .ok (.iand, 1) := by decide +kernel
theorem d_M_ask_66 : decode b_M_ask 66 = .ok (.iconst 1, 1) := by decide +kernel
theorem d_M_ask_67 : decode b_M_ask 67 = .ok (.if_icmp .ne 50, 3) := by decide +kernel
theorem d_M_ask_70 : decode b_M_ask 70 = .ok (.aload_n 0, 1) := by decide +kernel
theorem d_M_ask_71 : decode b_M_ask 71 = .ok (.getfield 36, 3) := by decide +kernel
theorem d_M_ask_74 : decode b_M_ask 74 = .ok (.iload 7, 2) := by decide +kernel
theorem d_M_ask_76 : decode b_M_ask 76 = .ok (.ishr, 1) := by decide +kernel
theorem d_M_ask_77 : decode b_M_ask 77 = .ok (.iconst 1, 1) := by decide +kernel
theorem d_M_ask_78 : decode b_M_ask 78 = .ok (.iand, 1) := by decide +kernel
theorem d_M_ask_79 : decode b_M_ask 79 = .ok (.iconst 1, 1) := by decide +kernel
theorem d_M_ask_80 : decode b_M_ask 80 = .ok (.if_icmp .ne 37, 3) := by decide +kernel
theorem d_M_ask_83 : decode b_M_ask 83 = .ok (.aload_n 0, 1) := by decide +kernel
theorem d_M_ask_84 : decode b_M_ask 84 = .ok (.getfield 39, 3) := by decide +kernel
theorem d_M_ask_87 : decode b_M_ask 87 = .ok (.iload 6, 2) := by decide +kernel
theorem d_M_ask_89 : decode b_M_ask 89 = .ok (.iaload, 1) := by decide +kernel
theorem d_M_ask_90 : decode b_M_ask 90 = .ok (.iload 7, 2) := by decide +kernel
theorem d_M_ask_92 : decode b_M_ask 92 = .ok (.ishr, 1) := by decide +kernel
theorem d_M_ask_93 : decode b_M_ask 93 = .ok (.iconst 1, 1) := by decide +kernel
theorem d_M_ask_94 : decode b_M_ask 94 = .ok (.iand, 1) := by decide +kernel
theorem d_M_ask_95 : decode b_M_ask 95 = .ok (.ifCond .ne 22, 3) := by decide +kernel
theorem d_M_ask_98 : decode b_M_ask 98 = .ok (.aload_n 0, 1) := by decide +kernel
theorem d_M_ask_99 : decode b_M_ask 99 = .ok (.getfield 39, 3) := by decide +kernel
theorem d_M_ask_102 : decode b_M_ask 102 = .ok (.iload 7, 2) := by decide +kernel
theorem d_M_ask_104 : decode b_M_ask 104 = .ok (.iaload, 1) := by decide +kernel
theorem d_M_ask_105 : decode b_M_ask 105 = .ok (.iload 6, 2) := by decide +kernel
theorem d_M_ask_107 : decode b_M_ask 107 = .ok (.ishr, 1) := by decide +kernel
theorem d_M_ask_108 : decode b_M_ask 108 = .ok (.iconst 1, 1) := by decide +kernel
theorem d_M_ask_109 : decode b_M_ask 109 = .ok (.iand, 1) := by decide +kernel
theorem d_M_ask_110 : decode b_M_ask 110 = .ok (.ifCond .ne 7, 3) := by decide +kernel
theorem d_M_ask_113 : decode b_M_ask 113 = .ok (.iconst 1, 1) := by decide +kernel
theorem d_M_ask_114 : decode b_M_ask 114 = .ok (.goto 4, 3) := by decide +kernel
theorem d_M_ask_117 : decode b_M_ask 117 = .ok (.iconst 0, 1) := by decide +kernel
theorem d_M_ask_118 : decode b_M_ask 118 = .ok (.istore 8, 2) := by decide +kernel
theorem d_M_ask_120 : decode b_M_ask 120 = .ok (.aload_n 0, 1) := by decide +kernel
theorem d_M_ask_121 : decode b_M_ask 121 = .ok (.getfield 81, 3) := by decide +kernel
theorem d_M_ask_124 : decode b_M_ask 124 = .ok (.bipush 16, 2) := by decide +kernel
theorem d_M_ask_126 : decode b_M_ask 126 = .ok (.iload 6, 2) := by decide +kernel
theorem d_M_ask_128 : decode b_M_ask 128 = .ok (.imul, 1) := by decide +kernel
theorem d_M_ask_129 : decode b_M_ask 129 = .ok (.iload 7, 2) := by decide +kernel
theorem d_M_ask_131 : decode b_M_ask 131 = .ok (.iadd, 1) := by decide +kernel
theorem d_M_ask_132 : decode b_M_ask 132 = .ok (.laload, 1) := by decide +kernel
theorem d_M_ask_133 : decode b_M_ask 133 = .ok (.aload_n 0, 1) := by decide +kernel
theorem d_M_ask_134 : decode b_M_ask 134 = .ok (.getfield 81, 3) := by decide +kernel
theorem d_M_ask_137 : decode b_M_ask 137 = .ok (.bipush 16, 2) := by decide +kernel
theorem d_M_ask_139 : decode b_M_ask 139 = .ok (.iload 7, 2) := by decide +kernel
theorem d_M_ask_141 : decode b_M_ask 141 = .ok (.imul, 1) := by decide +kernel
theorem d_M_ask_142 : decode b_M_ask 142 = .ok (.iload 6, 2) := by decide +kernel
theorem d_M_ask_144 : decode b_M_ask 144 = .ok (.iadd, 1) := by decide +kernel
theorem d_M_ask_145 : decode b_M_ask 145 = .ok (.laload, 1) := by decide +kernel
theorem d_M_ask_146 : decode b_M_ask 146 = .ok (.lsub, 1) := by decide +kernel
theorem d_M_ask_147 : decode b_M_ask 147 = .ok (.lstore 9, 2) := by decide +kernel
theorem d_M_ask_149 : decode b_M_ask 149 = .ok (.lload 9, 2) := by decide +kernel
theorem d_M_ask_151 : decode b_M_ask 151 = .ok (.lconst 0, 1) := by decide +kernel
theorem d_M_ask_152 : decode b_M_ask 152 = .ok (.lcmp, 1) := by decide +kernel
theorem d_M_ask_153 : decode b_M_ask 153 = .ok (.ifCond .ge 8, 3) := by decide +kernel
theorem d_M_ask_156 : decode b_M_ask 156 = .ok (.lload 9, 2) := by decide +kernel
theorem d_M_ask_158 : decode b_M_ask 158 = .ok (.lneg, 1) := by decide +kernel
theorem d_M_ask_159 : decode b_M_ask 159 = .ok (.lstore 9, 2) := by decide +kernel
theorem d_M_ask_161 : decode b_M_ask 161 = .ok (.iload 8, 2) := by decide +kernel
theorem d_M_ask_163 : decode b_M_ask 163 = .ok (.ifCond .eq 28, 3) := by decide +kernel
theorem d_M_ask_166 : decode b_M_ask 166 = .ok (.iload_n 3, 1) := by decide +kernel
theorem d_M_ask_167 : decode b_M_ask 167 = .ok (.ifCond .lt 11, 3) := by decide +kernel
theorem d_M_ask_170 : decode b_M_ask 170 = .ok (.lload 9, 2) := by decide +kernel
theorem d_M_ask_172 : decode b_M_ask 172 = .ok (.lload 4, 2) := by decide +kernel
theorem d_M_ask_174 : decode b_M_ask 174 = .ok (.lcmp, 1) := by decide +kernel
theorem d_M_ask_175 : decode b_M_ask 175 = .ok (.ifCond .ge 16, 3) := by decide +kernel
theorem d_M_ask_178 : decode b_M_ask 178 = .ok (.bipush 16, 2) := by decide +kernel
theorem d_M_ask_180 : decode b_M_ask 180 = .ok (.iload 6, 2) := by decide +kernel
theorem d_M_ask_182 : decode b_M_ask 182 = .ok (.imul, 1) := by decide +kernel
theorem d_M_ask_183 : decode b_M_ask 183 = .ok (.iload 7, 2) := by decide +kernel
theorem d_M_ask_185 : decode b_M_ask 185 = .ok (.iadd, 1) := by decide +kernel
theorem d_M_ask_186 : decode b_M_ask 186 = .ok (.istore_n 3, 1) := by decide +kernel
theorem d_M_ask_187 : decode b_M_ask 187 = .ok (.lload 9, 2) := by decide +kernel
theorem d_M_ask_189 : decode b_M_ask 189 = .ok (.lstore 4, 2) := by decide +kernel
theorem d_M_ask_191 : decode b_M_ask 191 = .ok (.iinc 7 1, 3) := by decide +kernel
theorem d_M_ask_194 : decode b_M_ask 194 = .ok (.goto (-144), 3) := by decide +kernel
theorem d_M_ask_197 : decode b_M_ask 197 = .ok (.iinc 6 1, 3) := by decide +kernel
theorem d_M_ask_200 : decode b_M_ask 200 = .ok (.goto (-163), 3) := by decide +kernel
theorem d_M_ask_203 : decode b_M_ask 203 = .ok (.iload_n 3, 1) := by decide +kernel
theorem d_M_ask_204 : decode b_M_ask 204 = .ok (.ifCond .ge 7, 3) := by decide +kernel
theorem d_M_ask_207 : decode b_M_ask 207 = .ok (.iconst (-1), 1) := by decide +kernel
theorem d_M_ask_208 : decode b_M_ask 208 = .ok (.goto 18, 3) := by decide +kernel
theorem d_M_ask_211 : decode b_M_ask 211 = .ok (.iload_n 2, 1) := by decide +kernel
theorem d_M_ask_212 : decode b_M_ask 212 = .ok (.ifCond .ne 10, 3) := by decide +kernel
theorem d_M_ask_215 : decode b_M_ask 215 = .ok (.iload_n 3, 1) := by decide +kernel
theorem d_M_ask_216 : decode b_M_ask 216 = .ok (.bipush 16, 2) := by decide +kernel
theorem d_M_ask_218 : decode b_M_ask 218 = .ok (.idiv, 1) := by decide +kernel
theorem d_M_ask_219 : decode b_M_ask 219 = .ok (.goto 7, 3) := by decide +kernel
theorem d_M_ask_222 : decode b_M_ask 222 = .ok (.iload_n 3, 1) := by decide +kernel
theorem d_M_ask_223 : decode b_M_ask 223 = .ok (.bipush 16, 2) := by decide +kernel
theorem d_M_ask_225 : decode b_M_ask 225 = .ok (.irem, 1) := by decide +kernel
theorem d_M_ask_226 : decode b_M_ask 226 = .ok (.ireturn, 1) := by decide +kernel
def fm_M_ask_j178 (x45 : Int32) (x78 : Int32) (y79 : Int64) : Option (Nat × Int32 × Int64 × Int32) :=
  bnd (((16 : Int32) * x45) + x78) (fun x87 => bnd (x78 + (1 : Int32)) (fun x94 => some (0, x87, y79, x94)))
def fm_M_ask_j161 (x45 : Int32) (x99 : Int32) (y100 : Int64) (x101 : Int32) (x102 : Int32) (y103 : Int64) : Option (Nat × Int32 × Int64 × Int32) :=
  if x102 = 0 then bnd (x101 + (1 : Int32)) (fun x114 => some (0, x99, y100, x114)) else if x99 < 0 then fm_M_ask_j178 x45 x101 y103 else if 0 ≤ (lg_cmp y103 y100) then bnd (x101 + (1 : Int32)) (fun x125 => some (0, x99, y100, x125)) else fm_M_ask_j178 x45 x101 y103
def fm_M_ask_j118 (J26 : JS) (x45 : Int32) (x130 : Int32) (y131 : Int64) (x132 : Int32) (x133 : Int32) : Option (Nat × Int32 × Int64 × Int32) :=
  grd (inB (((16 : Int32) * x45) + x132) 256) (grd (inB (((16 : Int32) * x132) + x45) 256) (bnd ((J26 2 (((16 : Int32) * x45) + x132).toNatClampNeg) - (J26 2 (((16 : Int32) * x132) + x45).toNatClampNeg)) (fun y147 => if 0 ≤ (lg_cmp y147 (0 : Int64)) then fm_M_ask_j161 x45 x130 y131 x132 x133 y147 else bnd (-y147) (fun y155 => fm_M_ask_j161 x45 x130 y131 x132 x133 y155))))
def fm_M_ask_j117 (J26 : JS) (x45 : Int32) (x160 : Int32) (y161 : Int64) (x162 : Int32) : Option (Nat × Int32 × Int64 × Int32) :=
  fm_M_ask_j118 J26 x45 x160 y161 x162 (0 : Int32)
def fm_M_ask_B50 (I25 : IS) (J26 : JS) (x45 : Int32) (x67 : Int32) (y68 : Int64) (x69 : Int32) : Option (Nat × Int32 × Int64 × Int32) :=
  if (16 : Int32) ≤ x69 then some (1, x67, y68, x69) else if (((I25 8 0) >>> (x45 &&& 31)) &&& (1 : Int32)) = (1 : Int32) then if (((I25 8 0) >>> (x69 &&& 31)) &&& (1 : Int32)) = (1 : Int32) then grd (inB x45 16) (if (((I25 9 x45.toNatClampNeg) >>> (x69 &&& 31)) &&& (1 : Int32)) = 0 then grd (inB x69 16) (if (((I25 9 x69.toNatClampNeg) >>> (x45 &&& 31)) &&& (1 : Int32)) = 0 then fm_M_ask_j118 J26 x45 x67 y68 x69 (1 : Int32) else fm_M_ask_j117 J26 x45 x67 y68 x69) else fm_M_ask_j117 J26 x45 x67 y68 x69) else fm_M_ask_j117 J26 x45 x67 y68 x69 else fm_M_ask_j117 J26 x45 x67 y68 x69
def fm_M_ask_B37 (I25 : IS) (J26 : JS) (x43 : Int32) (y44 : Int64) (x45 : Int32) : Option (Nat × Int32 × Int64 × Int32) :=
  if (16 : Int32) ≤ x45 then some (1, x43, y44, x45) else bnd (x45 + (1 : Int32)) (fun x58 => ob4 (iter (fun z : Int32 × Int64 × Int32 => fm_M_ask_B50 I25 J26 x45 z.1 z.2.1 z.2.2) FU (x43, y44, x58)) (fun _ x191 y192 x193 => bnd (x45 + (1 : Int32)) (fun x202 => some (0, x191, y192, x202))))
def fm_M_ask (p0 : Int32) (p1 : Int32) (I0 : IS) (J0 : JS) : Option (Int32 × IS × JS) :=
  bnd (sV I0 0 (0 : Int32)) (fun I1 => ob1 (fm_M_isHeat p0 I1) (fun x9 => if x9 = 0 then some ((-1 : Int32), I1, J0) else if p1 < 0 then some ((-1 : Int32), I1, J0) else if p1 ≤ (1 : Int32) then ob2 (fm_M_pairs p0 I1 J0) (fun I25 J26 => ob4 (iter (fun z : Int32 × Int64 × Int32 => fm_M_ask_B37 I25 J26 z.1 z.2.1 z.2.2) FU ((-1 : Int32), (0 : Int64), (0 : Int32))) (fun _ x208 y209 x210 => if 0 ≤ x208 then if p1 = 0 then some (x208 / (16 : Int32), I25, J26) else some (x208 - x208 / (16 : Int32) * (16 : Int32), I25, J26) else some ((-1 : Int32), I25, J26))) else some ((-1 : Int32), I1, J0)))
set_option maxHeartbeats 4000000 in
set_option maxRecDepth 100000 in
theorem cm_M_ask (l : Launch) (D : va_G) (ca : Nat → ClassId) (am : Nat → Nat) {p0 : Int32} {p1 : Int32} {I0 : IS} {J0 : JS} {r : Int32 × IS × JS} (hf : fm_M_ask p0 p1 I0 J0 = some r) : CtI l y_M_ask (Cond.code y_M_ask b_M_ask 11 (some .int) :: TB) { frames := 5, cells := 0, slots := 0, locals := 118 } [.ref (am 0), .int p0, .int p1] D cls_all (tysC ca) NN (wM ca am I0 J0) (wM ca am r.2.1 r.2.2) r.1 := by
  refine jd_metI (cc := b_M_ask) (by decide) rfl (Nat.le_of_ble_eq_true rfl) (lv := [(0, .ref (am 0)), (1, .int p0), (2, .int p1)]) rfl ?_
  intro p e R s m args below meth c A Q ls cx hR hK hN hD0 hA hP hS hl hend
  have hx := cx.1
  have hb := cx.2.1
  have hml := cx.2.2.1
  have hown := cx.2.2.2.1
  have hts := cx.2.2.2.2
  have hD : ∀ I J, va_D A (wM ca am I J) := fun I J => jd_Dc hD0 rfl
  unfold fm_M_ask at hf
  refine lv_aload_n hx hb d_M_ask_0 rfl (lv_at hl 0 rfl) ?_
  refine lv_iconst (v := 0) hx hb d_M_ask_1 (by decide) ?_
  obtain ⟨I1, e2, hf3⟩ := bnd_ex hf
  refine va_put (D := D) (ci := 6) (v := .int (0 : Int32)) (ty := .int) (C := R_M) (T := F_M) (N := 24) hx hb hts (fun w h => List.mem_cons_of_mem _ (uw_M w h)) ft_M tk_M n_M hown hK hP (hD I0 J0) hS 0 rfl rfl 0 (by decide) (hts _ (List.mem_cons_of_mem _ tb_600)) (fun _ h => h) rfl (by decide +kernel) rfl rfl (Nat.le_of_ble_eq_true rfl) d_M_ask_2 (fun H4 L5 hp8 _ hS7 => ?_)
  have hP6 : va_P D cls_all (wM ca am I1 J0) H4 := by rw [e2]; exact hp8
  refine lv_aload_n hx hb d_M_ask_5 rfl (lv_at hl 0 rfl) ?_
  refine lv_iload_n hx hb d_M_ask_6 rfl (lv_at hl 1 rfl) ?_
  obtain ⟨x9, hc10, hf11⟩ := ob1_ex hf3
  refine jd_ci (va_runV (As := [.int p0]) (rest := []) cx (cm_M_isHeat l D ca am hc10 H4.size) (cwV 1 hts (jd_gV tb_708 tb_709 tb_30 tb_47 tb_710) rfl rfl rfl ⟨rfl, by decide, by decide, rfl⟩ (by rw [hR]; decide)) ⟨jd_blind nWc, (va_recv hK hP6 (ci := 6) (q0 := 0) rfl rfl), (jd_pre (av := [.ref (am 0), .int p0]) hP6 hK (hD I1 J0) (fun U h => nWm h hN))⟩ rfl rfl hl.1 rfl (lv_room (Nat.le_of_ble_eq_true rfl)) d_M_ask_7 ⟨Nat.zero_le _, Nat.zero_le _⟩) hS7 (hD I1 J0) hA (fun H12 L13 hP14 hS15 => ?_)
  refine lv_if_eq (tgt := 22) hx hb d_M_ask_10 rfl (fun h16 => ?_) (fun h16 => ?_)
  · have hf17 := ifp hf11 h16
    refine lv_iconst (v := -1) hx hb d_M_ask_22 (by decide) ?_
    cases hf17
    exact hend H12 L13 23 ls hP14 hS15 d_M_ask_23
  · have hf18 := ifn hf11 h16
    refine lv_iload_n hx hb d_M_ask_13 rfl (lv_at hl 2 rfl) ?_
    refine lv_if_lt (tgt := 22) hx hb d_M_ask_14 rfl (fun h19 => ?_) (fun h19 => ?_)
    · have hf20 := ifp hf18 h19
      refine lv_iconst (v := -1) hx hb d_M_ask_22 (by decide) ?_
      cases hf20
      exact hend H12 L13 23 ls hP14 hS15 d_M_ask_23
    · have hf21 := ifn hf18 h19
      refine lv_iload_n hx hb d_M_ask_17 rfl (lv_at hl 2 rfl) ?_
      refine lv_iconst (v := 1) hx hb d_M_ask_18 (by decide) ?_
      refine lv_icmp_le (tgt := 24) hx hb d_M_ask_19 rfl (fun h22 => ?_) (fun h22 => ?_)
      · have hf23 := ifp hf21 h22
        refine lv_aload_n hx hb d_M_ask_24 rfl (lv_at hl 0 rfl) ?_
        refine lv_iload_n hx hb d_M_ask_25 rfl (lv_at hl 1 rfl) ?_
        obtain ⟨I25, J26, hc27, hf28⟩ := ob2_ex hf23
        refine jd_cv (va_runV (As := [.int p0]) (rest := []) cx (cm_M_pairs l D ca am hc27 H12.size) (cwV 1 hts (jd_gV tb_776 tb_777 tb_34 tb_47 tb_778) rfl rfl rfl ⟨rfl, by decide, by decide, rfl⟩ (by rw [hR]; decide)) ⟨jd_blind nWc, (va_recv hK hP14 (ci := 6) (q0 := 0) rfl rfl), (jd_pre (av := [.ref (am 0), .int p0]) hP14 hK (hD I1 J0) (fun U h => nWm h hN))⟩ rfl rfl hl.1 rfl (lv_room (Nat.le_of_ble_eq_true rfl)) d_M_ask_26 ⟨Nat.zero_le _, Nat.zero_le _⟩) hS15 (hD I1 J0) hA (fun H29 L30 hP31 hS32 => ?_)
        refine lv_iconst (v := -1) hx hb d_M_ask_29 (by decide) ?_
        refine lv_istore_n hx hb d_M_ask_30 rfl hl (by decide) (lv' := [(3, .int (-1 : Int32)), (0, .ref (am 0)), (1, .int p0), (2, .int p1)]) rfl (fun ls33 hl34 => ?_)
        refine lv_lconst (v := 0) hx hb d_M_ask_31 (by decide) ?_
        refine lv_lstore hx hb d_M_ask_32 hl34 (by decide) (lv' := [(4, .long (0 : Int64)), (3, .int (-1 : Int32)), (0, .ref (am 0)), (1, .int p0), (2, .int p1)]) rfl (fun ls35 hl36 => ?_)
        refine lv_iconst (v := 0) hx hb d_M_ask_34 (by decide) ?_
        refine lv_istore hx hb d_M_ask_35 hl36 (by decide) (lv' := [(6, .int (0 : Int32)), (4, .long (0 : Int64)), (3, .int (-1 : Int32)), (0, .ref (am 0)), (1, .int p0), (2, .int p1)]) rfl (fun ls37 hl38 => ?_)
        obtain ⟨tg207, x208, y209, x210, ho211, hf212⟩ := ob4_ex hf28
        have kx37_1 : ∀ (H213 : Heap) (L214 : List Loc) (ls215 : Array Slot), va_P D cls_all (wM ca am I25 J26) H213 → va_S A s.heap H213 L214 → lv_has ls215 11 [(2, .int p1), (3, .int x208)] → W p l e R s m args below meth c H213 L214 0 0 Q (F0 m 203 ls215 []) := by
          intro H213 L214 ls215 hP216 hS217 hl218
          refine lv_iload_n hx hb d_M_ask_203 rfl (lv_at hl218 1 rfl) ?_
          refine lv_if_ge (tgt := 211) hx hb d_M_ask_204 rfl (fun h219 => ?_) (fun h219 => ?_)
          · have hf220 := ifp hf212 h219
            refine lv_iload_n hx hb d_M_ask_211 rfl (lv_at hl218 0 rfl) ?_
            refine lv_if_ne (tgt := 222) hx hb d_M_ask_212 rfl (fun h222 => ?_) (fun h222 => ?_)
            · have hf223 := ifn hf220 h222
              refine lv_iload_n hx hb d_M_ask_222 rfl (lv_at hl218 1 rfl) ?_
              refine lv_bipush (v := 16) hx hb d_M_ask_223 (by decide) ?_
              refine lv_irem hx hb d_M_ask_225 (by decide) ?_
              cases hf223
              exact hend H213 L214 226 ls215 hP216 hS217 d_M_ask_226
            · have hf224 := ifp hf220 h222
              refine lv_iload_n hx hb d_M_ask_215 rfl (lv_at hl218 1 rfl) ?_
              refine lv_bipush (v := 16) hx hb d_M_ask_216 (by decide) ?_
              refine lv_idiv hx hb d_M_ask_218 (by decide) ?_
              refine lv_goto (tgt := 226) hx hb d_M_ask_219 rfl ?_
              cases hf224
              exact hend H213 L214 226 ls215 hP216 hS217 d_M_ask_226
          · have hf221 := ifn hf212 h219
            refine lv_iconst (v := -1) hx hb d_M_ask_207 (by decide) ?_
            refine lv_goto (tgt := 226) hx hb d_M_ask_208 rfl ?_
            cases hf221
            exact hend H213 L214 226 ls215 hP216 hS217 d_M_ask_226
        refine iter_ind (C := fun z : Int32 × Int64 × Int32 => ∀ (H46 : Heap) (L47 : List Loc) (ls48 : Array Slot), va_P D cls_all (wM ca am I25 J26) H46 → va_S A s.heap H46 L47 → lv_has ls48 11 [(0, .ref (am 0)), (2, .int p1), (3, .int z.1), (4, .long z.2.1), (6, .int z.2.2)] → W p l e R s m args below meth c H46 L47 0 0 Q (F0 m 37 ls48 [])) (fun z42 o41 hz53 hc39 he40 => ?_) _ _ ho211 H29 L30 ls37 hP31 hS32 (lv_sub hl38 [3, 5, 2, 1, 0] rfl)
        obtain ⟨x43, y44, x45⟩ := z42
        intro H46 L47 ls48 hP49 hS50 hl51
        have hf52 : fm_M_ask_B37 I25 J26 x43 y44 x45 = some o41 := hz53
        unfold fm_M_ask_B37 at hf52
        refine lv_iload hx hb d_M_ask_37 (lv_at hl51 4 rfl) ?_
        refine lv_bipush (v := 16) hx hb d_M_ask_39 (by decide) ?_
        refine lv_icmp_ge (tgt := 203) hx hb d_M_ask_41 rfl (fun h54 => ?_) (fun h54 => ?_)
        · have hf55 := ifp hf52 h54
          cases hf55
          have e57 := he40 (by show (1 : Nat) ≠ 0; decide)
          cases e57
          exact kx37_1 H46 L47 ls48 hP49 hS50 (lv_sub hl51 [1, 2] rfl)
        · have hf56 := ifn hf52 h54
          refine lv_iload hx hb d_M_ask_44 (lv_at hl51 4 rfl) ?_
          refine lv_iconst (v := 1) hx hb d_M_ask_46 (by decide) ?_
          refine lv_iadd hx hb d_M_ask_47 ?_
          obtain ⟨x58, e59, hf60⟩ := bnd_ex hf56
          refine jd_tni e59 ?_
          refine lv_istore hx hb d_M_ask_48 hl51 (by decide) (lv' := [(7, .int x58), (0, .ref (am 0)), (2, .int p1), (3, .int x43), (4, .long y44), (6, .int x45)]) rfl (fun ls61 hl62 => ?_)
          obtain ⟨tg190, x191, y192, x193, ho194, hf195⟩ := ob4_ex hf60
          have kx50_1 : ∀ (H196 : Heap) (L197 : List Loc) (ls198 : Array Slot), va_P D cls_all (wM ca am I25 J26) H196 → va_S A s.heap H196 L197 → lv_has ls198 11 [(0, .ref (am 0)), (2, .int p1), (3, .int x191), (4, .long y192), (6, .int x45)] → W p l e R s m args below meth c H196 L197 0 0 Q (F0 m 197 ls198 []) := by
            intro H196 L197 ls198 hP199 hS200 hl201
            obtain ⟨x202, e203, hf204⟩ := bnd_ex hf195
            refine lv_iinc hx hb d_M_ask_197 hl201 (k := 4) rfl (v := x202) (by rw [e203]; rfl) (by decide) (lv' := [(6, .int x202), (0, .ref (am 0)), (2, .int p1), (3, .int x191), (4, .long y192)]) rfl (fun ls205 hl206 => ?_)
            refine lv_goto (tgt := 37) hx hb d_M_ask_200 rfl ?_
            cases hf204
            exact hc39 rfl H196 L197 ls205 hP199 hS200 (lv_sub hl206 [1, 2, 3, 4, 0] rfl)
          refine iter_ind (C := fun z : Int32 × Int64 × Int32 => ∀ (H70 : Heap) (L71 : List Loc) (ls72 : Array Slot), va_P D cls_all (wM ca am I25 J26) H70 → va_S A s.heap H70 L71 → lv_has ls72 11 [(0, .ref (am 0)), (2, .int p1), (3, .int z.1), (4, .long z.2.1), (6, .int x45), (7, .int z.2.2)] → W p l e R s m args below meth c H70 L71 0 0 Q (F0 m 50 ls72 [])) (fun z66 o65 hz77 hc63 he64 => ?_) _ _ ho194 H46 L47 ls61 hP49 hS50 (lv_sub hl62 [1, 2, 3, 4, 5, 0] rfl)
          obtain ⟨x67, y68, x69⟩ := z66
          intro H70 L71 ls72 hP73 hS74 hl75
          have hf76 : fm_M_ask_B50 I25 J26 x45 x67 y68 x69 = some o65 := hz77
          unfold fm_M_ask_B50 at hf76
          have kj178 : ∀ (x78 : Int32) (y79 : Int64), fm_M_ask_j178 x45 x78 y79 = some o65 → ∀ (H80 : Heap) (L81 : List Loc) (ls82 : Array Slot), va_P D cls_all (wM ca am I25 J26) H80 → va_S A s.heap H80 L81 → lv_has ls82 11 [(0, .ref (am 0)), (2, .int p1), (6, .int x45), (7, .int x78), (9, .long y79)] → W p l e R s m args below meth c H80 L81 0 0 Q (F0 m 178 ls82 []) := by
            intro x78 y79 hf86 H80 L81 ls82 hP83 hS84 hl85
            unfold fm_M_ask_j178 at hf86
            refine lv_bipush (v := 16) hx hb d_M_ask_178 (by decide) ?_
            refine lv_iload hx hb d_M_ask_180 (lv_at hl85 2 rfl) ?_
            refine lv_imul hx hb d_M_ask_182 ?_
            refine lv_iload hx hb d_M_ask_183 (lv_at hl85 3 rfl) ?_
            refine lv_iadd hx hb d_M_ask_185 ?_
            obtain ⟨x87, e88, hf89⟩ := bnd_ex hf86
            refine jd_tni e88 ?_
            refine lv_istore_n hx hb d_M_ask_186 rfl hl85 (by decide) (lv' := [(3, .int x87), (0, .ref (am 0)), (2, .int p1), (6, .int x45), (7, .int x78), (9, .long y79)]) rfl (fun ls90 hl91 => ?_)
            refine lv_lload hx hb d_M_ask_187 (lv_at hl91 5 rfl) ?_
            refine lv_lstore hx hb d_M_ask_189 hl91 (by decide) (lv' := [(4, .long y79), (3, .int x87), (0, .ref (am 0)), (2, .int p1), (6, .int x45), (7, .int x78), (9, .long y79)]) rfl (fun ls92 hl93 => ?_)
            obtain ⟨x94, e95, hf96⟩ := bnd_ex hf89
            refine lv_iinc hx hb d_M_ask_191 hl93 (k := 5) rfl (v := x94) (by rw [e95]; rfl) (by decide) (lv' := [(7, .int x94), (4, .long y79), (3, .int x87), (0, .ref (am 0)), (2, .int p1), (6, .int x45), (9, .long y79)]) rfl (fun ls97 hl98 => ?_)
            refine lv_goto (tgt := 50) hx hb d_M_ask_194 rfl ?_
            cases hf96
            exact hc63 rfl H80 L81 ls97 hP83 hS84 (lv_sub hl98 [3, 4, 2, 1, 5, 0] rfl)
          have kj161 : ∀ (x99 : Int32) (y100 : Int64) (x101 : Int32) (x102 : Int32) (y103 : Int64), fm_M_ask_j161 x45 x99 y100 x101 x102 y103 = some o65 → ∀ (H104 : Heap) (L105 : List Loc) (ls106 : Array Slot), va_P D cls_all (wM ca am I25 J26) H104 → va_S A s.heap H104 L105 → lv_has ls106 11 [(0, .ref (am 0)), (2, .int p1), (3, .int x99), (4, .long y100), (6, .int x45), (7, .int x101), (8, .int x102), (9, .long y103)] → W p l e R s m args below meth c H104 L105 0 0 Q (F0 m 161 ls106 []) := by
            intro x99 y100 x101 x102 y103 hf110 H104 L105 ls106 hP107 hS108 hl109
            unfold fm_M_ask_j161 at hf110
            refine lv_iload hx hb d_M_ask_161 (lv_at hl109 6 rfl) ?_
            refine lv_if_eq (tgt := 191) hx hb d_M_ask_163 rfl (fun h111 => ?_) (fun h111 => ?_)
            · have hf112 := ifp hf110 h111
              obtain ⟨x114, e115, hf116⟩ := bnd_ex hf112
              refine lv_iinc hx hb d_M_ask_191 hl109 (k := 5) rfl (v := x114) (by rw [e115]; rfl) (by decide) (lv' := [(7, .int x114), (0, .ref (am 0)), (2, .int p1), (3, .int x99), (4, .long y100), (6, .int x45), (8, .int x102), (9, .long y103)]) rfl (fun ls117 hl118 => ?_)
              refine lv_goto (tgt := 50) hx hb d_M_ask_194 rfl ?_
              cases hf116
              exact hc63 rfl H104 L105 ls117 hP107 hS108 (lv_sub hl118 [1, 2, 3, 4, 5, 0] rfl)
            · have hf113 := ifn hf110 h111
              refine lv_iload_n hx hb d_M_ask_166 rfl (lv_at hl109 2 rfl) ?_
              refine lv_if_lt (tgt := 178) hx hb d_M_ask_167 rfl (fun h119 => ?_) (fun h119 => ?_)
              · have hf120 := ifp hf113 h119
                exact kj178 x101 y103 hf120 H104 L105 ls106 hP107 hS108 (lv_sub hl109 [0, 1, 4, 5, 7] rfl)
              · have hf121 := ifn hf113 h119
                refine lv_lload hx hb d_M_ask_170 (lv_at hl109 7 rfl) ?_
                refine lv_lload hx hb d_M_ask_172 (lv_at hl109 3 rfl) ?_
                refine W.lcmp hx hb d_M_ask_174 ?_
                refine lv_if_ge (tgt := 191) hx hb d_M_ask_175 rfl (fun h122 => ?_) (fun h122 => ?_)
                · have hf123 := ifp hf121 h122
                  obtain ⟨x125, e126, hf127⟩ := bnd_ex hf123
                  refine lv_iinc hx hb d_M_ask_191 hl109 (k := 5) rfl (v := x125) (by rw [e126]; rfl) (by decide) (lv' := [(7, .int x125), (0, .ref (am 0)), (2, .int p1), (3, .int x99), (4, .long y100), (6, .int x45), (8, .int x102), (9, .long y103)]) rfl (fun ls128 hl129 => ?_)
                  refine lv_goto (tgt := 50) hx hb d_M_ask_194 rfl ?_
                  cases hf127
                  exact hc63 rfl H104 L105 ls128 hP107 hS108 (lv_sub hl129 [1, 2, 3, 4, 5, 0] rfl)
                · have hf124 := ifn hf121 h122
                  exact kj178 x101 y103 hf124 H104 L105 ls106 hP107 hS108 (lv_sub hl109 [0, 1, 4, 5, 7] rfl)
          have kj118 : ∀ (x130 : Int32) (y131 : Int64) (x132 : Int32) (x133 : Int32), fm_M_ask_j118 J26 x45 x130 y131 x132 x133 = some o65 → ∀ (H134 : Heap) (L135 : List Loc) (ls136 : Array Slot), va_P D cls_all (wM ca am I25 J26) H134 → va_S A s.heap H134 L135 → lv_has ls136 11 [(0, .ref (am 0)), (2, .int p1), (3, .int x130), (4, .long y131), (6, .int x45), (7, .int x132)] → W p l e R s m args below meth c H134 L135 0 0 Q (F0 m 118 ls136 [.int x133]) := by
            intro x130 y131 x132 x133 hf140 H134 L135 ls136 hP137 hS138 hl139
            unfold fm_M_ask_j118 at hf140
            refine lv_istore hx hb d_M_ask_118 hl139 (by decide) (lv' := [(8, .int x133), (0, .ref (am 0)), (2, .int p1), (3, .int x130), (4, .long y131), (6, .int x45), (7, .int x132)]) rfl (fun ls141 hl142 => ?_)
            refine lv_aload_n hx hb d_M_ask_120 rfl (lv_at hl142 1 rfl) ?_
            refine va_get (D := D) (ci := 6) (v := .ref (am 18)) (C := R_M) (T := F_M) (N := 24) hx hb hts (fun w h => List.mem_cons_of_mem _ (uw_M w h)) hown hK hP137 0 rfl rfl 22 (by decide) (hts _ (List.mem_cons_of_mem _ tb_622)) (fun _ h => h) rfl d_M_ask_121 ?_
            refine lv_bipush (v := 16) hx hb d_M_ask_124 (by decide) ?_
            refine lv_iload hx hb d_M_ask_126 (lv_at hl142 5 rfl) ?_
            refine lv_imul hx hb d_M_ask_128 ?_
            refine lv_iload hx hb d_M_ask_129 (lv_at hl142 6 rfl) ?_
            refine lv_iadd hx hb d_M_ask_131 ?_
            obtain ⟨hg143, hf144⟩ := grd_ex hf140
            refine va_lald hx hb hK hP137 18 3 rfl rfl (inB_in hg143) d_M_ask_132 ?_
            refine lv_aload_n hx hb d_M_ask_133 rfl (lv_at hl142 1 rfl) ?_
            refine va_get (D := D) (ci := 6) (v := .ref (am 18)) (C := R_M) (T := F_M) (N := 24) hx hb hts (fun w h => List.mem_cons_of_mem _ (uw_M w h)) hown hK hP137 0 rfl rfl 22 (by decide) (hts _ (List.mem_cons_of_mem _ tb_622)) (fun _ h => h) rfl d_M_ask_134 ?_
            refine lv_bipush (v := 16) hx hb d_M_ask_137 (by decide) ?_
            refine lv_iload hx hb d_M_ask_139 (lv_at hl142 6 rfl) ?_
            refine lv_imul hx hb d_M_ask_141 ?_
            refine lv_iload hx hb d_M_ask_142 (lv_at hl142 5 rfl) ?_
            refine lv_iadd hx hb d_M_ask_144 ?_
            obtain ⟨hg145, hf146⟩ := grd_ex hf144
            refine va_lald hx hb hK hP137 18 3 rfl rfl (inB_in hg145) d_M_ask_145 ?_
            refine lv_lsub hx hb d_M_ask_146 ?_
            obtain ⟨y147, e148, hf149⟩ := bnd_ex hf146
            refine jd_tnl e148 ?_
            refine lv_lstore hx hb d_M_ask_147 hl142 (by decide) (lv' := [(9, .long y147), (8, .int x133), (0, .ref (am 0)), (2, .int p1), (3, .int x130), (4, .long y131), (6, .int x45), (7, .int x132)]) rfl (fun ls150 hl151 => ?_)
            refine lv_lload hx hb d_M_ask_149 (lv_at hl151 0 rfl) ?_
            refine lv_lconst (v := 0) hx hb d_M_ask_151 (by decide) ?_
            refine W.lcmp hx hb d_M_ask_152 ?_
            refine lv_if_ge (tgt := 161) hx hb d_M_ask_153 rfl (fun h152 => ?_) (fun h152 => ?_)
            · have hf153 := ifp hf149 h152
              exact kj161 x130 y131 x132 x133 y147 hf153 H134 L135 ls150 hP137 hS138 (lv_sub hl151 [2, 3, 4, 5, 6, 7, 1, 0] rfl)
            · have hf154 := ifn hf149 h152
              refine lv_lload hx hb d_M_ask_156 (lv_at hl151 0 rfl) ?_
              refine lv_lneg hx hb d_M_ask_158 ?_
              obtain ⟨y155, e156, hf157⟩ := bnd_ex hf154
              refine jd_tnl e156 ?_
              refine lv_lstore hx hb d_M_ask_159 hl151 (by decide) (lv' := [(9, .long y155), (8, .int x133), (0, .ref (am 0)), (2, .int p1), (3, .int x130), (4, .long y131), (6, .int x45), (7, .int x132)]) rfl (fun ls158 hl159 => ?_)
              exact kj161 x130 y131 x132 x133 y155 hf157 H134 L135 ls158 hP137 hS138 (lv_sub hl159 [2, 3, 4, 5, 6, 7, 1, 0] rfl)
          have kj117 : ∀ (x160 : Int32) (y161 : Int64) (x162 : Int32), fm_M_ask_j117 J26 x45 x160 y161 x162 = some o65 → ∀ (H163 : Heap) (L164 : List Loc) (ls165 : Array Slot), va_P D cls_all (wM ca am I25 J26) H163 → va_S A s.heap H163 L164 → lv_has ls165 11 [(0, .ref (am 0)), (2, .int p1), (3, .int x160), (4, .long y161), (6, .int x45), (7, .int x162)] → W p l e R s m args below meth c H163 L164 0 0 Q (F0 m 117 ls165 []) := by
            intro x160 y161 x162 hf169 H163 L164 ls165 hP166 hS167 hl168
            unfold fm_M_ask_j117 at hf169
            refine lv_iconst (v := 0) hx hb d_M_ask_117 (by decide) ?_
            exact kj118 x160 y161 x162 (0 : Int32) hf169 H163 L164 ls165 hP166 hS167 (lv_sub hl168 [0, 1, 2, 3, 4, 5] rfl)
          refine lv_iload hx hb d_M_ask_50 (lv_at hl75 5 rfl) ?_
          refine lv_bipush (v := 16) hx hb d_M_ask_52 (by decide) ?_
          refine lv_icmp_ge (tgt := 197) hx hb d_M_ask_54 rfl (fun h170 => ?_) (fun h170 => ?_)
          · have hf171 := ifp hf76 h170
            cases hf171
            have e173 := he64 (by show (1 : Nat) ≠ 0; decide)
            cases e173
            exact kx50_1 H70 L71 ls72 hP73 hS74 (lv_sub hl75 [0, 1, 2, 3, 4] rfl)
          · have hf172 := ifn hf76 h170
            refine lv_aload_n hx hb d_M_ask_57 rfl (lv_at hl75 0 rfl) ?_
            refine va_get (D := D) (ci := 6) (v := .int (I25 8 0)) (C := R_M) (T := F_M) (N := 24) hx hb hts (fun w h => List.mem_cons_of_mem _ (uw_M w h)) hown hK hP73 0 rfl rfl 8 (by decide) (hts _ (List.mem_cons_of_mem _ tb_608)) (fun _ h => h) rfl d_M_ask_58 ?_
            refine lv_iload hx hb d_M_ask_61 (lv_at hl75 4 rfl) ?_
            refine lv_ishr hx hb d_M_ask_63 ?_
            refine lv_iconst (v := 1) hx hb d_M_ask_64 (by decide) ?_
            refine lv_iand hx hb d_M_ask_65 ?_
            refine lv_iconst (v := 1) hx hb d_M_ask_66 (by decide) ?_
            refine lv_icmp_ne (tgt := 117) hx hb d_M_ask_67 rfl (fun h174 => ?_) (fun h174 => ?_)
            · have hf175 := ifn hf172 h174
              exact kj117 x67 y68 x69 hf175 H70 L71 ls72 hP73 hS74 (lv_sub hl75 [0, 1, 2, 3, 4, 5] rfl)
            · have hf176 := ifp hf172 h174
              refine lv_aload_n hx hb d_M_ask_70 rfl (lv_at hl75 0 rfl) ?_
              refine va_get (D := D) (ci := 6) (v := .int (I25 8 0)) (C := R_M) (T := F_M) (N := 24) hx hb hts (fun w h => List.mem_cons_of_mem _ (uw_M w h)) hown hK hP73 0 rfl rfl 8 (by decide) (hts _ (List.mem_cons_of_mem _ tb_608)) (fun _ h => h) rfl d_M_ask_71 ?_
              refine lv_iload hx hb d_M_ask_74 (lv_at hl75 5 rfl) ?_
              refine lv_ishr hx hb d_M_ask_76 ?_
              refine lv_iconst (v := 1) hx hb d_M_ask_77 (by decide) ?_
              refine lv_iand hx hb d_M_ask_78 ?_
              refine lv_iconst (v := 1) hx hb d_M_ask_79 (by decide) ?_
              refine lv_icmp_ne (tgt := 117) hx hb d_M_ask_80 rfl (fun h177 => ?_) (fun h177 => ?_)
              · have hf178 := ifn hf176 h177
                exact kj117 x67 y68 x69 hf178 H70 L71 ls72 hP73 hS74 (lv_sub hl75 [0, 1, 2, 3, 4, 5] rfl)
              · have hf179 := ifp hf176 h177
                refine lv_aload_n hx hb d_M_ask_83 rfl (lv_at hl75 0 rfl) ?_
                refine va_get (D := D) (ci := 6) (v := .ref (am 7)) (C := R_M) (T := F_M) (N := 24) hx hb hts (fun w h => List.mem_cons_of_mem _ (uw_M w h)) hown hK hP73 0 rfl rfl 9 (by decide) (hts _ (List.mem_cons_of_mem _ tb_609)) (fun _ h => h) rfl d_M_ask_84 ?_
                refine lv_iload hx hb d_M_ask_87 (lv_at hl75 4 rfl) ?_
                obtain ⟨hg180, hf181⟩ := grd_ex hf179
                refine va_iald hx hb hK hP73 7 2 rfl rfl (inB_in hg180) d_M_ask_89 ?_
                refine lv_iload hx hb d_M_ask_90 (lv_at hl75 5 rfl) ?_
                refine lv_ishr hx hb d_M_ask_92 ?_
                refine lv_iconst (v := 1) hx hb d_M_ask_93 (by decide) ?_
                refine lv_iand hx hb d_M_ask_94 ?_
                refine lv_if_ne (tgt := 117) hx hb d_M_ask_95 rfl (fun h182 => ?_) (fun h182 => ?_)
                · have hf183 := ifn hf181 h182
                  exact kj117 x67 y68 x69 hf183 H70 L71 ls72 hP73 hS74 (lv_sub hl75 [0, 1, 2, 3, 4, 5] rfl)
                · have hf184 := ifp hf181 h182
                  refine lv_aload_n hx hb d_M_ask_98 rfl (lv_at hl75 0 rfl) ?_
                  refine va_get (D := D) (ci := 6) (v := .ref (am 7)) (C := R_M) (T := F_M) (N := 24) hx hb hts (fun w h => List.mem_cons_of_mem _ (uw_M w h)) hown hK hP73 0 rfl rfl 9 (by decide) (hts _ (List.mem_cons_of_mem _ tb_609)) (fun _ h => h) rfl d_M_ask_99 ?_
                  refine lv_iload hx hb d_M_ask_102 (lv_at hl75 5 rfl) ?_
                  obtain ⟨hg185, hf186⟩ := grd_ex hf184
                  refine va_iald hx hb hK hP73 7 2 rfl rfl (inB_in hg185) d_M_ask_104 ?_
                  refine lv_iload hx hb d_M_ask_105 (lv_at hl75 4 rfl) ?_
                  refine lv_ishr hx hb d_M_ask_107 ?_
                  refine lv_iconst (v := 1) hx hb d_M_ask_108 (by decide) ?_
                  refine lv_iand hx hb d_M_ask_109 ?_
                  refine lv_if_ne (tgt := 117) hx hb d_M_ask_110 rfl (fun h187 => ?_) (fun h187 => ?_)
                  · have hf188 := ifn hf186 h187
                    exact kj117 x67 y68 x69 hf188 H70 L71 ls72 hP73 hS74 (lv_sub hl75 [0, 1, 2, 3, 4, 5] rfl)
                  · have hf189 := ifp hf186 h187
                    refine lv_iconst (v := 1) hx hb d_M_ask_113 (by decide) ?_
                    refine lv_goto (tgt := 118) hx hb d_M_ask_114 rfl ?_
                    exact kj118 x67 y68 x69 (1 : Int32) hf189 H70 L71 ls72 hP73 hS74 (lv_sub hl75 [0, 1, 2, 3, 4, 5] rfl)
      · have hf24 := ifn hf21 h22
        refine lv_iconst (v := -1) hx hb d_M_ask_22 (by decide) ?_
        cases hf24
        exact hend H12 L13 23 ls hP14 hS15 d_M_ask_23
theorem d_M_tie_0 : decode b_M_tie 0 = .ok (.aload_n 0, 1) := by decide +kernel
theorem d_M_tie_1 : decode b_M_tie 1 = .ok (.iconst 0, 1) := by decide +kernel
theorem d_M_tie_2 : decode b_M_tie 2 = .ok (.putfield 7, 3) := by decide +kernel
theorem d_M_tie_5 : decode b_M_tie 5 = .ok (.aload_n 0, 1) := by decide +kernel
theorem d_M_tie_6 : decode b_M_tie 6 = .ok (.iload_n 1, 1) := by decide +kernel
theorem d_M_tie_7 : decode b_M_tie 7 = .ok (.invokevirtual 131, 3) := by decide +kernel
theorem d_M_tie_10 : decode b_M_tie 10 = .ok (.ifCond .ne 5, 3) := by decide +kernel
theorem d_M_tie_13 : decode b_M_tie 13 = .ok (.iconst 0, 1) := by decide +kernel
theorem d_M_tie_14 : decode b_M_tie 14 = .ok (.ireturn, 1) := by decide +kernel
theorem d_M_tie_15 : decode b_M_tie 15 = .ok (.aload_n 0, 1) := by decide +kernel
theorem d_M_tie_16 : decode b_M_tie 16 = .ok (.iload_n 1, 1) := by decide +kernel
theorem d_M_tie_17 : decode b_M_tie 17 = .ok (.invokevirtual 151, 3) := by decide +kernel
theorem d_M_tie_20 : decode b_M_tie 20 = .ok (.aload_n 0, 1) := by decide +kernel
theorem d_M_tie_21 : decode b_M_tie 21 = .ok (.getfield 84, 3) := by decide +kernel
theorem d_M_tie_24 : decode b_M_tie 24 = .ok (.invokestatic 112, 3) := by decide +kernel
theorem d_M_tie_27 : decode b_M_tie 27 = .ok (.ireturn, 1) := by decide +kernel
def fm_M_tie (p0 : Int32) (I0 : IS) : Option (Int32 × IS) :=
  bnd (sV I0 0 (0 : Int32)) (fun I1 => ob1 (fm_M_isHeat p0 I1) (fun x9 => if x9 = 0 then some ((0 : Int32), I1) else ob1 (fm_M_widest p0 I1) (fun I19 => ob1 (fm_M_bits (I19 20 0)) (fun x26 => some (x26, I19)))))
set_option maxHeartbeats 4000000 in
set_option maxRecDepth 100000 in
theorem cm_M_tie (l : Launch) (D : va_G) (ca : Nat → ClassId) (am : Nat → Nat) {p0 : Int32} {I0 : IS} {J0 : JS} {r : Int32 × IS} (hf : fm_M_tie p0 I0 = some r) : CtI l y_M_tie (Cond.code y_M_tie b_M_tie 2 (some .int) :: TB) { frames := 4, cells := 0, slots := 0, locals := 92 } [.ref (am 0), .int p0] D cls_all (tysC ca) NN (wM ca am I0 J0) (wM ca am r.2 J0) r.1 := by
  refine jd_metI (cc := b_M_tie) (by decide) rfl (Nat.le_of_ble_eq_true rfl) (lv := [(0, .ref (am 0)), (1, .int p0)]) rfl ?_
  intro p e R s m args below meth c A Q ls cx hR hK hN hD0 hA hP hS hl hend
  have hx := cx.1
  have hb := cx.2.1
  have hml := cx.2.2.1
  have hown := cx.2.2.2.1
  have hts := cx.2.2.2.2
  have hD : ∀ I J, va_D A (wM ca am I J) := fun I J => jd_Dc hD0 rfl
  unfold fm_M_tie at hf
  refine lv_aload_n hx hb d_M_tie_0 rfl (lv_at hl 0 rfl) ?_
  refine lv_iconst (v := 0) hx hb d_M_tie_1 (by decide) ?_
  obtain ⟨I1, e2, hf3⟩ := bnd_ex hf
  refine va_put (D := D) (ci := 6) (v := .int (0 : Int32)) (ty := .int) (C := R_M) (T := F_M) (N := 24) hx hb hts (fun w h => List.mem_cons_of_mem _ (uw_M w h)) ft_M tk_M n_M hown hK hP (hD I0 J0) hS 0 rfl rfl 0 (by decide) (hts _ (List.mem_cons_of_mem _ tb_600)) (fun _ h => h) rfl (by decide +kernel) rfl rfl (Nat.le_of_ble_eq_true rfl) d_M_tie_2 (fun H4 L5 hp8 _ hS7 => ?_)
  have hP6 : va_P D cls_all (wM ca am I1 J0) H4 := by rw [e2]; exact hp8
  refine lv_aload_n hx hb d_M_tie_5 rfl (lv_at hl 0 rfl) ?_
  refine lv_iload_n hx hb d_M_tie_6 rfl (lv_at hl 1 rfl) ?_
  obtain ⟨x9, hc10, hf11⟩ := ob1_ex hf3
  refine jd_ci (va_runV (As := [.int p0]) (rest := []) cx (cm_M_isHeat l D ca am hc10 H4.size) (cwV 1 hts (jd_gV tb_708 tb_709 tb_30 tb_47 tb_710) rfl rfl rfl ⟨rfl, by decide, by decide, rfl⟩ (by rw [hR]; decide)) ⟨jd_blind nWc, (va_recv hK hP6 (ci := 6) (q0 := 0) rfl rfl), (jd_pre (av := [.ref (am 0), .int p0]) hP6 hK (hD I1 J0) (fun U h => nWm h hN))⟩ rfl rfl hl.1 rfl (lv_room (Nat.le_of_ble_eq_true rfl)) d_M_tie_7 ⟨Nat.zero_le _, Nat.zero_le _⟩) hS7 (hD I1 J0) hA (fun H12 L13 hP14 hS15 => ?_)
  refine lv_if_ne (tgt := 15) hx hb d_M_tie_10 rfl (fun h16 => ?_) (fun h16 => ?_)
  · have hf17 := ifn hf11 h16
    refine lv_aload_n hx hb d_M_tie_15 rfl (lv_at hl 0 rfl) ?_
    refine lv_iload_n hx hb d_M_tie_16 rfl (lv_at hl 1 rfl) ?_
    obtain ⟨I19, hc20, hf21⟩ := ob1_ex hf17
    refine jd_cv (va_runV (As := [.int p0]) (rest := []) cx (cm_M_widest l D ca am hc20 H12.size) (cwV 1 hts (jd_gV tb_783 tb_784 tb_35 tb_47 tb_785) rfl rfl rfl ⟨rfl, by decide, by decide, rfl⟩ (by rw [hR]; decide)) ⟨jd_blind nWc, (va_recv hK hP14 (ci := 6) (q0 := 0) rfl rfl), (jd_pre (av := [.ref (am 0), .int p0]) hP14 hK (hD I1 J0) (fun U h => nWm h hN))⟩ rfl rfl hl.1 rfl (lv_room (Nat.le_of_ble_eq_true rfl)) d_M_tie_17 ⟨Nat.zero_le _, Nat.zero_le _⟩) hS15 (hD I1 J0) hA (fun H22 L23 hP24 hS25 => ?_)
    refine lv_aload_n hx hb d_M_tie_20 rfl (lv_at hl 0 rfl) ?_
    refine va_get (D := D) (ci := 6) (v := .int (I19 20 0)) (C := R_M) (T := F_M) (N := 24) hx hb hts (fun w h => List.mem_cons_of_mem _ (uw_M w h)) hown hK hP24 0 rfl rfl 23 (by decide) (hts _ (List.mem_cons_of_mem _ tb_623)) (fun _ h => h) rfl d_M_tie_21 ?_
    obtain ⟨x26, hc27, hf28⟩ := ob1_ex hf21
    refine jd_ci (va_runS (As := [.int (I19 20 0)]) (rest := []) cx (cm_M_bits l D ca (wM ca am I19 J0) (I0 := I19) (J0 := J0) hc27 H22.size) (va_cwS 1 hts (jd_gS2 tb_715 tb_716 tb_47 tb_717) rfl rfl rfl ⟨by decide, by decide, rfl⟩ (by rw [hR]; decide)) ⟨jd_blind nWc, (jd_pre (av := [.int (I19 20 0)]) hP24 hK (hD I19 J0) (fun U h => nWm h hN))⟩ rfl rfl hl.1 rfl (lv_room (Nat.le_of_ble_eq_true rfl)) d_M_tie_24 ⟨Nat.zero_le _, Nat.zero_le _⟩) hS25 (hD I19 J0) hA (fun H29 L30 hP31 hS32 => ?_)
    cases hf28
    exact hend H29 L30 27 ls hP31 hS32 d_M_tie_27
  · have hf18 := ifp hf11 h16
    refine lv_iconst (v := 0) hx hb d_M_tie_13 (by decide) ?_
    cases hf18
    exact hend H12 L13 14 ls hP14 hS15 d_M_tie_14
theorem d_M_tieEntry_0 : decode b_M_tieEntry 0 = .ok (.aload_n 0, 1) := by decide +kernel
theorem d_M_tieEntry_1 : decode b_M_tieEntry 1 = .ok (.iconst 0, 1) := by decide +kernel
theorem d_M_tieEntry_2 : decode b_M_tieEntry 2 = .ok (.putfield 7, 3) := by decide +kernel
theorem d_M_tieEntry_5 : decode b_M_tieEntry 5 = .ok (.aload_n 0, 1) := by decide +kernel
theorem d_M_tieEntry_6 : decode b_M_tieEntry 6 = .ok (.iload_n 1, 1) := by decide +kernel
theorem d_M_tieEntry_7 : decode b_M_tieEntry 7 = .ok (.invokevirtual 131, 3) := by decide +kernel
theorem d_M_tieEntry_10 : decode b_M_tieEntry 10 = .ok (.ifCond .eq 7, 3) := by decide +kernel
theorem d_M_tieEntry_13 : decode b_M_tieEntry 13 = .ok (.iload_n 2, 1) := by decide +kernel
theorem d_M_tieEntry_14 : decode b_M_tieEntry 14 = .ok (.ifCond .ge 5, 3) := by decide +kernel
theorem d_M_tieEntry_17 : decode b_M_tieEntry 17 = .ok (.iconst (-1), 1) := by decide +kernel
theorem d_M_tieEntry_18 : decode b_M_tieEntry 18 = .ok (.ireturn, 1) := by decide +kernel
theorem d_M_tieEntry_19 : decode b_M_tieEntry 19 = .ok (.aload_n 0, 1) := by decide +kernel
theorem d_M_tieEntry_20 : decode b_M_tieEntry 20 = .ok (.iload_n 1, 1) := by decide +kernel
theorem d_M_tieEntry_21 : decode b_M_tieEntry 21 = .ok (.invokevirtual 151, 3) := by decide +kernel
theorem d_M_tieEntry_24 : decode b_M_tieEntry 24 = .ok (.iconst 0, 1) := by decide +kernel
theorem d_M_tieEntry_25 : decode b_M_tieEntry 25 = .ok (.istore_n 3, 1) := by decide +kernel
theorem d_M_tieEntry_26 : decode b_M_tieEntry 26 = .ok (.iconst 0, 1) := by decide +kernel
theorem d_M_tieEntry_27 : decode b_M_tieEntry 27 = .ok (.istore 4, 2) := by decide +kernel
theorem d_M_tieEntry_29 : decode b_M_tieEntry 29 = .ok (.iload 4, 2) := by decide +kernel
theorem d_M_tieEntry_31 : decode b_M_tieEntry 31 = .ok (.bipush 16, 2) := by decide +kernel
theorem d_M_tieEntry_33 : decode b_M_tieEntry 33 = .ok (.if_icmp .ge 33, 3) := by decide +kernel
theorem d_M_tieEntry_36 : decode b_M_tieEntry 36 = .ok (.aload_n 0, 1) := by decide +kernel
theorem d_M_tieEntry_37 : decode b_M_tieEntry 37 = .ok (.getfield 84, 3) := by decide +kernel
theorem d_M_tieEntry_40 : decode b_M_tieEntry 40 = .ok (.iload 4, 2) := by decide +kernel
theorem d_M_tieEntry_42 : decode b_M_tieEntry 42 = .ok (.ishr, 1) := by decide +kernel
theorem d_M_tieEntry_43 : decode b_M_tieEntry 43 = .ok (.iconst 1, 1) := by decide +kernel
theorem d_M_tieEntry_44 : decode b_M_tieEntry 44 = .ok (.iand, 1) := by decide +kernel
theorem d_M_tieEntry_45 : decode b_M_tieEntry 45 = .ok (.iconst 1, 1) := by decide +kernel
theorem d_M_tieEntry_46 : decode b_M_tieEntry 46 = .ok (.if_icmp .ne 14, 3) := by decide +kernel
theorem d_M_tieEntry_49 : decode b_M_tieEntry 49 = .ok (.iload_n 3, 1) := by decide +kernel
theorem d_M_tieEntry_50 : decode b_M_tieEntry 50 = .ok (.iload_n 2, 1) := by decide +kernel
theorem d_M_tieEntry_51 : decode b_M_tieEntry 51 = .ok (.if_icmp .ne 6, 3) := by decide +kernel
theorem d_M_tieEntry_54 : decode b_M_tieEntry 54 = .ok (.iload 4, 2) := by decide +kernel
theorem d_M_tieEntry_56 : decode b_M_tieEntry 56 = .ok (.ireturn, 1) := by decide +kernel
theorem d_M_tieEntry_57 : decode b_M_tieEntry 57 = .ok (.iinc 3 1, 3) := by decide +kernel
theorem d_M_tieEntry_60 : decode b_M_tieEntry 60 = .ok (.iinc 4 1, 3) := by decide +kernel
theorem d_M_tieEntry_63 : decode b_M_tieEntry 63 = .ok (.goto (-34), 3) := by decide +kernel
theorem d_M_tieEntry_66 : decode b_M_tieEntry 66 = .ok (.iconst (-1), 1) := by decide +kernel
theorem d_M_tieEntry_67 : decode b_M_tieEntry 67 = .ok (.ireturn, 1) := by decide +kernel
def fm_M_tieEntry_B29 (p1 : Int32) (I22 : IS) (x37 : Int32) (x38 : Int32) : Option (Nat × Int32 × Int32) :=
  if (16 : Int32) ≤ x38 then some (1, x37, x38) else if (((I22 20 0) >>> (x38 &&& 31)) &&& (1 : Int32)) = (1 : Int32) then if x37 = p1 then some (2, x37, x38) else bnd (x37 + (1 : Int32)) (fun x62 => bnd (x38 + (1 : Int32)) (fun x67 => some (0, x62, x67))) else bnd (x38 + (1 : Int32)) (fun x54 => some (0, x37, x54))
def fm_M_tieEntry (p0 : Int32) (p1 : Int32) (I0 : IS) : Option (Int32 × IS) :=
  bnd (sV I0 0 (0 : Int32)) (fun I1 => ob1 (fm_M_isHeat p0 I1) (fun x9 => if x9 = 0 then some ((-1 : Int32), I1) else if 0 ≤ p1 then ob1 (fm_M_widest p0 I1) (fun I22 => ob3 (iter (fun z : Int32 × Int32 => fm_M_tieEntry_B29 p1 I22 z.1 z.2) FU ((0 : Int32), (0 : Int32))) (fun tg73 x74 x75 => if tg73 = 1 then some ((-1 : Int32), I22) else some (x75, I22))) else some ((-1 : Int32), I1)))
set_option maxHeartbeats 4000000 in
set_option maxRecDepth 100000 in
theorem cm_M_tieEntry (l : Launch) (D : va_G) (ca : Nat → ClassId) (am : Nat → Nat) {p0 : Int32} {p1 : Int32} {I0 : IS} {J0 : JS} {r : Int32 × IS} (hf : fm_M_tieEntry p0 p1 I0 = some r) : CtI l y_M_tieEntry (Cond.code y_M_tieEntry b_M_tieEntry 5 (some .int) :: TB) { frames := 4, cells := 0, slots := 0, locals := 92 } [.ref (am 0), .int p0, .int p1] D cls_all (tysC ca) NN (wM ca am I0 J0) (wM ca am r.2 J0) r.1 := by
  refine jd_metI (cc := b_M_tieEntry) (by decide) rfl (Nat.le_of_ble_eq_true rfl) (lv := [(0, .ref (am 0)), (1, .int p0), (2, .int p1)]) rfl ?_
  intro p e R s m args below meth c A Q ls cx hR hK hN hD0 hA hP hS hl hend
  have hx := cx.1
  have hb := cx.2.1
  have hml := cx.2.2.1
  have hown := cx.2.2.2.1
  have hts := cx.2.2.2.2
  have hD : ∀ I J, va_D A (wM ca am I J) := fun I J => jd_Dc hD0 rfl
  unfold fm_M_tieEntry at hf
  refine lv_aload_n hx hb d_M_tieEntry_0 rfl (lv_at hl 0 rfl) ?_
  refine lv_iconst (v := 0) hx hb d_M_tieEntry_1 (by decide) ?_
  obtain ⟨I1, e2, hf3⟩ := bnd_ex hf
  refine va_put (D := D) (ci := 6) (v := .int (0 : Int32)) (ty := .int) (C := R_M) (T := F_M) (N := 24) hx hb hts (fun w h => List.mem_cons_of_mem _ (uw_M w h)) ft_M tk_M n_M hown hK hP (hD I0 J0) hS 0 rfl rfl 0 (by decide) (hts _ (List.mem_cons_of_mem _ tb_600)) (fun _ h => h) rfl (by decide +kernel) rfl rfl (Nat.le_of_ble_eq_true rfl) d_M_tieEntry_2 (fun H4 L5 hp8 _ hS7 => ?_)
  have hP6 : va_P D cls_all (wM ca am I1 J0) H4 := by rw [e2]; exact hp8
  refine lv_aload_n hx hb d_M_tieEntry_5 rfl (lv_at hl 0 rfl) ?_
  refine lv_iload_n hx hb d_M_tieEntry_6 rfl (lv_at hl 1 rfl) ?_
  obtain ⟨x9, hc10, hf11⟩ := ob1_ex hf3
  refine jd_ci (va_runV (As := [.int p0]) (rest := []) cx (cm_M_isHeat l D ca am hc10 H4.size) (cwV 1 hts (jd_gV tb_708 tb_709 tb_30 tb_47 tb_710) rfl rfl rfl ⟨rfl, by decide, by decide, rfl⟩ (by rw [hR]; decide)) ⟨jd_blind nWc, (va_recv hK hP6 (ci := 6) (q0 := 0) rfl rfl), (jd_pre (av := [.ref (am 0), .int p0]) hP6 hK (hD I1 J0) (fun U h => nWm h hN))⟩ rfl rfl hl.1 rfl (lv_room (Nat.le_of_ble_eq_true rfl)) d_M_tieEntry_7 ⟨Nat.zero_le _, Nat.zero_le _⟩) hS7 (hD I1 J0) hA (fun H12 L13 hP14 hS15 => ?_)
  refine lv_if_eq (tgt := 17) hx hb d_M_tieEntry_10 rfl (fun h16 => ?_) (fun h16 => ?_)
  · have hf17 := ifp hf11 h16
    refine lv_iconst (v := -1) hx hb d_M_tieEntry_17 (by decide) ?_
    cases hf17
    exact hend H12 L13 18 ls hP14 hS15 d_M_tieEntry_18
  · have hf18 := ifn hf11 h16
    refine lv_iload_n hx hb d_M_tieEntry_13 rfl (lv_at hl 2 rfl) ?_
    refine lv_if_ge (tgt := 19) hx hb d_M_tieEntry_14 rfl (fun h19 => ?_) (fun h19 => ?_)
    · have hf20 := ifp hf18 h19
      refine lv_aload_n hx hb d_M_tieEntry_19 rfl (lv_at hl 0 rfl) ?_
      refine lv_iload_n hx hb d_M_tieEntry_20 rfl (lv_at hl 1 rfl) ?_
      obtain ⟨I22, hc23, hf24⟩ := ob1_ex hf20
      refine jd_cv (va_runV (As := [.int p0]) (rest := []) cx (cm_M_widest l D ca am hc23 H12.size) (cwV 1 hts (jd_gV tb_783 tb_784 tb_35 tb_47 tb_785) rfl rfl rfl ⟨rfl, by decide, by decide, rfl⟩ (by rw [hR]; decide)) ⟨jd_blind nWc, (va_recv hK hP14 (ci := 6) (q0 := 0) rfl rfl), (jd_pre (av := [.ref (am 0), .int p0]) hP14 hK (hD I1 J0) (fun U h => nWm h hN))⟩ rfl rfl hl.1 rfl (lv_room (Nat.le_of_ble_eq_true rfl)) d_M_tieEntry_21 ⟨Nat.zero_le _, Nat.zero_le _⟩) hS15 (hD I1 J0) hA (fun H25 L26 hP27 hS28 => ?_)
      refine lv_iconst (v := 0) hx hb d_M_tieEntry_24 (by decide) ?_
      refine lv_istore_n hx hb d_M_tieEntry_25 rfl hl (by decide) (lv' := [(3, .int (0 : Int32)), (0, .ref (am 0)), (1, .int p0), (2, .int p1)]) rfl (fun ls29 hl30 => ?_)
      refine lv_iconst (v := 0) hx hb d_M_tieEntry_26 (by decide) ?_
      refine lv_istore hx hb d_M_tieEntry_27 hl30 (by decide) (lv' := [(4, .int (0 : Int32)), (3, .int (0 : Int32)), (0, .ref (am 0)), (1, .int p0), (2, .int p1)]) rfl (fun ls31 hl32 => ?_)
      obtain ⟨tg73, x74, x75, ho76, hf77⟩ := ob3_ex hf24
      have kx29_1 : tg73 = 1 → ∀ (H78 : Heap) (L79 : List Loc) (ls80 : Array Slot), va_P D cls_all (wM ca am I22 J0) H78 → va_S A s.heap H78 L79 → lv_has ls80 5 [] → W p l e R s m args below meth c H78 L79 0 0 Q (F0 m 66 ls80 []) := by
        intro ht85 H78 L79 ls80 hP81 hS82 hl83
        have hf84 := ifp hf77 ht85
        refine lv_iconst (v := -1) hx hb d_M_tieEntry_66 (by decide) ?_
        cases hf84
        exact hend H78 L79 67 ls80 hP81 hS82 d_M_tieEntry_67
      have kx29_2 : tg73 = 2 → ∀ (H86 : Heap) (L87 : List Loc) (ls88 : Array Slot), va_P D cls_all (wM ca am I22 J0) H86 → va_S A s.heap H86 L87 → lv_has ls88 5 [(4, .int x75)] → W p l e R s m args below meth c H86 L87 0 0 Q (F0 m 54 ls88 []) := by
        intro ht93 H86 L87 ls88 hP89 hS90 hl91
        have hf94 := ifn hf77 (by rw [ht93]; decide)
        have hf92 := hf94
        refine lv_iload hx hb d_M_tieEntry_54 (lv_at hl91 0 rfl) ?_
        cases hf92
        exact hend H86 L87 56 ls88 hP89 hS90 d_M_tieEntry_56
      refine iter_ind (C := fun z : Int32 × Int32 => ∀ (H39 : Heap) (L40 : List Loc) (ls41 : Array Slot), va_P D cls_all (wM ca am I22 J0) H39 → va_S A s.heap H39 L40 → lv_has ls41 5 [(0, .ref (am 0)), (2, .int p1), (3, .int z.1), (4, .int z.2)] → W p l e R s m args below meth c H39 L40 0 0 Q (F0 m 29 ls41 [])) (fun z36 o35 hz46 hc33 he34 => ?_) _ _ ho76 H25 L26 ls31 hP27 hS28 (lv_sub hl32 [2, 4, 1, 0] rfl)
      obtain ⟨x37, x38⟩ := z36
      intro H39 L40 ls41 hP42 hS43 hl44
      have hf45 : fm_M_tieEntry_B29 p1 I22 x37 x38 = some o35 := hz46
      unfold fm_M_tieEntry_B29 at hf45
      refine lv_iload hx hb d_M_tieEntry_29 (lv_at hl44 3 rfl) ?_
      refine lv_bipush (v := 16) hx hb d_M_tieEntry_31 (by decide) ?_
      refine lv_icmp_ge (tgt := 66) hx hb d_M_tieEntry_33 rfl (fun h47 => ?_) (fun h47 => ?_)
      · have hf48 := ifp hf45 h47
        cases hf48
        have e50 := he34 (by show (1 : Nat) ≠ 0; decide)
        cases e50
        exact kx29_1 rfl H39 L40 ls41 hP42 hS43 (lv_sub hl44 [] rfl)
      · have hf49 := ifn hf45 h47
        refine lv_aload_n hx hb d_M_tieEntry_36 rfl (lv_at hl44 0 rfl) ?_
        refine va_get (D := D) (ci := 6) (v := .int (I22 20 0)) (C := R_M) (T := F_M) (N := 24) hx hb hts (fun w h => List.mem_cons_of_mem _ (uw_M w h)) hown hK hP42 0 rfl rfl 23 (by decide) (hts _ (List.mem_cons_of_mem _ tb_623)) (fun _ h => h) rfl d_M_tieEntry_37 ?_
        refine lv_iload hx hb d_M_tieEntry_40 (lv_at hl44 3 rfl) ?_
        refine lv_ishr hx hb d_M_tieEntry_42 ?_
        refine lv_iconst (v := 1) hx hb d_M_tieEntry_43 (by decide) ?_
        refine lv_iand hx hb d_M_tieEntry_44 ?_
        refine lv_iconst (v := 1) hx hb d_M_tieEntry_45 (by decide) ?_
        refine lv_icmp_ne (tgt := 60) hx hb d_M_tieEntry_46 rfl (fun h51 => ?_) (fun h51 => ?_)
        · have hf52 := ifn hf49 h51
          obtain ⟨x54, e55, hf56⟩ := bnd_ex hf52
          refine lv_iinc hx hb d_M_tieEntry_60 hl44 (k := 3) rfl (v := x54) (by rw [e55]; rfl) (by decide) (lv' := [(4, .int x54), (0, .ref (am 0)), (2, .int p1), (3, .int x37)]) rfl (fun ls57 hl58 => ?_)
          refine lv_goto (tgt := 29) hx hb d_M_tieEntry_63 rfl ?_
          cases hf56
          exact hc33 rfl H39 L40 ls57 hP42 hS43 (lv_sub hl58 [1, 2, 3, 0] rfl)
        · have hf53 := ifp hf49 h51
          refine lv_iload_n hx hb d_M_tieEntry_49 rfl (lv_at hl44 2 rfl) ?_
          refine lv_iload_n hx hb d_M_tieEntry_50 rfl (lv_at hl44 1 rfl) ?_
          refine lv_icmp_ne (tgt := 57) hx hb d_M_tieEntry_51 rfl (fun h59 => ?_) (fun h59 => ?_)
          · have hf60 := ifn hf53 h59
            obtain ⟨x62, e63, hf64⟩ := bnd_ex hf60
            refine lv_iinc hx hb d_M_tieEntry_57 hl44 (k := 2) rfl (v := x62) (by rw [e63]; rfl) (by decide) (lv' := [(3, .int x62), (0, .ref (am 0)), (2, .int p1), (4, .int x38)]) rfl (fun ls65 hl66 => ?_)
            obtain ⟨x67, e68, hf69⟩ := bnd_ex hf64
            refine lv_iinc hx hb d_M_tieEntry_60 hl66 (k := 3) rfl (v := x67) (by rw [e68]; rfl) (by decide) (lv' := [(4, .int x67), (3, .int x62), (0, .ref (am 0)), (2, .int p1)]) rfl (fun ls70 hl71 => ?_)
            refine lv_goto (tgt := 29) hx hb d_M_tieEntry_63 rfl ?_
            cases hf69
            exact hc33 rfl H39 L40 ls70 hP42 hS43 (lv_sub hl71 [2, 3, 1, 0] rfl)
          · have hf61 := ifp hf53 h59
            cases hf61
            have e72 := he34 (by show (2 : Nat) ≠ 0; decide)
            cases e72
            exact kx29_2 rfl H39 L40 ls41 hP42 hS43 (lv_sub hl44 [3] rfl)
    · have hf21 := ifn hf18 h19
      refine lv_iconst (v := -1) hx hb d_M_tieEntry_17 (by decide) ?_
      cases hf21
      exact hend H12 L13 18 ls hP14 hS15 d_M_tieEntry_18
theorem d_M_chains_0 : decode b_M_chains 0 = .ok (.aload_n 0, 1) := by decide +kernel
theorem d_M_chains_1 : decode b_M_chains 1 = .ok (.iconst 0, 1) := by decide +kernel
theorem d_M_chains_2 : decode b_M_chains 2 = .ok (.putfield 7, 3) := by decide +kernel
theorem d_M_chains_5 : decode b_M_chains 5 = .ok (.aload_n 0, 1) := by decide +kernel
theorem d_M_chains_6 : decode b_M_chains 6 = .ok (.iload_n 1, 1) := by decide +kernel
theorem d_M_chains_7 : decode b_M_chains 7 = .ok (.invokevirtual 131, 3) := by decide +kernel
theorem d_M_chains_10 : decode b_M_chains 10 = .ok (.ifCond .ne 5, 3) := by decide +kernel
theorem d_M_chains_13 : decode b_M_chains 13 = .ok (.iconst 0, 1) := by decide +kernel
theorem d_M_chains_14 : decode b_M_chains 14 = .ok (.ireturn, 1) := by decide +kernel
theorem d_M_chains_15 : decode b_M_chains 15 = .ok (.aload_n 0, 1) := by decide +kernel
theorem d_M_chains_16 : decode b_M_chains 16 = .ok (.iload_n 1, 1) := by decide +kernel
theorem d_M_chains_17 : decode b_M_chains 17 = .ok (.invokevirtual 154, 3) := by decide +kernel
theorem d_M_chains_20 : decode b_M_chains 20 = .ok (.ireturn, 1) := by decide +kernel
def fm_M_chains (p0 : Int32) (I0 : IS) : Option (Int32 × IS) :=
  bnd (sV I0 0 (0 : Int32)) (fun I1 => ob1 (fm_M_isHeat p0 I1) (fun x9 => if x9 = 0 then some ((0 : Int32), I1) else ob2 (fm_M_rows p0 I1) (fun x19 I20 => some (x19, I20))))
set_option maxHeartbeats 4000000 in
set_option maxRecDepth 100000 in
theorem cm_M_chains (l : Launch) (D : va_G) (ca : Nat → ClassId) (am : Nat → Nat) {p0 : Int32} {I0 : IS} {J0 : JS} {r : Int32 × IS} (hf : fm_M_chains p0 I0 = some r) : CtI l y_M_chains (Cond.code y_M_chains b_M_chains 2 (some .int) :: TB) { frames := 4, cells := 0, slots := 0, locals := 98 } [.ref (am 0), .int p0] D cls_all (tysC ca) NN (wM ca am I0 J0) (wM ca am r.2 J0) r.1 := by
  refine jd_metI (cc := b_M_chains) (by decide) rfl (Nat.le_of_ble_eq_true rfl) (lv := [(0, .ref (am 0)), (1, .int p0)]) rfl ?_
  intro p e R s m args below meth c A Q ls cx hR hK hN hD0 hA hP hS hl hend
  have hx := cx.1
  have hb := cx.2.1
  have hml := cx.2.2.1
  have hown := cx.2.2.2.1
  have hts := cx.2.2.2.2
  have hD : ∀ I J, va_D A (wM ca am I J) := fun I J => jd_Dc hD0 rfl
  unfold fm_M_chains at hf
  refine lv_aload_n hx hb d_M_chains_0 rfl (lv_at hl 0 rfl) ?_
  refine lv_iconst (v := 0) hx hb d_M_chains_1 (by decide) ?_
  obtain ⟨I1, e2, hf3⟩ := bnd_ex hf
  refine va_put (D := D) (ci := 6) (v := .int (0 : Int32)) (ty := .int) (C := R_M) (T := F_M) (N := 24) hx hb hts (fun w h => List.mem_cons_of_mem _ (uw_M w h)) ft_M tk_M n_M hown hK hP (hD I0 J0) hS 0 rfl rfl 0 (by decide) (hts _ (List.mem_cons_of_mem _ tb_600)) (fun _ h => h) rfl (by decide +kernel) rfl rfl (Nat.le_of_ble_eq_true rfl) d_M_chains_2 (fun H4 L5 hp8 _ hS7 => ?_)
  have hP6 : va_P D cls_all (wM ca am I1 J0) H4 := by rw [e2]; exact hp8
  refine lv_aload_n hx hb d_M_chains_5 rfl (lv_at hl 0 rfl) ?_
  refine lv_iload_n hx hb d_M_chains_6 rfl (lv_at hl 1 rfl) ?_
  obtain ⟨x9, hc10, hf11⟩ := ob1_ex hf3
  refine jd_ci (va_runV (As := [.int p0]) (rest := []) cx (cm_M_isHeat l D ca am hc10 H4.size) (cwV 1 hts (jd_gV tb_708 tb_709 tb_30 tb_47 tb_710) rfl rfl rfl ⟨rfl, by decide, by decide, rfl⟩ (by rw [hR]; decide)) ⟨jd_blind nWc, (va_recv hK hP6 (ci := 6) (q0 := 0) rfl rfl), (jd_pre (av := [.ref (am 0), .int p0]) hP6 hK (hD I1 J0) (fun U h => nWm h hN))⟩ rfl rfl hl.1 rfl (lv_room (Nat.le_of_ble_eq_true rfl)) d_M_chains_7 ⟨Nat.zero_le _, Nat.zero_le _⟩) hS7 (hD I1 J0) hA (fun H12 L13 hP14 hS15 => ?_)
  refine lv_if_ne (tgt := 15) hx hb d_M_chains_10 rfl (fun h16 => ?_) (fun h16 => ?_)
  · have hf17 := ifn hf11 h16
    refine lv_aload_n hx hb d_M_chains_15 rfl (lv_at hl 0 rfl) ?_
    refine lv_iload_n hx hb d_M_chains_16 rfl (lv_at hl 1 rfl) ?_
    obtain ⟨x19, I20, hc21, hf22⟩ := ob2_ex hf17
    refine jd_ci (va_runV (As := [.int p0]) (rest := []) cx (cm_M_rows l D ca am hc21 H12.size) (cwV 1 hts (jd_gV tb_800 tb_801 tb_37 tb_47 tb_802) rfl rfl rfl ⟨rfl, by decide, by decide, rfl⟩ (by rw [hR]; decide)) ⟨jd_blind nWc, (va_recv hK hP14 (ci := 6) (q0 := 0) rfl rfl), (jd_pre (av := [.ref (am 0), .int p0]) hP14 hK (hD I1 J0) (fun U h => nWm h hN))⟩ rfl rfl hl.1 rfl (lv_room (Nat.le_of_ble_eq_true rfl)) d_M_chains_17 ⟨Nat.zero_le _, Nat.zero_le _⟩) hS15 (hD I1 J0) hA (fun H23 L24 hP25 hS26 => ?_)
    cases hf22
    exact hend H23 L24 20 ls hP25 hS26 d_M_chains_20
  · have hf18 := ifp hf11 h16
    refine lv_iconst (v := 0) hx hb d_M_chains_13 (by decide) ?_
    cases hf18
    exact hend H12 L13 14 ls hP14 hS15 d_M_chains_14
theorem d_M_follows_0 : decode b_M_follows 0 = .ok (.aload_n 0, 1) := by decide +kernel
theorem d_M_follows_1 : decode b_M_follows 1 = .ok (.iconst 0, 1) := by decide +kernel
theorem d_M_follows_2 : decode b_M_follows 2 = .ok (.putfield 7, 3) := by decide +kernel
theorem d_M_follows_5 : decode b_M_follows 5 = .ok (.aload_n 0, 1) := by decide +kernel
theorem d_M_follows_6 : decode b_M_follows 6 = .ok (.iload_n 1, 1) := by decide +kernel
theorem d_M_follows_7 : decode b_M_follows 7 = .ok (.iload_n 2, 1) := by decide +kernel
theorem d_M_follows_8 : decode b_M_follows 8 = .ok (.invokevirtual 87, 3) := by decide +kernel
theorem d_M_follows_11 : decode b_M_follows 11 = .ok (.ifCond .ne 5, 3) := by decide +kernel
theorem d_M_follows_14 : decode b_M_follows 14 = .ok (.iconst (-1), 1) := by decide +kernel
theorem d_M_follows_15 : decode b_M_follows 15 = .ok (.ireturn, 1) := by decide +kernel
theorem d_M_follows_16 : decode b_M_follows 16 = .ok (.aload_n 0, 1) := by decide +kernel
theorem d_M_follows_17 : decode b_M_follows 17 = .ok (.iload_n 1, 1) := by decide +kernel
theorem d_M_follows_18 : decode b_M_follows 18 = .ok (.invokevirtual 154, 3) := by decide +kernel
theorem d_M_follows_21 : decode b_M_follows 21 = .ok (.pop, 1) := by decide +kernel
theorem d_M_follows_22 : decode b_M_follows 22 = .ok (.aload_n 0, 1) := by decide +kernel
theorem d_M_follows_23 : decode b_M_follows 23 = .ok (.getfield 69, 3) := by decide +kernel
theorem d_M_follows_26 : decode b_M_follows 26 = .ok (.iload_n 2, 1) := by decide +kernel
theorem d_M_follows_27 : decode b_M_follows 27 = .ok (.iaload, 1) := by decide +kernel
theorem d_M_follows_28 : decode b_M_follows 28 = .ok (.ireturn, 1) := by decide +kernel
def fm_M_follows (p0 : Int32) (p1 : Int32) (I0 : IS) : Option (Int32 × IS) :=
  bnd (sV I0 0 (0 : Int32)) (fun I1 => ob1 (fm_M_there p0 p1 I1) (fun x9 => if x9 = 0 then some ((-1 : Int32), I1) else ob2 (fm_M_rows p0 I1) (fun x19 I20 => grd (inB p1 16) (some (I20 16 p1.toNatClampNeg, I20)))))
set_option maxHeartbeats 4000000 in
set_option maxRecDepth 100000 in
theorem cm_M_follows (l : Launch) (D : va_G) (ca : Nat → ClassId) (am : Nat → Nat) {p0 : Int32} {p1 : Int32} {I0 : IS} {J0 : JS} {r : Int32 × IS} (hf : fm_M_follows p0 p1 I0 = some r) : CtI l y_M_follows (Cond.code y_M_follows b_M_follows 3 (some .int) :: TB) { frames := 4, cells := 0, slots := 0, locals := 98 } [.ref (am 0), .int p0, .int p1] D cls_all (tysC ca) NN (wM ca am I0 J0) (wM ca am r.2 J0) r.1 := by
  refine jd_metI (cc := b_M_follows) (by decide) rfl (Nat.le_of_ble_eq_true rfl) (lv := [(0, .ref (am 0)), (1, .int p0), (2, .int p1)]) rfl ?_
  intro p e R s m args below meth c A Q ls cx hR hK hN hD0 hA hP hS hl hend
  have hx := cx.1
  have hb := cx.2.1
  have hml := cx.2.2.1
  have hown := cx.2.2.2.1
  have hts := cx.2.2.2.2
  have hD : ∀ I J, va_D A (wM ca am I J) := fun I J => jd_Dc hD0 rfl
  unfold fm_M_follows at hf
  refine lv_aload_n hx hb d_M_follows_0 rfl (lv_at hl 0 rfl) ?_
  refine lv_iconst (v := 0) hx hb d_M_follows_1 (by decide) ?_
  obtain ⟨I1, e2, hf3⟩ := bnd_ex hf
  refine va_put (D := D) (ci := 6) (v := .int (0 : Int32)) (ty := .int) (C := R_M) (T := F_M) (N := 24) hx hb hts (fun w h => List.mem_cons_of_mem _ (uw_M w h)) ft_M tk_M n_M hown hK hP (hD I0 J0) hS 0 rfl rfl 0 (by decide) (hts _ (List.mem_cons_of_mem _ tb_600)) (fun _ h => h) rfl (by decide +kernel) rfl rfl (Nat.le_of_ble_eq_true rfl) d_M_follows_2 (fun H4 L5 hp8 _ hS7 => ?_)
  have hP6 : va_P D cls_all (wM ca am I1 J0) H4 := by rw [e2]; exact hp8
  refine lv_aload_n hx hb d_M_follows_5 rfl (lv_at hl 0 rfl) ?_
  refine lv_iload_n hx hb d_M_follows_6 rfl (lv_at hl 1 rfl) ?_
  refine lv_iload_n hx hb d_M_follows_7 rfl (lv_at hl 2 rfl) ?_
  obtain ⟨x9, hc10, hf11⟩ := ob1_ex hf3
  refine jd_ci (va_runV (As := [.int p0, .int p1]) (rest := []) cx (cm_M_there l D ca am hc10 H4.size) (cwV 2 hts (jd_gV tb_684 tb_685 tb_26 tb_47 tb_686) rfl rfl rfl ⟨rfl, by decide, by decide, rfl⟩ (by rw [hR]; decide)) ⟨jd_blind nWc, (va_recv hK hP6 (ci := 6) (q0 := 0) rfl rfl), (jd_pre (av := [.ref (am 0), .int p0, .int p1]) hP6 hK (hD I1 J0) (fun U h => nWm h hN))⟩ rfl rfl hl.1 rfl (lv_room (Nat.le_of_ble_eq_true rfl)) d_M_follows_8 ⟨Nat.zero_le _, Nat.zero_le _⟩) hS7 (hD I1 J0) hA (fun H12 L13 hP14 hS15 => ?_)
  refine lv_if_ne (tgt := 16) hx hb d_M_follows_11 rfl (fun h16 => ?_) (fun h16 => ?_)
  · have hf17 := ifn hf11 h16
    refine lv_aload_n hx hb d_M_follows_16 rfl (lv_at hl 0 rfl) ?_
    refine lv_iload_n hx hb d_M_follows_17 rfl (lv_at hl 1 rfl) ?_
    obtain ⟨x19, I20, hc21, hf22⟩ := ob2_ex hf17
    refine jd_ci (va_runV (As := [.int p0]) (rest := []) cx (cm_M_rows l D ca am hc21 H12.size) (cwV 1 hts (jd_gV tb_800 tb_801 tb_37 tb_47 tb_802) rfl rfl rfl ⟨rfl, by decide, by decide, rfl⟩ (by rw [hR]; decide)) ⟨jd_blind nWc, (va_recv hK hP14 (ci := 6) (q0 := 0) rfl rfl), (jd_pre (av := [.ref (am 0), .int p0]) hP14 hK (hD I1 J0) (fun U h => nWm h hN))⟩ rfl rfl hl.1 rfl (lv_room (Nat.le_of_ble_eq_true rfl)) d_M_follows_18 ⟨Nat.zero_le _, Nat.zero_le _⟩) hS15 (hD I1 J0) hA (fun H23 L24 hP25 hS26 => ?_)
    refine lv_pop hx hb d_M_follows_21 rfl ?_
    refine lv_aload_n hx hb d_M_follows_22 rfl (lv_at hl 0 rfl) ?_
    refine va_get (D := D) (ci := 6) (v := .ref (am 14)) (C := R_M) (T := F_M) (N := 24) hx hb hts (fun w h => List.mem_cons_of_mem _ (uw_M w h)) hown hK hP25 0 rfl rfl 18 (by decide) (hts _ (List.mem_cons_of_mem _ tb_618)) (fun _ h => h) rfl d_M_follows_23 ?_
    refine lv_iload_n hx hb d_M_follows_26 rfl (lv_at hl 2 rfl) ?_
    obtain ⟨hg27, hf28⟩ := grd_ex hf22
    refine va_iald hx hb hK hP25 14 2 rfl rfl (inB_in hg27) d_M_follows_27 ?_
    cases hf28
    exact hend H23 L24 28 ls hP25 hS26 d_M_follows_28
  · have hf18 := ifp hf11 h16
    refine lv_iconst (v := -1) hx hb d_M_follows_14 (by decide) ?_
    cases hf18
    exact hend H12 L13 15 ls hP14 hS15 d_M_follows_15
theorem d_M_count_0 : decode b_M_count 0 = .ok (.aload_n 0, 1) := by decide +kernel
theorem d_M_count_1 : decode b_M_count 1 = .ok (.iconst 0, 1) := by decide +kernel
theorem d_M_count_2 : decode b_M_count 2 = .ok (.putfield 7, 3) := by decide +kernel
theorem d_M_count_5 : decode b_M_count 5 = .ok (.iload_n 2, 1) := by decide +kernel
theorem d_M_count_6 : decode b_M_count 6 = .ok (.ifCond .lt 8, 3) := by decide +kernel
theorem d_M_count_9 : decode b_M_count 9 = .ok (.iload_n 2, 1) := by decide +kernel
theorem d_M_count_10 : decode b_M_count 10 = .ok (.iconst 3, 1) := by decide +kernel
theorem d_M_count_11 : decode b_M_count 11 = .ok (.if_icmp .le 5, 3) := by decide +kernel
theorem d_M_count_14 : decode b_M_count 14 = .ok (.iconst (-1), 1) := by decide +kernel
theorem d_M_count_15 : decode b_M_count 15 = .ok (.ireturn, 1) := by decide +kernel
theorem d_M_count_16 : decode b_M_count 16 = .ok (.aload_n 0, 1) := by decide +kernel
theorem d_M_count_17 : decode b_M_count 17 = .ok (.iload_n 1, 1) := by decide +kernel
theorem d_M_count_18 : decode b_M_count 18 = .ok (.invokevirtual 131, 3) := by decide +kernel
theorem d_M_count_21 : decode b_M_count 21 = .ok (.ifCond .ne 5, 3) := by decide +kernel
theorem d_M_count_24 : decode b_M_count 24 = .ok (.iconst 0, 1) := by decide +kernel
theorem d_M_count_25 : decode b_M_count 25 = .ok (.ireturn, 1) := by decide +kernel
theorem d_M_count_26 : decode b_M_count 26 = .ok (.aload_n 0, 1) := by decide +kernel
theorem d_M_count_27 : decode b_M_count 27 = .ok (.iload_n 1, 1) := by decide +kernel
theorem d_M_count_28 : decode b_M_count 28 = .ok (.invokevirtual 94, 3) := by decide +kernel
theorem d_M_count_31 : decode b_M_count 31 = .ok (.iload_n 2, 1) := by decide +kernel
theorem d_M_count_32 : decode b_M_count 32 = .ok (.ifCond .ne 11, 3) := by decide +kernel
theorem d_M_count_35 : decode b_M_count 35 = .ok (.aload_n 0, 1) := by decide +kernel
theorem d_M_count_36 : decode b_M_count 36 = .ok (.getfield 36, 3) := by decide +kernel
theorem d_M_count_39 : decode b_M_count 39 = .ok (.invokestatic 112, 3) := by decide +kernel
theorem d_M_count_42 : decode b_M_count 42 = .ok (.ireturn, 1) := by decide +kernel
theorem d_M_count_43 : decode b_M_count 43 = .ok (.iload_n 2, 1) := by decide +kernel
theorem d_M_count_44 : decode b_M_count 44 = .ok (.iconst 1, 1) := by decide +kernel
theorem d_M_count_45 : decode b_M_count 45 = .ok (.if_icmp .ne 10, 3) := by decide +kernel
theorem d_M_count_48 : decode b_M_count 48 = .ok (.aload_n 0, 1) := by decide +kernel
theorem d_M_count_49 : decode b_M_count 49 = .ok (.getfield 20, 3) := by decide +kernel
theorem d_M_count_52 : decode b_M_count 52 = .ok (.iload_n 1, 1) := by decide +kernel
theorem d_M_count_53 : decode b_M_count 53 = .ok (.iaload, 1) := by decide +kernel
theorem d_M_count_54 : decode b_M_count 54 = .ok (.ireturn, 1) := by decide +kernel
theorem d_M_count_55 : decode b_M_count 55 = .ok (.iconst 0, 1) := by decide +kernel
theorem d_M_count_56 : decode b_M_count 56 = .ok (.istore_n 3, 1) := by decide +kernel
theorem d_M_count_57 : decode b_M_count 57 = .ok (.iconst 0, 1) := by decide +kernel
theorem d_M_count_58 : decode b_M_count 58 = .ok (.istore 4, 2) := by decide +kernel
theorem d_M_count_60 : decode b_M_count 60 = .ok (.iload 4, 2) := by decide +kernel
theorem d_M_count_62 : decode b_M_count 62 = .ok (.aload_n 0, 1) := by decide +kernel
theorem d_M_count_63 : decode b_M_count 63 = .ok (.getfield 20, 3) := by decide +kernel
theorem d_M_count_66 : decode b_M_count 66 = .ok (.iload_n 1, 1) := by decide +kernel
theorem d_M_count_67 : decode b_M_count 67 = .ok (.iaload, 1) := by decide +kernel
theorem d_M_count_68 : decode b_M_count 68 = .ok (.if_icmp .ge 32, 3) := by decide +kernel
theorem d_M_count_71 : decode b_M_count 71 = .ok (.iload_n 2, 1) := by decide +kernel
theorem d_M_count_72 : decode b_M_count 72 = .ok (.iconst 2, 1) := by decide +kernel
theorem d_M_count_73 : decode b_M_count 73 = .ok (.if_icmp .ne 27, 3) := by decide +kernel
theorem d_M_count_76 : decode b_M_count 76 = .ok (.iload_n 3, 1) := by decide +kernel
theorem d_M_count_77 : decode b_M_count 77 = .ok (.aload_n 0, 1) := by decide +kernel
theorem d_M_count_78 : decode b_M_count 78 = .ok (.iload_n 1, 1) := by decide +kernel
theorem d_M_count_79 : decode b_M_count 79 = .ok (.iload 4, 2) := by decide +kernel
theorem d_M_count_81 : decode b_M_count 81 = .ok (.invokevirtual 91, 3) := by decide +kernel
theorem d_M_count_84 : decode b_M_count 84 = .ok (.ifCond .eq 7, 3) := by decide +kernel
theorem d_M_count_87 : decode b_M_count 87 = .ok (.iconst 1, 1) := by decide +kernel
theorem d_M_count_88 : decode b_M_count 88 = .ok (.goto 4, 3) := by decide +kernel
theorem d_M_count_91 : decode b_M_count 91 = .ok (.iconst 0, 1) := by decide +kernel
theorem d_M_count_92 : decode b_M_count 92 = .ok (.iadd, 1) := by decide +kernel
theorem d_M_count_93 : decode b_M_count 93 = .ok (.istore_n 3, 1) := by decide +kernel
theorem d_M_count_94 : decode b_M_count 94 = .ok (.iinc 4 1, 3) := by decide +kernel
theorem d_M_count_97 : decode b_M_count 97 = .ok (.goto (-37), 3) := by decide +kernel
theorem d_M_count_100 : decode b_M_count 100 = .ok (.iconst 0, 1) := by decide +kernel
theorem d_M_count_101 : decode b_M_count 101 = .ok (.istore 4, 2) := by decide +kernel
theorem d_M_count_103 : decode b_M_count 103 = .ok (.iload 4, 2) := by decide +kernel
theorem d_M_count_105 : decode b_M_count 105 = .ok (.bipush 16, 2) := by decide +kernel
theorem d_M_count_107 : decode b_M_count 107 = .ok (.if_icmp .ge 27, 3) := by decide +kernel
theorem d_M_count_110 : decode b_M_count 110 = .ok (.iload_n 2, 1) := by decide +kernel
theorem d_M_count_111 : decode b_M_count 111 = .ok (.iconst 3, 1) := by decide +kernel
theorem d_M_count_112 : decode b_M_count 112 = .ok (.if_icmp .ne 22, 3) := by decide +kernel
theorem d_M_count_115 : decode b_M_count 115 = .ok (.iload_n 3, 1) := by decide +kernel
theorem d_M_count_116 : decode b_M_count 116 = .ok (.aload_n 0, 1) := by decide +kernel
theorem d_M_count_117 : decode b_M_count 117 = .ok (.getfield 39, 3) := by decide +kernel
theorem d_M_count_120 : decode b_M_count 120 = .ok (.iload 4, 2) := by decide +kernel
theorem d_M_count_122 : decode b_M_count 122 = .ok (.iaload, 1) := by decide +kernel
theorem d_M_count_123 : decode b_M_count 123 = .ok (.invokestatic 112, 3) := by decide +kernel
theorem d_M_count_126 : decode b_M_count 126 = .ok (.iadd, 1) := by decide +kernel
theorem d_M_count_127 : decode b_M_count 127 = .ok (.istore_n 3, 1) := by decide +kernel
theorem d_M_count_128 : decode b_M_count 128 = .ok (.iinc 4 1, 3) := by decide +kernel
theorem d_M_count_131 : decode b_M_count 131 = .ok (.goto (-28), 3) := by decide +kernel
theorem d_M_count_134 : decode b_M_count 134 = .ok (.iload_n 3, 1) := by decide +kernel
theorem d_M_count_135 : decode b_M_count 135 = .ok (.ireturn, 1) := by decide +kernel
def fm_M_count_B103 (p1 : Int32) (I2 : IS) (x16 : Int32) (x17 : Int32) : Option (Nat × Int32 × Int32) :=
  if (16 : Int32) ≤ x17 then some (1, x16, x17) else if p1 = (3 : Int32) then grd (inB x17 16) (ob1 (fm_M_bits (I2 9 x17.toNatClampNeg)) (fun x36 => bnd (x16 + x36) (fun x43 => bnd (x17 + (1 : Int32)) (fun x48 => some (0, x43, x48))))) else some (1, x16, x17)
def fm_M_count_j100 (p1 : Int32) (x1 : Int32) (I2 : IS) : Option (Int32 × IS) :=
  ob3 (iter (fun z : Int32 × Int32 => fm_M_count_B103 p1 I2 z.1 z.2) FU (x1, (0 : Int32))) (fun _ x54 x55 => some (x54, I2))
def fm_M_count_B60 (p0 : Int32) (p1 : Int32) (I88 : IS) (x109 : Int32) (x110 : Int32) : Option (Nat × Int32 × Int32) :=
  grd (inB p0 12) (if (I88 3 p0.toNatClampNeg) ≤ x110 then some (1, x109, x110) else if p1 = (2 : Int32) then ob1 (fm_M_inForce p0 x110 I88) (fun x129 => if x129 = 0 then bnd (x109 + (0 : Int32)) (fun x139 => bnd (x110 + (1 : Int32)) (fun x144 => some (0, x139, x144))) else bnd (x109 + (1 : Int32)) (fun x149 => bnd (x110 + (1 : Int32)) (fun x154 => some (0, x149, x154)))) else some (1, x109, x110))
def fm_M_count (p0 : Int32) (p1 : Int32) (I0 : IS) : Option (Int32 × IS) :=
  bnd (sV I0 0 (0 : Int32)) (fun I64 => if p1 < 0 then some ((-1 : Int32), I64) else if p1 ≤ (3 : Int32) then ob1 (fm_M_isHeat p0 I64) (fun x78 => if x78 = 0 then some ((0 : Int32), I64) else ob1 (fm_M_settle p0 I64) (fun I88 => if p1 = 0 then ob1 (fm_M_bits (I88 8 0)) (fun x172 => some (x172, I88)) else if p1 = (1 : Int32) then grd (inB p0 12) (some (I88 3 p0.toNatClampNeg, I88)) else ob3 (iter (fun z : Int32 × Int32 => fm_M_count_B60 p0 p1 I88 z.1 z.2) FU ((0 : Int32), (0 : Int32))) (fun _ x160 x161 => fm_M_count_j100 p1 x160 I88))) else some ((-1 : Int32), I64))
set_option maxHeartbeats 4000000 in
set_option maxRecDepth 100000 in
theorem cm_M_count (l : Launch) (D : va_G) (ca : Nat → ClassId) (am : Nat → Nat) {p0 : Int32} {p1 : Int32} {I0 : IS} {J0 : JS} {r : Int32 × IS} (hf : fm_M_count p0 p1 I0 = some r) : CtI l y_M_count (Cond.code y_M_count b_M_count 5 (some .int) :: TB) { frames := 3, cells := 0, slots := 0, locals := 68 } [.ref (am 0), .int p0, .int p1] D cls_all (tysC ca) NN (wM ca am I0 J0) (wM ca am r.2 J0) r.1 := by
  refine jd_metI (cc := b_M_count) (by decide) rfl (Nat.le_of_ble_eq_true rfl) (lv := [(0, .ref (am 0)), (1, .int p0), (2, .int p1)]) rfl ?_
  intro p e R s m args below meth c A Q ls cx hR hK hN hD0 hA hP hS hl hend
  have hx := cx.1
  have hb := cx.2.1
  have hml := cx.2.2.1
  have hown := cx.2.2.2.1
  have hts := cx.2.2.2.2
  have hD : ∀ I J, va_D A (wM ca am I J) := fun I J => jd_Dc hD0 rfl
  unfold fm_M_count at hf
  have kj100 : ∀ (x1 : Int32) (I2 : IS), fm_M_count_j100 p1 x1 I2 = some r → ∀ (H3 : Heap) (L4 : List Loc) (ls5 : Array Slot), va_P D cls_all (wM ca am I2 J0) H3 → va_S A s.heap H3 L4 → lv_has ls5 5 [(0, .ref (am 0)), (2, .int p1), (3, .int x1)] → W p l e R s m args below meth c H3 L4 0 0 Q (F0 m 100 ls5 []) := by
    intro x1 I2 hf9 H3 L4 ls5 hP6 hS7 hl8
    unfold fm_M_count_j100 at hf9
    refine lv_iconst (v := 0) hx hb d_M_count_100 (by decide) ?_
    refine lv_istore hx hb d_M_count_101 hl8 (by decide) (lv' := [(4, .int (0 : Int32)), (0, .ref (am 0)), (2, .int p1), (3, .int x1)]) rfl (fun ls10 hl11 => ?_)
    obtain ⟨tg53, x54, x55, ho56, hf57⟩ := ob3_ex hf9
    have kx103_1 : ∀ (H58 : Heap) (L59 : List Loc) (ls60 : Array Slot), va_P D cls_all (wM ca am I2 J0) H58 → va_S A s.heap H58 L59 → lv_has ls60 5 [(3, .int x54)] → W p l e R s m args below meth c H58 L59 0 0 Q (F0 m 134 ls60 []) := by
      intro H58 L59 ls60 hP61 hS62 hl63
      refine lv_iload_n hx hb d_M_count_134 rfl (lv_at hl63 0 rfl) ?_
      cases hf57
      exact hend H58 L59 135 ls60 hP61 hS62 d_M_count_135
    refine iter_ind (C := fun z : Int32 × Int32 => ∀ (H18 : Heap) (L19 : List Loc) (ls20 : Array Slot), va_P D cls_all (wM ca am I2 J0) H18 → va_S A s.heap H18 L19 → lv_has ls20 5 [(0, .ref (am 0)), (2, .int p1), (3, .int z.1), (4, .int z.2)] → W p l e R s m args below meth c H18 L19 0 0 Q (F0 m 103 ls20 [])) (fun z15 o14 hz25 hc12 he13 => ?_) _ _ ho56 H3 L4 ls10 hP6 hS7 (lv_sub hl11 [1, 2, 3, 0] rfl)
    obtain ⟨x16, x17⟩ := z15
    intro H18 L19 ls20 hP21 hS22 hl23
    have hf24 : fm_M_count_B103 p1 I2 x16 x17 = some o14 := hz25
    unfold fm_M_count_B103 at hf24
    refine lv_iload hx hb d_M_count_103 (lv_at hl23 3 rfl) ?_
    refine lv_bipush (v := 16) hx hb d_M_count_105 (by decide) ?_
    refine lv_icmp_ge (tgt := 134) hx hb d_M_count_107 rfl (fun h26 => ?_) (fun h26 => ?_)
    · have hf27 := ifp hf24 h26
      cases hf27
      have e29 := he13 (by show (1 : Nat) ≠ 0; decide)
      cases e29
      exact kx103_1 H18 L19 ls20 hP21 hS22 (lv_sub hl23 [2] rfl)
    · have hf28 := ifn hf24 h26
      refine lv_iload_n hx hb d_M_count_110 rfl (lv_at hl23 1 rfl) ?_
      refine lv_iconst (v := 3) hx hb d_M_count_111 (by decide) ?_
      refine lv_icmp_ne (tgt := 134) hx hb d_M_count_112 rfl (fun h30 => ?_) (fun h30 => ?_)
      · have hf31 := ifn hf28 h30
        cases hf31
        have e33 := he13 (by show (1 : Nat) ≠ 0; decide)
        cases e33
        exact kx103_1 H18 L19 ls20 hP21 hS22 (lv_sub hl23 [2] rfl)
      · have hf32 := ifp hf28 h30
        refine lv_iload_n hx hb d_M_count_115 rfl (lv_at hl23 2 rfl) ?_
        refine lv_aload_n hx hb d_M_count_116 rfl (lv_at hl23 0 rfl) ?_
        refine va_get (D := D) (ci := 6) (v := .ref (am 7)) (C := R_M) (T := F_M) (N := 24) hx hb hts (fun w h => List.mem_cons_of_mem _ (uw_M w h)) hown hK hP21 0 rfl rfl 9 (by decide) (hts _ (List.mem_cons_of_mem _ tb_609)) (fun _ h => h) rfl d_M_count_117 ?_
        refine lv_iload hx hb d_M_count_120 (lv_at hl23 3 rfl) ?_
        obtain ⟨hg34, hf35⟩ := grd_ex hf32
        refine va_iald hx hb hK hP21 7 2 rfl rfl (inB_in hg34) d_M_count_122 ?_
        obtain ⟨x36, hc37, hf38⟩ := ob1_ex hf35
        refine jd_ci (va_runS (As := [.int (I2 9 x17.toNatClampNeg)]) (rest := [.int x16]) cx (cm_M_bits l D ca (wM ca am I2 J0) (I0 := I2) (J0 := J0) hc37 H18.size) (va_cwS 1 hts (jd_gS2 tb_715 tb_716 tb_47 tb_717) rfl rfl rfl ⟨by decide, by decide, rfl⟩ (by rw [hR]; decide)) ⟨jd_blind nWc, (jd_pre (av := [.int (I2 9 x17.toNatClampNeg)]) hP21 hK (hD I2 J0) (fun U h => nWm h hN))⟩ rfl rfl hl23.1 rfl (lv_room (Nat.le_of_ble_eq_true rfl)) d_M_count_123 ⟨Nat.zero_le _, Nat.zero_le _⟩) hS22 (hD I2 J0) hA (fun H39 L40 hP41 hS42 => ?_)
        refine lv_iadd hx hb d_M_count_126 ?_
        obtain ⟨x43, e44, hf45⟩ := bnd_ex hf38
        refine jd_tni e44 ?_
        refine lv_istore_n hx hb d_M_count_127 rfl hl23 (by decide) (lv' := [(3, .int x43), (0, .ref (am 0)), (2, .int p1), (4, .int x17)]) rfl (fun ls46 hl47 => ?_)
        obtain ⟨x48, e49, hf50⟩ := bnd_ex hf45
        refine lv_iinc hx hb d_M_count_128 hl47 (k := 3) rfl (v := x48) (by rw [e49]; rfl) (by decide) (lv' := [(4, .int x48), (3, .int x43), (0, .ref (am 0)), (2, .int p1)]) rfl (fun ls51 hl52 => ?_)
        refine lv_goto (tgt := 103) hx hb d_M_count_131 rfl ?_
        cases hf50
        exact hc12 rfl H39 L40 ls51 hP41 hS42 (lv_sub hl52 [2, 3, 1, 0] rfl)
  refine lv_aload_n hx hb d_M_count_0 rfl (lv_at hl 0 rfl) ?_
  refine lv_iconst (v := 0) hx hb d_M_count_1 (by decide) ?_
  obtain ⟨I64, e65, hf66⟩ := bnd_ex hf
  refine va_put (D := D) (ci := 6) (v := .int (0 : Int32)) (ty := .int) (C := R_M) (T := F_M) (N := 24) hx hb hts (fun w h => List.mem_cons_of_mem _ (uw_M w h)) ft_M tk_M n_M hown hK hP (hD I0 J0) hS 0 rfl rfl 0 (by decide) (hts _ (List.mem_cons_of_mem _ tb_600)) (fun _ h => h) rfl (by decide +kernel) rfl rfl (Nat.le_of_ble_eq_true rfl) d_M_count_2 (fun H67 L68 hp71 _ hS70 => ?_)
  have hP69 : va_P D cls_all (wM ca am I64 J0) H67 := by rw [e65]; exact hp71
  refine lv_iload_n hx hb d_M_count_5 rfl (lv_at hl 2 rfl) ?_
  refine lv_if_lt (tgt := 14) hx hb d_M_count_6 rfl (fun h72 => ?_) (fun h72 => ?_)
  · have hf73 := ifp hf66 h72
    refine lv_iconst (v := -1) hx hb d_M_count_14 (by decide) ?_
    cases hf73
    exact hend H67 L68 15 ls hP69 hS70 d_M_count_15
  · have hf74 := ifn hf66 h72
    refine lv_iload_n hx hb d_M_count_9 rfl (lv_at hl 2 rfl) ?_
    refine lv_iconst (v := 3) hx hb d_M_count_10 (by decide) ?_
    refine lv_icmp_le (tgt := 16) hx hb d_M_count_11 rfl (fun h75 => ?_) (fun h75 => ?_)
    · have hf76 := ifp hf74 h75
      refine lv_aload_n hx hb d_M_count_16 rfl (lv_at hl 0 rfl) ?_
      refine lv_iload_n hx hb d_M_count_17 rfl (lv_at hl 1 rfl) ?_
      obtain ⟨x78, hc79, hf80⟩ := ob1_ex hf76
      refine jd_ci (va_runV (As := [.int p0]) (rest := []) cx (cm_M_isHeat l D ca am hc79 H67.size) (cwV 1 hts (jd_gV tb_708 tb_709 tb_30 tb_47 tb_710) rfl rfl rfl ⟨rfl, by decide, by decide, rfl⟩ (by rw [hR]; decide)) ⟨jd_blind nWc, (va_recv hK hP69 (ci := 6) (q0 := 0) rfl rfl), (jd_pre (av := [.ref (am 0), .int p0]) hP69 hK (hD I64 J0) (fun U h => nWm h hN))⟩ rfl rfl hl.1 rfl (lv_room (Nat.le_of_ble_eq_true rfl)) d_M_count_18 ⟨Nat.zero_le _, Nat.zero_le _⟩) hS70 (hD I64 J0) hA (fun H81 L82 hP83 hS84 => ?_)
      refine lv_if_ne (tgt := 26) hx hb d_M_count_21 rfl (fun h85 => ?_) (fun h85 => ?_)
      · have hf86 := ifn hf80 h85
        refine lv_aload_n hx hb d_M_count_26 rfl (lv_at hl 0 rfl) ?_
        refine lv_iload_n hx hb d_M_count_27 rfl (lv_at hl 1 rfl) ?_
        obtain ⟨I88, hc89, hf90⟩ := ob1_ex hf86
        refine jd_cv (va_runV (As := [.int p0]) (rest := []) cx (cm_M_settle l D ca am hc89 H81.size) (cwV 1 hts (jd_gV tb_687 tb_688 tb_27 tb_47 tb_689) rfl rfl rfl ⟨rfl, by decide, by decide, rfl⟩ (by rw [hR]; decide)) ⟨jd_blind nWc, (va_recv hK hP83 (ci := 6) (q0 := 0) rfl rfl), (jd_pre (av := [.ref (am 0), .int p0]) hP83 hK (hD I64 J0) (fun U h => nWm h hN))⟩ rfl rfl hl.1 rfl (lv_room (Nat.le_of_ble_eq_true rfl)) d_M_count_28 ⟨Nat.zero_le _, Nat.zero_le _⟩) hS84 (hD I64 J0) hA (fun H91 L92 hP93 hS94 => ?_)
        refine lv_iload_n hx hb d_M_count_31 rfl (lv_at hl 2 rfl) ?_
        refine lv_if_ne (tgt := 43) hx hb d_M_count_32 rfl (fun h95 => ?_) (fun h95 => ?_)
        · have hf96 := ifn hf90 h95
          refine lv_iload_n hx hb d_M_count_43 rfl (lv_at hl 2 rfl) ?_
          refine lv_iconst (v := 1) hx hb d_M_count_44 (by decide) ?_
          refine lv_icmp_ne (tgt := 55) hx hb d_M_count_45 rfl (fun h98 => ?_) (fun h98 => ?_)
          · have hf99 := ifn hf96 h98
            refine lv_iconst (v := 0) hx hb d_M_count_55 (by decide) ?_
            refine lv_istore_n hx hb d_M_count_56 rfl hl (by decide) (lv' := [(3, .int (0 : Int32)), (0, .ref (am 0)), (1, .int p0), (2, .int p1)]) rfl (fun ls101 hl102 => ?_)
            refine lv_iconst (v := 0) hx hb d_M_count_57 (by decide) ?_
            refine lv_istore hx hb d_M_count_58 hl102 (by decide) (lv' := [(4, .int (0 : Int32)), (3, .int (0 : Int32)), (0, .ref (am 0)), (1, .int p0), (2, .int p1)]) rfl (fun ls103 hl104 => ?_)
            obtain ⟨tg159, x160, x161, ho162, hf163⟩ := ob3_ex hf99
            have kx60_1 : ∀ (H164 : Heap) (L165 : List Loc) (ls166 : Array Slot), va_P D cls_all (wM ca am I88 J0) H164 → va_S A s.heap H164 L165 → lv_has ls166 5 [(0, .ref (am 0)), (2, .int p1), (3, .int x160)] → W p l e R s m args below meth c H164 L165 0 0 Q (F0 m 100 ls166 []) := by
              intro H164 L165 ls166 hP167 hS168 hl169
              exact kj100 x160 I88 hf163 H164 L165 ls166 hP167 hS168 (lv_sub hl169 [0, 1, 2] rfl)
            refine iter_ind (C := fun z : Int32 × Int32 => ∀ (H111 : Heap) (L112 : List Loc) (ls113 : Array Slot), va_P D cls_all (wM ca am I88 J0) H111 → va_S A s.heap H111 L112 → lv_has ls113 5 [(0, .ref (am 0)), (1, .int p0), (2, .int p1), (3, .int z.1), (4, .int z.2)] → W p l e R s m args below meth c H111 L112 0 0 Q (F0 m 60 ls113 [])) (fun z108 o107 hz118 hc105 he106 => ?_) _ _ ho162 H91 L92 ls103 hP93 hS94 (lv_sub hl104 [2, 3, 4, 1, 0] rfl)
            obtain ⟨x109, x110⟩ := z108
            intro H111 L112 ls113 hP114 hS115 hl116
            have hf117 : fm_M_count_B60 p0 p1 I88 x109 x110 = some o107 := hz118
            unfold fm_M_count_B60 at hf117
            refine lv_iload hx hb d_M_count_60 (lv_at hl116 4 rfl) ?_
            refine lv_aload_n hx hb d_M_count_62 rfl (lv_at hl116 0 rfl) ?_
            refine va_get (D := D) (ci := 6) (v := .ref (am 3)) (C := R_M) (T := F_M) (N := 24) hx hb hts (fun w h => List.mem_cons_of_mem _ (uw_M w h)) hown hK hP114 0 rfl rfl 3 (by decide) (hts _ (List.mem_cons_of_mem _ tb_603)) (fun _ h => h) rfl d_M_count_63 ?_
            refine lv_iload_n hx hb d_M_count_66 rfl (lv_at hl116 1 rfl) ?_
            obtain ⟨hg119, hf120⟩ := grd_ex hf117
            refine va_iald hx hb hK hP114 3 2 rfl rfl (inB_in hg119) d_M_count_67 ?_
            refine lv_icmp_ge (tgt := 100) hx hb d_M_count_68 rfl (fun h121 => ?_) (fun h121 => ?_)
            · have hf122 := ifp hf120 h121
              cases hf122
              have e124 := he106 (by show (1 : Nat) ≠ 0; decide)
              cases e124
              exact kx60_1 H111 L112 ls113 hP114 hS115 (lv_sub hl116 [0, 2, 3] rfl)
            · have hf123 := ifn hf120 h121
              refine lv_iload_n hx hb d_M_count_71 rfl (lv_at hl116 2 rfl) ?_
              refine lv_iconst (v := 2) hx hb d_M_count_72 (by decide) ?_
              refine lv_icmp_ne (tgt := 100) hx hb d_M_count_73 rfl (fun h125 => ?_) (fun h125 => ?_)
              · have hf126 := ifn hf123 h125
                cases hf126
                have e128 := he106 (by show (1 : Nat) ≠ 0; decide)
                cases e128
                exact kx60_1 H111 L112 ls113 hP114 hS115 (lv_sub hl116 [0, 2, 3] rfl)
              · have hf127 := ifp hf123 h125
                refine lv_iload_n hx hb d_M_count_76 rfl (lv_at hl116 3 rfl) ?_
                refine lv_aload_n hx hb d_M_count_77 rfl (lv_at hl116 0 rfl) ?_
                refine lv_iload_n hx hb d_M_count_78 rfl (lv_at hl116 1 rfl) ?_
                refine lv_iload hx hb d_M_count_79 (lv_at hl116 4 rfl) ?_
                obtain ⟨x129, hc130, hf131⟩ := ob1_ex hf127
                refine jd_ci (va_runV (As := [.int p0, .int x110]) (rest := [.int x109]) cx (cm_M_inForce l D ca am hc130 H111.size) (cwV 2 hts (jd_gV tb_690 tb_691 tb_28 tb_47 tb_692) rfl rfl rfl ⟨rfl, by decide, by decide, rfl⟩ (by rw [hR]; decide)) ⟨jd_blind nWc, (va_recv hK hP114 (ci := 6) (q0 := 0) rfl rfl), (jd_pre (av := [.ref (am 0), .int p0, .int x110]) hP114 hK (hD I88 J0) (fun U h => nWm h hN))⟩ rfl rfl hl116.1 rfl (lv_room (Nat.le_of_ble_eq_true rfl)) d_M_count_81 ⟨Nat.zero_le _, Nat.zero_le _⟩) hS115 (hD I88 J0) hA (fun H132 L133 hP134 hS135 => ?_)
                refine lv_if_eq (tgt := 91) hx hb d_M_count_84 rfl (fun h136 => ?_) (fun h136 => ?_)
                · have hf137 := ifp hf131 h136
                  refine lv_iconst (v := 0) hx hb d_M_count_91 (by decide) ?_
                  refine lv_iadd hx hb d_M_count_92 ?_
                  obtain ⟨x139, e140, hf141⟩ := bnd_ex hf137
                  refine jd_tni e140 ?_
                  refine lv_istore_n hx hb d_M_count_93 rfl hl116 (by decide) (lv' := [(3, .int x139), (0, .ref (am 0)), (1, .int p0), (2, .int p1), (4, .int x110)]) rfl (fun ls142 hl143 => ?_)
                  obtain ⟨x144, e145, hf146⟩ := bnd_ex hf141
                  refine lv_iinc hx hb d_M_count_94 hl143 (k := 4) rfl (v := x144) (by rw [e145]; rfl) (by decide) (lv' := [(4, .int x144), (3, .int x139), (0, .ref (am 0)), (1, .int p0), (2, .int p1)]) rfl (fun ls147 hl148 => ?_)
                  refine lv_goto (tgt := 60) hx hb d_M_count_97 rfl ?_
                  cases hf146
                  exact hc105 rfl H132 L133 ls147 hP134 hS135 (lv_sub hl148 [2, 3, 4, 1, 0] rfl)
                · have hf138 := ifn hf131 h136
                  refine lv_iconst (v := 1) hx hb d_M_count_87 (by decide) ?_
                  refine lv_goto (tgt := 92) hx hb d_M_count_88 rfl ?_
                  refine lv_iadd hx hb d_M_count_92 ?_
                  obtain ⟨x149, e150, hf151⟩ := bnd_ex hf138
                  refine jd_tni e150 ?_
                  refine lv_istore_n hx hb d_M_count_93 rfl hl116 (by decide) (lv' := [(3, .int x149), (0, .ref (am 0)), (1, .int p0), (2, .int p1), (4, .int x110)]) rfl (fun ls152 hl153 => ?_)
                  obtain ⟨x154, e155, hf156⟩ := bnd_ex hf151
                  refine lv_iinc hx hb d_M_count_94 hl153 (k := 4) rfl (v := x154) (by rw [e155]; rfl) (by decide) (lv' := [(4, .int x154), (3, .int x149), (0, .ref (am 0)), (1, .int p0), (2, .int p1)]) rfl (fun ls157 hl158 => ?_)
                  refine lv_goto (tgt := 60) hx hb d_M_count_97 rfl ?_
                  cases hf156
                  exact hc105 rfl H132 L133 ls157 hP134 hS135 (lv_sub hl158 [2, 3, 4, 1, 0] rfl)
          · have hf100 := ifp hf96 h98
            refine lv_aload_n hx hb d_M_count_48 rfl (lv_at hl 0 rfl) ?_
            refine va_get (D := D) (ci := 6) (v := .ref (am 3)) (C := R_M) (T := F_M) (N := 24) hx hb hts (fun w h => List.mem_cons_of_mem _ (uw_M w h)) hown hK hP93 0 rfl rfl 3 (by decide) (hts _ (List.mem_cons_of_mem _ tb_603)) (fun _ h => h) rfl d_M_count_49 ?_
            refine lv_iload_n hx hb d_M_count_52 rfl (lv_at hl 1 rfl) ?_
            obtain ⟨hg170, hf171⟩ := grd_ex hf100
            refine va_iald hx hb hK hP93 3 2 rfl rfl (inB_in hg170) d_M_count_53 ?_
            cases hf171
            exact hend H91 L92 54 ls hP93 hS94 d_M_count_54
        · have hf97 := ifp hf90 h95
          refine lv_aload_n hx hb d_M_count_35 rfl (lv_at hl 0 rfl) ?_
          refine va_get (D := D) (ci := 6) (v := .int (I88 8 0)) (C := R_M) (T := F_M) (N := 24) hx hb hts (fun w h => List.mem_cons_of_mem _ (uw_M w h)) hown hK hP93 0 rfl rfl 8 (by decide) (hts _ (List.mem_cons_of_mem _ tb_608)) (fun _ h => h) rfl d_M_count_36 ?_
          obtain ⟨x172, hc173, hf174⟩ := ob1_ex hf97
          refine jd_ci (va_runS (As := [.int (I88 8 0)]) (rest := []) cx (cm_M_bits l D ca (wM ca am I88 J0) (I0 := I88) (J0 := J0) hc173 H91.size) (va_cwS 1 hts (jd_gS2 tb_715 tb_716 tb_47 tb_717) rfl rfl rfl ⟨by decide, by decide, rfl⟩ (by rw [hR]; decide)) ⟨jd_blind nWc, (jd_pre (av := [.int (I88 8 0)]) hP93 hK (hD I88 J0) (fun U h => nWm h hN))⟩ rfl rfl hl.1 rfl (lv_room (Nat.le_of_ble_eq_true rfl)) d_M_count_39 ⟨Nat.zero_le _, Nat.zero_le _⟩) hS94 (hD I88 J0) hA (fun H175 L176 hP177 hS178 => ?_)
          cases hf174
          exact hend H175 L176 42 ls hP177 hS178 d_M_count_42
      · have hf87 := ifp hf80 h85
        refine lv_iconst (v := 0) hx hb d_M_count_24 (by decide) ?_
        cases hf87
        exact hend H81 L82 25 ls hP83 hS84 d_M_count_25
    · have hf77 := ifn hf74 h75
      refine lv_iconst (v := -1) hx hb d_M_count_14 (by decide) ?_
      cases hf77
      exact hend H67 L68 15 ls hP69 hS70 d_M_count_15
