theorem d_M_turnAbout_0 : decode b_M_turnAbout 0 = .ok (.iload_n 1, 1) := by decide +kernel
theorem d_M_turnAbout_1 : decode b_M_turnAbout 1 = .ok (.istore_n 2, 1) := by decide +kernel
theorem d_M_turnAbout_2 : decode b_M_turnAbout 2 = .ok (.iload_n 2, 1) := by decide +kernel
theorem d_M_turnAbout_3 : decode b_M_turnAbout 3 = .ok (.ifCond .lt 38, 3) := by decide +kernel
theorem d_M_turnAbout_6 : decode b_M_turnAbout 6 = .ok (.aload_n 0, 1) := by decide +kernel
theorem d_M_turnAbout_7 : decode b_M_turnAbout 7 = .ok (.getfield 78, 3) := by decide +kernel
theorem d_M_turnAbout_10 : decode b_M_turnAbout 10 = .ok (.iload_n 2, 1) := by decide +kernel
theorem d_M_turnAbout_11 : decode b_M_turnAbout 11 = .ok (.iaload, 1) := by decide +kernel
theorem d_M_turnAbout_12 : decode b_M_turnAbout 12 = .ok (.istore_n 3, 1) := by decide +kernel
theorem d_M_turnAbout_13 : decode b_M_turnAbout 13 = .ok (.aload_n 0, 1) := by decide +kernel
theorem d_M_turnAbout_14 : decode b_M_turnAbout 14 = .ok (.getfield 69, 3) := by decide +kernel
theorem d_M_turnAbout_17 : decode b_M_turnAbout 17 = .ok (.iload_n 3, 1) := by decide +kernel
theorem d_M_turnAbout_18 : decode b_M_turnAbout 18 = .ok (.iaload, 1) := by decide +kernel
theorem d_M_turnAbout_19 : decode b_M_turnAbout 19 = .ok (.istore 4, 2) := by decide +kernel
theorem d_M_turnAbout_21 : decode b_M_turnAbout 21 = .ok (.aload_n 0, 1) := by decide +kernel
theorem d_M_turnAbout_22 : decode b_M_turnAbout 22 = .ok (.getfield 69, 3) := by decide +kernel
theorem d_M_turnAbout_25 : decode b_M_turnAbout 25 = .ok (.iload_n 3, 1) := by decide +kernel
theorem d_M_turnAbout_26 : decode b_M_turnAbout 26 = .ok (.iload_n 2, 1) := by decide +kernel
theorem d_M_turnAbout_27 : decode b_M_turnAbout 27 = .ok (.iastore, 1) := by decide +kernel
theorem d_M_turnAbout_28 : decode b_M_turnAbout 28 = .ok (.aload_n 0, 1) := by decide +kernel
theorem d_M_turnAbout_29 : decode b_M_turnAbout 29 = .ok (.getfield 72, 3) := by decide +kernel
theorem d_M_turnAbout_32 : decode b_M_turnAbout 32 = .ok (.iload_n 2, 1) := by decide +kernel
theorem d_M_turnAbout_33 : decode b_M_turnAbout 33 = .ok (.iload_n 3, 1) := by decide +kernel
theorem d_M_turnAbout_34 : decode b_M_turnAbout 34 = .ok (.iastore, 1) := by decide +kernel
theorem d_M_turnAbout_35 : decode b_M_turnAbout 35 = .ok (.iload 4, 2) := by decide +kernel
theorem d_M_turnAbout_37 : decode b_M_turnAbout 37 = .ok (.istore_n 2, 1) := by decide +kernel
theorem d_M_turnAbout_38 : decode b_M_turnAbout 38 = .ok (.goto (-36), 3) := by decide +kernel
theorem d_M_turnAbout_41 : decode b_M_turnAbout 41 = .ok (.return_, 1) := by decide +kernel
def fm_M_turnAbout_B2  (x7 : Int32) (I8 : IS) : Option (Nat × Int32 × IS) :=
  if x7 < 0 then some (1, x7, I8) else grd (inB x7 16) (bnd (I8 19 x7.toNatClampNeg) (fun x23 => grd (inB x23 16) (bnd (I8 16 x23.toNatClampNeg) (fun x30 => grd (inB x23 16) (bnd (sI I8 16 x23.toNatClampNeg x7) (fun I37 => grd (inB x7 16) (bnd (sI I37 17 x7.toNatClampNeg x23) (fun I47 => some (0, x30, I47)))))))))
def fm_M_turnAbout (p0 : Int32) (I0 : IS) : Option (IS) :=
  ob3 (iter (fun z : Int32 × IS => fm_M_turnAbout_B2 z.1 z.2) FU (p0, I0)) (fun _ x58 I59 => some I59)
set_option maxHeartbeats 4000000 in
set_option maxRecDepth 100000 in
theorem cm_M_turnAbout (l : Launch) (D : va_G) (ca : Nat → ClassId) (am : Nat → Nat) {p0 : Int32} {I0 : IS} {J0 : JS} {r : IS} (hf : fm_M_turnAbout p0 I0 = some r) : CtV l y_M_turnAbout (Cond.code y_M_turnAbout b_M_turnAbout 5 none :: TB) { frames := 0, cells := 0, slots := 0, locals := 0 } [.ref (am 0), .int p0] D cls_all (tysC ca) NN (wM ca am I0 J0) (wM ca am r J0) := by
  refine jd_metV (cc := b_M_turnAbout) (by decide) rfl (Nat.le_of_ble_eq_true rfl) (lv := [(0, .ref (am 0)), (1, .int p0)]) rfl ?_
  intro p e R s m args below meth c A Q ls cx hR hK hN hD0 hA hP hS hl hend
  have hx := cx.1
  have hb := cx.2.1
  have hml := cx.2.2.1
  have hown := cx.2.2.2.1
  have hts := cx.2.2.2.2
  have hD : ∀ I J, va_D A (wM ca am I J) := fun I J => jd_Dc hD0 rfl
  unfold fm_M_turnAbout at hf
  refine lv_iload_n hx hb d_M_turnAbout_0 rfl (lv_at hl 1 rfl) ?_
  refine lv_istore_n hx hb d_M_turnAbout_1 rfl hl (by decide) (lv' := [(2, .int p0), (0, .ref (am 0)), (1, .int p0)]) rfl (fun ls1 hl2 => ?_)
  obtain ⟨tg57, x58, I59, ho60, hf61⟩ := ob3_ex hf
  have kx2_1 : ∀ (H62 : Heap) (L63 : List Loc) (ls64 : Array Slot), va_P D cls_all (wM ca am I59 J0) H62 → va_S A s.heap H62 L63 → lv_has ls64 5 [] → W p l e R s m args below meth c H62 L63 0 0 Q (F0 m 41 ls64 []) := by
    intro H62 L63 ls64 hP65 hS66 hl67
    cases hf61
    exact hend H62 L63 41 ls64 hP65 hS66 d_M_turnAbout_41
  refine iter_ind (C := fun z : Int32 × IS => ∀ (H9 : Heap) (L10 : List Loc) (ls11 : Array Slot), va_P D cls_all (wM ca am z.2 J0) H9 → va_S A s.heap H9 L10 → lv_has ls11 5 [(0, .ref (am 0)), (2, .int z.1)] → W p l e R s m args below meth c H9 L10 0 0 Q (F0 m 2 ls11 [])) (fun z6 o5 hz16 hc3 he4 => ?_) _ _ ho60 s.heap [] ls1 hP hS (lv_sub hl2 [1, 0] rfl)
  obtain ⟨x7, I8⟩ := z6
  intro H9 L10 ls11 hP12 hS13 hl14
  have hf15 : fm_M_turnAbout_B2 x7 I8 = some o5 := hz16
  unfold fm_M_turnAbout_B2 at hf15
  refine lv_iload_n hx hb d_M_turnAbout_2 rfl (lv_at hl14 1 rfl) ?_
  refine lv_if_lt (tgt := 41) hx hb d_M_turnAbout_3 rfl (fun h17 => ?_) (fun h17 => ?_)
  · have hf18 := ifp hf15 h17
    cases hf18
    have e20 := he4 (by show (1 : Nat) ≠ 0; decide)
    cases e20
    exact kx2_1 H9 L10 ls11 hP12 hS13 (lv_sub hl14 [] rfl)
  · have hf19 := ifn hf15 h17
    refine lv_aload_n hx hb d_M_turnAbout_6 rfl (lv_at hl14 0 rfl) ?_
    refine va_get (D := D) (ci := 6) (v := .ref (am 17)) (C := R_M) (T := F_M) (N := 24) hx hb hts (fun w h => List.mem_cons_of_mem _ (uw_M w h)) hown hK hP12 0 rfl rfl 21 (by decide) (hts _ (List.mem_cons_of_mem _ tb_621)) (fun _ h => h) rfl d_M_turnAbout_7 ?_
    refine lv_iload_n hx hb d_M_turnAbout_10 rfl (lv_at hl14 1 rfl) ?_
    obtain ⟨hg21, hf22⟩ := grd_ex hf19
    refine va_iald hx hb hK hP12 17 2 rfl rfl (inB_in hg21) d_M_turnAbout_11 ?_
    obtain ⟨x23, e24, hf25⟩ := bnd_ex hf22
    refine jd_tni e24 ?_
    refine lv_istore_n hx hb d_M_turnAbout_12 rfl hl14 (by decide) (lv' := [(3, .int x23), (0, .ref (am 0)), (2, .int x7)]) rfl (fun ls26 hl27 => ?_)
    refine lv_aload_n hx hb d_M_turnAbout_13 rfl (lv_at hl27 1 rfl) ?_
    refine va_get (D := D) (ci := 6) (v := .ref (am 14)) (C := R_M) (T := F_M) (N := 24) hx hb hts (fun w h => List.mem_cons_of_mem _ (uw_M w h)) hown hK hP12 0 rfl rfl 18 (by decide) (hts _ (List.mem_cons_of_mem _ tb_618)) (fun _ h => h) rfl d_M_turnAbout_14 ?_
    refine lv_iload_n hx hb d_M_turnAbout_17 rfl (lv_at hl27 0 rfl) ?_
    obtain ⟨hg28, hf29⟩ := grd_ex hf25
    refine va_iald hx hb hK hP12 14 2 rfl rfl (inB_in hg28) d_M_turnAbout_18 ?_
    obtain ⟨x30, e31, hf32⟩ := bnd_ex hf29
    refine jd_tni e31 ?_
    refine lv_istore hx hb d_M_turnAbout_19 hl27 (by decide) (lv' := [(4, .int x30), (3, .int x23), (0, .ref (am 0)), (2, .int x7)]) rfl (fun ls33 hl34 => ?_)
    refine lv_aload_n hx hb d_M_turnAbout_21 rfl (lv_at hl34 2 rfl) ?_
    refine va_get (D := D) (ci := 6) (v := .ref (am 14)) (C := R_M) (T := F_M) (N := 24) hx hb hts (fun w h => List.mem_cons_of_mem _ (uw_M w h)) hown hK hP12 0 rfl rfl 18 (by decide) (hts _ (List.mem_cons_of_mem _ tb_618)) (fun _ h => h) rfl d_M_turnAbout_22 ?_
    refine lv_iload_n hx hb d_M_turnAbout_25 rfl (lv_at hl34 1 rfl) ?_
    refine lv_iload_n hx hb d_M_turnAbout_26 rfl (lv_at hl34 3 rfl) ?_
    obtain ⟨hg35, hf36⟩ := grd_ex hf32
    obtain ⟨I37, e38, hf39⟩ := bnd_ex hf36
    refine va_iast hx hb hK hP12 (hD I8 J0) hS13 14 2 rfl rfl (inB_in hg35) d_M_turnAbout_27 (fun H40 L41 hp44 _ hS43 => ?_)
    have hP42 : va_P D cls_all (wM ca am I37 J0) H40 := by rw [e38]; exact hp44
    refine lv_aload_n hx hb d_M_turnAbout_28 rfl (lv_at hl34 2 rfl) ?_
    refine va_get (D := D) (ci := 6) (v := .ref (am 15)) (C := R_M) (T := F_M) (N := 24) hx hb hts (fun w h => List.mem_cons_of_mem _ (uw_M w h)) hown hK hP42 0 rfl rfl 19 (by decide) (hts _ (List.mem_cons_of_mem _ tb_619)) (fun _ h => h) rfl d_M_turnAbout_29 ?_
    refine lv_iload_n hx hb d_M_turnAbout_32 rfl (lv_at hl34 3 rfl) ?_
    refine lv_iload_n hx hb d_M_turnAbout_33 rfl (lv_at hl34 1 rfl) ?_
    obtain ⟨hg45, hf46⟩ := grd_ex hf39
    obtain ⟨I47, e48, hf49⟩ := bnd_ex hf46
    refine va_iast hx hb hK hP42 (hD I37 J0) hS43 15 2 rfl rfl (inB_in hg45) d_M_turnAbout_34 (fun H50 L51 hp54 _ hS53 => ?_)
    have hP52 : va_P D cls_all (wM ca am I47 J0) H50 := by rw [e48]; exact hp54
    refine lv_iload hx hb d_M_turnAbout_35 (lv_at hl34 0 rfl) ?_
    refine lv_istore_n hx hb d_M_turnAbout_37 rfl hl34 (by decide) (lv' := [(2, .int x30), (4, .int x30), (3, .int x23), (0, .ref (am 0))]) rfl (fun ls55 hl56 => ?_)
    refine lv_goto (tgt := 2) hx hb d_M_turnAbout_38 rfl ?_
    cases hf49
    exact hc3 rfl H50 L51 ls55 hP52 hS53 (lv_sub hl56 [3, 0] rfl)
theorem d_M_grow_0 : decode b_M_grow 0 = .ok (.iconst 0, 1) := by decide +kernel
theorem d_M_grow_1 : decode b_M_grow 1 = .ok (.istore_n 2, 1) := by decide +kernel
theorem d_M_grow_2 : decode b_M_grow 2 = .ok (.iload_n 2, 1) := by decide +kernel
theorem d_M_grow_3 : decode b_M_grow 3 = .ok (.bipush 16, 2) := by decide +kernel
theorem d_M_grow_5 : decode b_M_grow 5 = .ok (.if_icmp .ge 16, 3) := by decide +kernel
theorem d_M_grow_8 : decode b_M_grow 8 = .ok (.aload_n 0, 1) := by decide +kernel
theorem d_M_grow_9 : decode b_M_grow 9 = .ok (.getfield 78, 3) := by decide +kernel
theorem d_M_grow_12 : decode b_M_grow 12 = .ok (.iload_n 2, 1) := by decide +kernel
theorem d_M_grow_13 : decode b_M_grow 13 = .ok (.iconst (-1), 1) := by decide +kernel
theorem d_M_grow_14 : decode b_M_grow 14 = .ok (.iastore, 1) := by decide +kernel
theorem d_M_grow_15 : decode b_M_grow 15 = .ok (.iinc 2 1, 3) := by decide +kernel
theorem d_M_grow_18 : decode b_M_grow 18 = .ok (.goto (-16), 3) := by decide +kernel
theorem d_M_grow_21 : decode b_M_grow 21 = .ok (.iconst 0, 1) := by decide +kernel
theorem d_M_grow_22 : decode b_M_grow 22 = .ok (.istore_n 2, 1) := by decide +kernel
theorem d_M_grow_23 : decode b_M_grow 23 = .ok (.iconst 0, 1) := by decide +kernel
theorem d_M_grow_24 : decode b_M_grow 24 = .ok (.istore_n 3, 1) := by decide +kernel
theorem d_M_grow_25 : decode b_M_grow 25 = .ok (.iload_n 1, 1) := by decide +kernel
theorem d_M_grow_26 : decode b_M_grow 26 = .ok (.iconst 1, 1) := by decide +kernel
theorem d_M_grow_27 : decode b_M_grow 27 = .ok (.iadd, 1) := by decide +kernel
theorem d_M_grow_28 : decode b_M_grow 28 = .ok (.istore 4, 2) := by decide +kernel
theorem d_M_grow_30 : decode b_M_grow 30 = .ok (.iload 4, 2) := by decide +kernel
theorem d_M_grow_32 : decode b_M_grow 32 = .ok (.bipush 16, 2) := by decide +kernel
theorem d_M_grow_34 : decode b_M_grow 34 = .ok (.if_icmp .ge 43, 3) := by decide +kernel
theorem d_M_grow_37 : decode b_M_grow 37 = .ok (.aload_n 0, 1) := by decide +kernel
theorem d_M_grow_38 : decode b_M_grow 38 = .ok (.getfield 36, 3) := by decide +kernel
theorem d_M_grow_41 : decode b_M_grow 41 = .ok (.iload 4, 2) := by decide +kernel
theorem d_M_grow_43 : decode b_M_grow 43 = .ok (.ishr, 1) := by decide +kernel
theorem d_M_grow_44 : decode b_M_grow 44 = .ok (.iconst 1, 1) := by decide +kernel
theorem d_M_grow_45 : decode b_M_grow 45 = .ok (.iand, 1) := by decide +kernel
theorem d_M_grow_46 : decode b_M_grow 46 = .ok (.iconst 1, 1) := by decide +kernel
theorem d_M_grow_47 : decode b_M_grow 47 = .ok (.if_icmp .ne 24, 3) := by decide +kernel
theorem d_M_grow_50 : decode b_M_grow 50 = .ok (.aload_n 0, 1) := by decide +kernel
theorem d_M_grow_51 : decode b_M_grow 51 = .ok (.getfield 69, 3) := by decide +kernel
theorem d_M_grow_54 : decode b_M_grow 54 = .ok (.iload 4, 2) := by decide +kernel
theorem d_M_grow_56 : decode b_M_grow 56 = .ok (.iaload, 1) := by decide +kernel
theorem d_M_grow_57 : decode b_M_grow 57 = .ok (.ifCond .ge 14, 3) := by decide +kernel
theorem d_M_grow_60 : decode b_M_grow 60 = .ok (.aload_n 0, 1) := by decide +kernel
theorem d_M_grow_61 : decode b_M_grow 61 = .ok (.getfield 75, 3) := by decide +kernel
theorem d_M_grow_64 : decode b_M_grow 64 = .ok (.iload_n 2, 1) := by decide +kernel
theorem d_M_grow_65 : decode b_M_grow 65 = .ok (.iload 4, 2) := by decide +kernel
theorem d_M_grow_67 : decode b_M_grow 67 = .ok (.iastore, 1) := by decide +kernel
theorem d_M_grow_68 : decode b_M_grow 68 = .ok (.iinc 2 1, 3) := by decide +kernel
theorem d_M_grow_71 : decode b_M_grow 71 = .ok (.iinc 4 1, 3) := by decide +kernel
theorem d_M_grow_74 : decode b_M_grow 74 = .ok (.goto (-44), 3) := by decide +kernel
theorem d_M_grow_77 : decode b_M_grow 77 = .ok (.iload_n 3, 1) := by decide +kernel
theorem d_M_grow_78 : decode b_M_grow 78 = .ok (.iload_n 2, 1) := by decide +kernel
theorem d_M_grow_79 : decode b_M_grow 79 = .ok (.if_icmp .ge 123, 3) := by decide +kernel
theorem d_M_grow_82 : decode b_M_grow 82 = .ok (.aload_n 0, 1) := by decide +kernel
theorem d_M_grow_83 : decode b_M_grow 83 = .ok (.getfield 75, 3) := by decide +kernel
theorem d_M_grow_86 : decode b_M_grow 86 = .ok (.iload_n 3, 1) := by decide +kernel
theorem d_M_grow_87 : decode b_M_grow 87 = .ok (.iaload, 1) := by decide +kernel
theorem d_M_grow_88 : decode b_M_grow 88 = .ok (.istore 4, 2) := by decide +kernel
theorem d_M_grow_90 : decode b_M_grow 90 = .ok (.iinc 3 1, 3) := by decide +kernel
theorem d_M_grow_93 : decode b_M_grow 93 = .ok (.iconst 0, 1) := by decide +kernel
theorem d_M_grow_94 : decode b_M_grow 94 = .ok (.istore 5, 2) := by decide +kernel
theorem d_M_grow_96 : decode b_M_grow 96 = .ok (.iload 5, 2) := by decide +kernel
theorem d_M_grow_98 : decode b_M_grow 98 = .ok (.bipush 16, 2) := by decide +kernel
theorem d_M_grow_100 : decode b_M_grow 100 = .ok (.if_icmp .ge 99, 3) := by decide +kernel
theorem d_M_grow_103 : decode b_M_grow 103 = .ok (.aload_n 0, 1) := by decide +kernel
theorem d_M_grow_104 : decode b_M_grow 104 = .ok (.getfield 39, 3) := by decide +kernel
theorem d_M_grow_107 : decode b_M_grow 107 = .ok (.iload 4, 2) := by decide +kernel
theorem d_M_grow_109 : decode b_M_grow 109 = .ok (.iaload, 1) := by decide +kernel
theorem d_M_grow_110 : decode b_M_grow 110 = .ok (.iload 5, 2) := by decide +kernel
theorem d_M_grow_112 : decode b_M_grow 112 = .ok (.ishr, 1) := by decide +kernel
theorem d_M_grow_113 : decode b_M_grow 113 = .ok (.iconst 1, 1) := by decide +kernel
theorem d_M_grow_114 : decode b_M_grow 114 = .ok (.iand, 1) := by decide +kernel
theorem d_M_grow_115 : decode b_M_grow 115 = .ok (.iconst 1, 1) := by decide +kernel
theorem d_M_grow_116 : decode b_M_grow 116 = .ok (.if_icmp .ne 77, 3) := by decide +kernel
theorem d_M_grow_119 : decode b_M_grow 119 = .ok (.aload_n 0, 1) := by decide +kernel
theorem d_M_grow_120 : decode b_M_grow 120 = .ok (.getfield 78, 3) := by decide +kernel
theorem d_M_grow_123 : decode b_M_grow 123 = .ok (.iload 5, 2) := by decide +kernel
theorem d_M_grow_125 : decode b_M_grow 125 = .ok (.iaload, 1) := by decide +kernel
theorem d_M_grow_126 : decode b_M_grow 126 = .ok (.ifCond .ge 67, 3) := by decide +kernel
theorem d_M_grow_129 : decode b_M_grow 129 = .ok (.aload_n 0, 1) := by decide +kernel
theorem d_M_grow_130 : decode b_M_grow 130 = .ok (.getfield 72, 3) := by decide +kernel
theorem d_M_grow_133 : decode b_M_grow 133 = .ok (.iload 5, 2) := by decide +kernel
theorem d_M_grow_135 : decode b_M_grow 135 = .ok (.iaload, 1) := by decide +kernel
theorem d_M_grow_136 : decode b_M_grow 136 = .ok (.ifCond .lt 14, 3) := by decide +kernel
theorem d_M_grow_139 : decode b_M_grow 139 = .ok (.aload_n 0, 1) := by decide +kernel
theorem d_M_grow_140 : decode b_M_grow 140 = .ok (.getfield 72, 3) := by decide +kernel
theorem d_M_grow_143 : decode b_M_grow 143 = .ok (.iload 5, 2) := by decide +kernel
theorem d_M_grow_145 : decode b_M_grow 145 = .ok (.iaload, 1) := by decide +kernel
theorem d_M_grow_146 : decode b_M_grow 146 = .ok (.iload_n 1, 1) := by decide +kernel
theorem d_M_grow_147 : decode b_M_grow 147 = .ok (.if_icmp .le 46, 3) := by decide +kernel
theorem d_M_grow_150 : decode b_M_grow 150 = .ok (.aload_n 0, 1) := by decide +kernel
theorem d_M_grow_151 : decode b_M_grow 151 = .ok (.getfield 78, 3) := by decide +kernel
theorem d_M_grow_154 : decode b_M_grow 154 = .ok (.iload 5, 2) := by decide +kernel
theorem d_M_grow_156 : decode b_M_grow 156 = .ok (.iload 4, 2) := by decide +kernel
theorem d_M_grow_158 : decode b_M_grow 158 = .ok (.iastore, 1) := by decide +kernel
theorem d_M_grow_159 : decode b_M_grow 159 = .ok (.aload_n 0, 1) := by decide +kernel
theorem d_M_grow_160 : decode b_M_grow 160 = .ok (.getfield 72, 3) := by decide +kernel
theorem d_M_grow_163 : decode b_M_grow 163 = .ok (.iload 5, 2) := by decide +kernel
theorem d_M_grow_165 : decode b_M_grow 165 = .ok (.iaload, 1) := by decide +kernel
theorem d_M_grow_166 : decode b_M_grow 166 = .ok (.ifCond .ge 11, 3) := by decide +kernel
theorem d_M_grow_169 : decode b_M_grow 169 = .ok (.aload_n 0, 1) := by decide +kernel
theorem d_M_grow_170 : decode b_M_grow 170 = .ok (.iload 5, 2) := by decide +kernel
theorem d_M_grow_172 : decode b_M_grow 172 = .ok (.invokevirtual 101, 3) := by decide +kernel
theorem d_M_grow_175 : decode b_M_grow 175 = .ok (.iconst 1, 1) := by decide +kernel
theorem d_M_grow_176 : decode b_M_grow 176 = .ok (.ireturn, 1) := by decide +kernel
theorem d_M_grow_177 : decode b_M_grow 177 = .ok (.aload_n 0, 1) := by decide +kernel
theorem d_M_grow_178 : decode b_M_grow 178 = .ok (.getfield 75, 3) := by decide +kernel
theorem d_M_grow_181 : decode b_M_grow 181 = .ok (.iload_n 2, 1) := by decide +kernel
theorem d_M_grow_182 : decode b_M_grow 182 = .ok (.aload_n 0, 1) := by decide +kernel
theorem d_M_grow_183 : decode b_M_grow 183 = .ok (.getfield 72, 3) := by decide +kernel
theorem d_M_grow_186 : decode b_M_grow 186 = .ok (.iload 5, 2) := by decide +kernel
theorem d_M_grow_188 : decode b_M_grow 188 = .ok (.iaload, 1) := by decide +kernel
theorem d_M_grow_189 : decode b_M_grow 189 = .ok (.iastore, 1) := by decide +kernel
theorem d_M_grow_190 : decode b_M_grow 190 = .ok (.iinc 2 1, 3) := by decide +kernel
theorem d_M_grow_193 : decode b_M_grow 193 = .ok (.iinc 5 1, 3) := by decide +kernel
theorem d_M_grow_196 : decode b_M_grow 196 = .ok (.goto (-100), 3) := by decide +kernel
theorem d_M_grow_199 : decode b_M_grow 199 = .ok (.goto (-122), 3) := by decide +kernel
theorem d_M_grow_202 : decode b_M_grow 202 = .ok (.iconst 0, 1) := by decide +kernel
theorem d_M_grow_203 : decode b_M_grow 203 = .ok (.ireturn, 1) := by decide +kernel
def fm_M_grow_B2  (x7 : Int32) (I8 : IS) : Option (Nat × Int32 × IS) :=
  if (16 : Int32) ≤ x7 then some (1, x7, I8) else grd (inB x7 16) (bnd (sI I8 19 x7.toNatClampNeg (-1 : Int32)) (fun I23 => bnd (x7 + (1 : Int32)) (fun x31 => some (0, x31, I23))))
def fm_M_grow_B30  (x60 : Int32) (x61 : Int32) (I62 : IS) : Option (Nat × Int32 × Int32 × IS) :=
  if (16 : Int32) ≤ x61 then some (1, x60, x61, I62) else if (((I62 8 0) >>> (x61 &&& 31)) &&& (1 : Int32)) = (1 : Int32) then grd (inB x61 16) (if 0 ≤ (I62 16 x61.toNatClampNeg) then bnd (x61 + (1 : Int32)) (fun x88 => some (0, x60, x88, I62)) else grd (inB x60 16) (bnd (sI I62 18 x60.toNatClampNeg x61) (fun I95 => bnd (x60 + (1 : Int32)) (fun x103 => bnd (x61 + (1 : Int32)) (fun x108 => some (0, x103, x108, I95)))))) else bnd (x61 + (1 : Int32)) (fun x78 => some (0, x60, x78, I62))
def fm_M_grow_j150 (x147 : Int32) (x174 : Int32) (x175 : Int32) (I176 : IS) : Option (Nat × Int32 × Int32 × IS) :=
  grd (inB x175 16) (bnd (sI I176 19 x175.toNatClampNeg x147) (fun I186 => grd (inB x175 16) (if 0 ≤ (I186 17 x175.toNatClampNeg) then grd (inB x175 16) (grd (inB x174 16) (bnd (sI I186 18 x174.toNatClampNeg (I186 17 x175.toNatClampNeg)) (fun I203 => bnd (x174 + (1 : Int32)) (fun x211 => bnd (x175 + (1 : Int32)) (fun x216 => some (0, x211, x216, I203)))))) else some (2, x174, x175, I186))))
def fm_M_grow_B96 (p0 : Int32) (x147 : Int32) (x163 : Int32) (x164 : Int32) (I165 : IS) : Option (Nat × Int32 × Int32 × IS) :=
  if (16 : Int32) ≤ x164 then some (1, x163, x164, I165) else grd (inB x147 16) (if (((I165 9 x147.toNatClampNeg) >>> (x164 &&& 31)) &&& (1 : Int32)) = (1 : Int32) then grd (inB x164 16) (if 0 ≤ (I165 19 x164.toNatClampNeg) then bnd (x164 + (1 : Int32)) (fun x241 => some (0, x163, x241, I165)) else grd (inB x164 16) (if (I165 17 x164.toNatClampNeg) < 0 then fm_M_grow_j150 x147 x163 x164 I165 else grd (inB x164 16) (if (I165 17 x164.toNatClampNeg) ≤ p0 then bnd (x164 + (1 : Int32)) (fun x256 => some (0, x163, x256, I165)) else fm_M_grow_j150 x147 x163 x164 I165))) else bnd (x164 + (1 : Int32)) (fun x231 => some (0, x163, x231, I165)))
def fm_M_grow_B77 (p0 : Int32) (x129 : Int32) (x130 : Int32) (x131 : Int32) (I132 : IS) : Option (Nat × Int32 × Int32 × Int32 × IS) :=
  if x129 ≤ x130 then some (1, x129, x130, x131, I132) else grd (inB x130 16) (bnd (I132 18 x130.toNatClampNeg) (fun x147 => bnd (x130 + (1 : Int32)) (fun x152 => ob4 (iter (fun z : Int32 × Int32 × IS => fm_M_grow_B96 p0 x147 z.1 z.2.1 z.2.2) FU (x129, (0 : Int32), I132)) (fun tg261 x262 x263 I264 => if tg261 = 1 then some (0, x262, x152, x131, I264) else some (2, x129, x130, x263, I264)))))
def fm_M_grow (p0 : Int32) (I0 : IS) : Option (Int32 × IS) :=
  ob3 (iter (fun z : Int32 × IS => fm_M_grow_B2 z.1 z.2) FU ((0 : Int32), I0)) (fun _ x37 I38 => bnd (p0 + (1 : Int32)) (fun x51 => ob4 (iter (fun z : Int32 × Int32 × IS => fm_M_grow_B30 z.1 z.2.1 z.2.2) FU ((0 : Int32), x51, I38)) (fun _ x114 x115 I116 => ob5 (iter (fun z : Int32 × Int32 × Int32 × IS => fm_M_grow_B77 p0 z.1 z.2.1 z.2.2.1 z.2.2.2) FU (x114, (0 : Int32), (0 : Int32), I116)) (fun tg285 x286 x287 x288 I289 => if tg285 = 1 then some ((0 : Int32), I289) else ob1 (fm_M_turnAbout x288 I289) (fun I309 => some ((1 : Int32), I309))))))
set_option maxHeartbeats 4000000 in
set_option maxRecDepth 100000 in
theorem cm_M_grow (l : Launch) (D : va_G) (ca : Nat → ClassId) (am : Nat → Nat) {p0 : Int32} {I0 : IS} {J0 : JS} {r : Int32 × IS} (hf : fm_M_grow p0 I0 = some r) : CtI l y_M_grow (Cond.code y_M_grow b_M_grow 6 (some .boolean) :: TB) { frames := 1, cells := 0, slots := 0, locals := 24 } [.ref (am 0), .int p0] D cls_all (tysC ca) NN (wM ca am I0 J0) (wM ca am r.2 J0) r.1 := by
  refine jd_metZ (cc := b_M_grow) (by decide) rfl (Nat.le_of_ble_eq_true rfl) (lv := [(0, .ref (am 0)), (1, .int p0)]) rfl ?_
  intro p e R s m args below meth c A Q ls cx hR hK hN hD0 hA hP hS hl hend
  have hx := cx.1
  have hb := cx.2.1
  have hml := cx.2.2.1
  have hown := cx.2.2.2.1
  have hts := cx.2.2.2.2
  have hD : ∀ I J, va_D A (wM ca am I J) := fun I J => jd_Dc hD0 rfl
  unfold fm_M_grow at hf
  refine lv_iconst (v := 0) hx hb d_M_grow_0 (by decide) ?_
  refine lv_istore_n hx hb d_M_grow_1 rfl hl (by decide) (lv' := [(2, .int (0 : Int32)), (0, .ref (am 0)), (1, .int p0)]) rfl (fun ls1 hl2 => ?_)
  obtain ⟨tg36, x37, I38, ho39, hf40⟩ := ob3_ex hf
  have kx2_1 : ∀ (H41 : Heap) (L42 : List Loc) (ls43 : Array Slot), va_P D cls_all (wM ca am I38 J0) H41 → va_S A s.heap H41 L42 → lv_has ls43 6 [(0, .ref (am 0)), (1, .int p0)] → W p l e R s m args below meth c H41 L42 0 0 Q (F0 m 21 ls43 []) := by
    intro H41 L42 ls43 hP44 hS45 hl46
    refine lv_iconst (v := 0) hx hb d_M_grow_21 (by decide) ?_
    refine lv_istore_n hx hb d_M_grow_22 rfl hl46 (by decide) (lv' := [(2, .int (0 : Int32)), (0, .ref (am 0)), (1, .int p0)]) rfl (fun ls47 hl48 => ?_)
    refine lv_iconst (v := 0) hx hb d_M_grow_23 (by decide) ?_
    refine lv_istore_n hx hb d_M_grow_24 rfl hl48 (by decide) (lv' := [(3, .int (0 : Int32)), (2, .int (0 : Int32)), (0, .ref (am 0)), (1, .int p0)]) rfl (fun ls49 hl50 => ?_)
    refine lv_iload_n hx hb d_M_grow_25 rfl (lv_at hl50 3 rfl) ?_
    refine lv_iconst (v := 1) hx hb d_M_grow_26 (by decide) ?_
    refine lv_iadd hx hb d_M_grow_27 ?_
    obtain ⟨x51, e52, hf53⟩ := bnd_ex hf40
    refine jd_tni e52 ?_
    refine lv_istore hx hb d_M_grow_28 hl50 (by decide) (lv' := [(4, .int x51), (3, .int (0 : Int32)), (2, .int (0 : Int32)), (0, .ref (am 0)), (1, .int p0)]) rfl (fun ls54 hl55 => ?_)
    obtain ⟨tg113, x114, x115, I116, ho117, hf118⟩ := ob4_ex hf53
    have kx30_1 : ∀ (H119 : Heap) (L120 : List Loc) (ls121 : Array Slot), va_P D cls_all (wM ca am I116 J0) H119 → va_S A s.heap H119 L120 → lv_has ls121 6 [(0, .ref (am 0)), (1, .int p0), (2, .int x114), (3, .int (0 : Int32))] → W p l e R s m args below meth c H119 L120 0 0 Q (F0 m 77 ls121 []) := by
      intro H119 L120 ls121 hP122 hS123 hl124
      obtain ⟨tg285, x286, x287, x288, I289, ho290, hf291⟩ := ob5_ex hf118
      have kx77_1 : tg285 = 1 → ∀ (H292 : Heap) (L293 : List Loc) (ls294 : Array Slot), va_P D cls_all (wM ca am I289 J0) H292 → va_S A s.heap H292 L293 → lv_has ls294 6 [] → W p l e R s m args below meth c H292 L293 0 0 Q (F0 m 202 ls294 []) := by
        intro ht299 H292 L293 ls294 hP295 hS296 hl297
        have hf298 := ifp hf291 ht299
        refine lv_iconst (v := 0) hx hb d_M_grow_202 (by decide) ?_
        cases hf298
        exact hend H292 L293 203 ls294 (show narrow .boolean (.int (0 : Int32)) = .int (0 : Int32) from rfl) hP295 hS296 d_M_grow_203
      have kx77_2 : tg285 = 2 → ∀ (H300 : Heap) (L301 : List Loc) (ls302 : Array Slot), va_P D cls_all (wM ca am I289 J0) H300 → va_S A s.heap H300 L301 → lv_has ls302 6 [(0, .ref (am 0)), (5, .int x288)] → W p l e R s m args below meth c H300 L301 0 0 Q (F0 m 169 ls302 []) := by
        intro ht307 H300 L301 ls302 hP303 hS304 hl305
        have hf308 := ifn hf291 (by rw [ht307]; decide)
        have hf306 := hf308
        refine lv_aload_n hx hb d_M_grow_169 rfl (lv_at hl305 0 rfl) ?_
        refine lv_iload hx hb d_M_grow_170 (lv_at hl305 1 rfl) ?_
        obtain ⟨I309, hc310, hf311⟩ := ob1_ex hf306
        refine jd_cv (va_runV (As := [.int x288]) (rest := []) cx (cm_M_turnAbout l D ca am hc310 H300.size) (cwV 1 hts (jd_gV tb_809 tb_810 tb_40 tb_47 tb_811) rfl rfl rfl ⟨rfl, by decide, by decide, rfl⟩ (by rw [hR]; decide)) ⟨jd_blind nWc, (va_recv hK hP303 (ci := 6) (q0 := 0) rfl rfl), (jd_pre (av := [.ref (am 0), .int x288]) hP303 hK (hD I289 J0) (fun U h => nWm h hN))⟩ rfl rfl hl305.1 rfl (lv_room (Nat.le_of_ble_eq_true rfl)) d_M_grow_172 ⟨Nat.zero_le _, Nat.zero_le _⟩) hS304 (hD I289 J0) hA (fun H312 L313 hP314 hS315 => ?_)
        refine lv_iconst (v := 1) hx hb d_M_grow_175 (by decide) ?_
        cases hf311
        exact hend H312 L313 176 ls302 (show narrow .boolean (.int (1 : Int32)) = .int (1 : Int32) from rfl) hP314 hS315 d_M_grow_176
      refine iter_ind (C := fun z : Int32 × Int32 × Int32 × IS => ∀ (H133 : Heap) (L134 : List Loc) (ls135 : Array Slot), va_P D cls_all (wM ca am z.2.2.2 J0) H133 → va_S A s.heap H133 L134 → lv_has ls135 6 [(0, .ref (am 0)), (1, .int p0), (2, .int z.1), (3, .int z.2.1)] → W p l e R s m args below meth c H133 L134 0 0 Q (F0 m 77 ls135 [])) (fun z128 o127 hz140 hc125 he126 => ?_) _ _ ho290 H119 L120 ls121 hP122 hS123 (lv_sub hl124 [0, 1, 2, 3] rfl)
      obtain ⟨x129, x130, x131, I132⟩ := z128
      intro H133 L134 ls135 hP136 hS137 hl138
      have hf139 : fm_M_grow_B77 p0 x129 x130 x131 I132 = some o127 := hz140
      unfold fm_M_grow_B77 at hf139
      refine lv_iload_n hx hb d_M_grow_77 rfl (lv_at hl138 3 rfl) ?_
      refine lv_iload_n hx hb d_M_grow_78 rfl (lv_at hl138 2 rfl) ?_
      refine lv_icmp_ge (tgt := 202) hx hb d_M_grow_79 rfl (fun h141 => ?_) (fun h141 => ?_)
      · have hf142 := ifp hf139 h141
        cases hf142
        have e144 := he126 (by show (1 : Nat) ≠ 0; decide)
        cases e144
        exact kx77_1 rfl H133 L134 ls135 hP136 hS137 (lv_sub hl138 [] rfl)
      · have hf143 := ifn hf139 h141
        refine lv_aload_n hx hb d_M_grow_82 rfl (lv_at hl138 0 rfl) ?_
        refine va_get (D := D) (ci := 6) (v := .ref (am 16)) (C := R_M) (T := F_M) (N := 24) hx hb hts (fun w h => List.mem_cons_of_mem _ (uw_M w h)) hown hK hP136 0 rfl rfl 20 (by decide) (hts _ (List.mem_cons_of_mem _ tb_620)) (fun _ h => h) rfl d_M_grow_83 ?_
        refine lv_iload_n hx hb d_M_grow_86 rfl (lv_at hl138 3 rfl) ?_
        obtain ⟨hg145, hf146⟩ := grd_ex hf143
        refine va_iald hx hb hK hP136 16 2 rfl rfl (inB_in hg145) d_M_grow_87 ?_
        obtain ⟨x147, e148, hf149⟩ := bnd_ex hf146
        refine jd_tni e148 ?_
        refine lv_istore hx hb d_M_grow_88 hl138 (by decide) (lv' := [(4, .int x147), (0, .ref (am 0)), (1, .int p0), (2, .int x129), (3, .int x130)]) rfl (fun ls150 hl151 => ?_)
        obtain ⟨x152, e153, hf154⟩ := bnd_ex hf149
        refine lv_iinc hx hb d_M_grow_90 hl151 (k := 4) rfl (v := x152) (by rw [e153]; rfl) (by decide) (lv' := [(3, .int x152), (4, .int x147), (0, .ref (am 0)), (1, .int p0), (2, .int x129)]) rfl (fun ls155 hl156 => ?_)
        refine lv_iconst (v := 0) hx hb d_M_grow_93 (by decide) ?_
        refine lv_istore hx hb d_M_grow_94 hl156 (by decide) (lv' := [(5, .int (0 : Int32)), (3, .int x152), (4, .int x147), (0, .ref (am 0)), (1, .int p0), (2, .int x129)]) rfl (fun ls157 hl158 => ?_)
        obtain ⟨tg261, x262, x263, I264, ho265, hf266⟩ := ob4_ex hf154
        have kx96_1 : tg261 = 1 → ∀ (H267 : Heap) (L268 : List Loc) (ls269 : Array Slot), va_P D cls_all (wM ca am I264 J0) H267 → va_S A s.heap H267 L268 → lv_has ls269 6 [(0, .ref (am 0)), (1, .int p0), (2, .int x262), (3, .int x152)] → W p l e R s m args below meth c H267 L268 0 0 Q (F0 m 199 ls269 []) := by
          intro ht274 H267 L268 ls269 hP270 hS271 hl272
          have hf273 := ifp hf266 ht274
          refine lv_goto (tgt := 77) hx hb d_M_grow_199 rfl ?_
          cases hf273
          exact hc125 rfl H267 L268 ls269 hP270 hS271 (lv_sub hl272 [0, 1, 2, 3] rfl)
        have kx96_2 : tg261 = 2 → ∀ (H275 : Heap) (L276 : List Loc) (ls277 : Array Slot), va_P D cls_all (wM ca am I264 J0) H275 → va_S A s.heap H275 L276 → lv_has ls277 6 [(0, .ref (am 0)), (5, .int x263)] → W p l e R s m args below meth c H275 L276 0 0 Q (F0 m 169 ls277 []) := by
          intro ht282 H275 L276 ls277 hP278 hS279 hl280
          have hf283 := ifn hf266 (by rw [ht282]; decide)
          have hf281 := hf283
          cases hf281
          have e284 := he126 (by show (2 : Nat) ≠ 0; decide)
          cases e284
          exact kx77_2 rfl H275 L276 ls277 hP278 hS279 (lv_sub hl280 [0, 1] rfl)
        refine iter_ind (C := fun z : Int32 × Int32 × IS => ∀ (H166 : Heap) (L167 : List Loc) (ls168 : Array Slot), va_P D cls_all (wM ca am z.2.2 J0) H166 → va_S A s.heap H166 L167 → lv_has ls168 6 [(0, .ref (am 0)), (1, .int p0), (2, .int z.1), (3, .int x152), (4, .int x147), (5, .int z.2.1)] → W p l e R s m args below meth c H166 L167 0 0 Q (F0 m 96 ls168 [])) (fun z162 o161 hz173 hc159 he160 => ?_) _ _ ho265 H133 L134 ls157 hP136 hS137 (lv_sub hl158 [3, 4, 5, 1, 2, 0] rfl)
        obtain ⟨x163, x164, I165⟩ := z162
        intro H166 L167 ls168 hP169 hS170 hl171
        have hf172 : fm_M_grow_B96 p0 x147 x163 x164 I165 = some o161 := hz173
        unfold fm_M_grow_B96 at hf172
        have kj150 : ∀ (x174 : Int32) (x175 : Int32) (I176 : IS), fm_M_grow_j150 x147 x174 x175 I176 = some o161 → ∀ (H177 : Heap) (L178 : List Loc) (ls179 : Array Slot), va_P D cls_all (wM ca am I176 J0) H177 → va_S A s.heap H177 L178 → lv_has ls179 6 [(0, .ref (am 0)), (1, .int p0), (2, .int x174), (3, .int x152), (4, .int x147), (5, .int x175)] → W p l e R s m args below meth c H177 L178 0 0 Q (F0 m 150 ls179 []) := by
          intro x174 x175 I176 hf183 H177 L178 ls179 hP180 hS181 hl182
          unfold fm_M_grow_j150 at hf183
          refine lv_aload_n hx hb d_M_grow_150 rfl (lv_at hl182 0 rfl) ?_
          refine va_get (D := D) (ci := 6) (v := .ref (am 17)) (C := R_M) (T := F_M) (N := 24) hx hb hts (fun w h => List.mem_cons_of_mem _ (uw_M w h)) hown hK hP180 0 rfl rfl 21 (by decide) (hts _ (List.mem_cons_of_mem _ tb_621)) (fun _ h => h) rfl d_M_grow_151 ?_
          refine lv_iload hx hb d_M_grow_154 (lv_at hl182 5 rfl) ?_
          refine lv_iload hx hb d_M_grow_156 (lv_at hl182 4 rfl) ?_
          obtain ⟨hg184, hf185⟩ := grd_ex hf183
          obtain ⟨I186, e187, hf188⟩ := bnd_ex hf185
          refine va_iast hx hb hK hP180 (hD I176 J0) hS181 17 2 rfl rfl (inB_in hg184) d_M_grow_158 (fun H189 L190 hp193 _ hS192 => ?_)
          have hP191 : va_P D cls_all (wM ca am I186 J0) H189 := by rw [e187]; exact hp193
          refine lv_aload_n hx hb d_M_grow_159 rfl (lv_at hl182 0 rfl) ?_
          refine va_get (D := D) (ci := 6) (v := .ref (am 15)) (C := R_M) (T := F_M) (N := 24) hx hb hts (fun w h => List.mem_cons_of_mem _ (uw_M w h)) hown hK hP191 0 rfl rfl 19 (by decide) (hts _ (List.mem_cons_of_mem _ tb_619)) (fun _ h => h) rfl d_M_grow_160 ?_
          refine lv_iload hx hb d_M_grow_163 (lv_at hl182 5 rfl) ?_
          obtain ⟨hg194, hf195⟩ := grd_ex hf188
          refine va_iald hx hb hK hP191 15 2 rfl rfl (inB_in hg194) d_M_grow_165 ?_
          refine lv_if_ge (tgt := 177) hx hb d_M_grow_166 rfl (fun h196 => ?_) (fun h196 => ?_)
          · have hf197 := ifp hf195 h196
            refine lv_aload_n hx hb d_M_grow_177 rfl (lv_at hl182 0 rfl) ?_
            refine va_get (D := D) (ci := 6) (v := .ref (am 16)) (C := R_M) (T := F_M) (N := 24) hx hb hts (fun w h => List.mem_cons_of_mem _ (uw_M w h)) hown hK hP191 0 rfl rfl 20 (by decide) (hts _ (List.mem_cons_of_mem _ tb_620)) (fun _ h => h) rfl d_M_grow_178 ?_
            refine lv_iload_n hx hb d_M_grow_181 rfl (lv_at hl182 2 rfl) ?_
            refine lv_aload_n hx hb d_M_grow_182 rfl (lv_at hl182 0 rfl) ?_
            refine va_get (D := D) (ci := 6) (v := .ref (am 15)) (C := R_M) (T := F_M) (N := 24) hx hb hts (fun w h => List.mem_cons_of_mem _ (uw_M w h)) hown hK hP191 0 rfl rfl 19 (by decide) (hts _ (List.mem_cons_of_mem _ tb_619)) (fun _ h => h) rfl d_M_grow_183 ?_
            refine lv_iload hx hb d_M_grow_186 (lv_at hl182 5 rfl) ?_
            obtain ⟨hg199, hf200⟩ := grd_ex hf197
            refine va_iald hx hb hK hP191 15 2 rfl rfl (inB_in hg199) d_M_grow_188 ?_
            obtain ⟨hg201, hf202⟩ := grd_ex hf200
            obtain ⟨I203, e204, hf205⟩ := bnd_ex hf202
            refine va_iast hx hb hK hP191 (hD I186 J0) hS192 16 2 rfl rfl (inB_in hg201) d_M_grow_189 (fun H206 L207 hp210 _ hS209 => ?_)
            have hP208 : va_P D cls_all (wM ca am I203 J0) H206 := by rw [e204]; exact hp210
            obtain ⟨x211, e212, hf213⟩ := bnd_ex hf205
            refine lv_iinc hx hb d_M_grow_190 hl182 (k := 2) rfl (v := x211) (by rw [e212]; rfl) (by decide) (lv' := [(2, .int x211), (0, .ref (am 0)), (1, .int p0), (3, .int x152), (4, .int x147), (5, .int x175)]) rfl (fun ls214 hl215 => ?_)
            obtain ⟨x216, e217, hf218⟩ := bnd_ex hf213
            refine lv_iinc hx hb d_M_grow_193 hl215 (k := 5) rfl (v := x216) (by rw [e217]; rfl) (by decide) (lv' := [(5, .int x216), (2, .int x211), (0, .ref (am 0)), (1, .int p0), (3, .int x152), (4, .int x147)]) rfl (fun ls219 hl220 => ?_)
            refine lv_goto (tgt := 96) hx hb d_M_grow_196 rfl ?_
            cases hf218
            exact hc159 rfl H206 L207 ls219 hP208 hS209 (lv_sub hl220 [2, 3, 1, 4, 5, 0] rfl)
          · have hf198 := ifn hf195 h196
            cases hf198
            have e221 := he160 (by show (2 : Nat) ≠ 0; decide)
            cases e221
            exact kx96_2 rfl H189 L190 ls179 hP191 hS192 (lv_sub hl182 [0, 5] rfl)
        refine lv_iload hx hb d_M_grow_96 (lv_at hl171 5 rfl) ?_
        refine lv_bipush (v := 16) hx hb d_M_grow_98 (by decide) ?_
        refine lv_icmp_ge (tgt := 199) hx hb d_M_grow_100 rfl (fun h222 => ?_) (fun h222 => ?_)
        · have hf223 := ifp hf172 h222
          cases hf223
          have e225 := he160 (by show (1 : Nat) ≠ 0; decide)
          cases e225
          exact kx96_1 rfl H166 L167 ls168 hP169 hS170 (lv_sub hl171 [0, 1, 2, 3] rfl)
        · have hf224 := ifn hf172 h222
          refine lv_aload_n hx hb d_M_grow_103 rfl (lv_at hl171 0 rfl) ?_
          refine va_get (D := D) (ci := 6) (v := .ref (am 7)) (C := R_M) (T := F_M) (N := 24) hx hb hts (fun w h => List.mem_cons_of_mem _ (uw_M w h)) hown hK hP169 0 rfl rfl 9 (by decide) (hts _ (List.mem_cons_of_mem _ tb_609)) (fun _ h => h) rfl d_M_grow_104 ?_
          refine lv_iload hx hb d_M_grow_107 (lv_at hl171 4 rfl) ?_
          obtain ⟨hg226, hf227⟩ := grd_ex hf224
          refine va_iald hx hb hK hP169 7 2 rfl rfl (inB_in hg226) d_M_grow_109 ?_
          refine lv_iload hx hb d_M_grow_110 (lv_at hl171 5 rfl) ?_
          refine lv_ishr hx hb d_M_grow_112 ?_
          refine lv_iconst (v := 1) hx hb d_M_grow_113 (by decide) ?_
          refine lv_iand hx hb d_M_grow_114 ?_
          refine lv_iconst (v := 1) hx hb d_M_grow_115 (by decide) ?_
          refine lv_icmp_ne (tgt := 193) hx hb d_M_grow_116 rfl (fun h228 => ?_) (fun h228 => ?_)
          · have hf229 := ifn hf227 h228
            obtain ⟨x231, e232, hf233⟩ := bnd_ex hf229
            refine lv_iinc hx hb d_M_grow_193 hl171 (k := 5) rfl (v := x231) (by rw [e232]; rfl) (by decide) (lv' := [(5, .int x231), (0, .ref (am 0)), (1, .int p0), (2, .int x163), (3, .int x152), (4, .int x147)]) rfl (fun ls234 hl235 => ?_)
            refine lv_goto (tgt := 96) hx hb d_M_grow_196 rfl ?_
            cases hf233
            exact hc159 rfl H166 L167 ls234 hP169 hS170 (lv_sub hl235 [1, 2, 3, 4, 5, 0] rfl)
          · have hf230 := ifp hf227 h228
            refine lv_aload_n hx hb d_M_grow_119 rfl (lv_at hl171 0 rfl) ?_
            refine va_get (D := D) (ci := 6) (v := .ref (am 17)) (C := R_M) (T := F_M) (N := 24) hx hb hts (fun w h => List.mem_cons_of_mem _ (uw_M w h)) hown hK hP169 0 rfl rfl 21 (by decide) (hts _ (List.mem_cons_of_mem _ tb_621)) (fun _ h => h) rfl d_M_grow_120 ?_
            refine lv_iload hx hb d_M_grow_123 (lv_at hl171 5 rfl) ?_
            obtain ⟨hg236, hf237⟩ := grd_ex hf230
            refine va_iald hx hb hK hP169 17 2 rfl rfl (inB_in hg236) d_M_grow_125 ?_
            refine lv_if_ge (tgt := 193) hx hb d_M_grow_126 rfl (fun h238 => ?_) (fun h238 => ?_)
            · have hf239 := ifp hf237 h238
              obtain ⟨x241, e242, hf243⟩ := bnd_ex hf239
              refine lv_iinc hx hb d_M_grow_193 hl171 (k := 5) rfl (v := x241) (by rw [e242]; rfl) (by decide) (lv' := [(5, .int x241), (0, .ref (am 0)), (1, .int p0), (2, .int x163), (3, .int x152), (4, .int x147)]) rfl (fun ls244 hl245 => ?_)
              refine lv_goto (tgt := 96) hx hb d_M_grow_196 rfl ?_
              cases hf243
              exact hc159 rfl H166 L167 ls244 hP169 hS170 (lv_sub hl245 [1, 2, 3, 4, 5, 0] rfl)
            · have hf240 := ifn hf237 h238
              refine lv_aload_n hx hb d_M_grow_129 rfl (lv_at hl171 0 rfl) ?_
              refine va_get (D := D) (ci := 6) (v := .ref (am 15)) (C := R_M) (T := F_M) (N := 24) hx hb hts (fun w h => List.mem_cons_of_mem _ (uw_M w h)) hown hK hP169 0 rfl rfl 19 (by decide) (hts _ (List.mem_cons_of_mem _ tb_619)) (fun _ h => h) rfl d_M_grow_130 ?_
              refine lv_iload hx hb d_M_grow_133 (lv_at hl171 5 rfl) ?_
              obtain ⟨hg246, hf247⟩ := grd_ex hf240
              refine va_iald hx hb hK hP169 15 2 rfl rfl (inB_in hg246) d_M_grow_135 ?_
              refine lv_if_lt (tgt := 150) hx hb d_M_grow_136 rfl (fun h248 => ?_) (fun h248 => ?_)
              · have hf249 := ifp hf247 h248
                exact kj150 x163 x164 I165 hf249 H166 L167 ls168 hP169 hS170 (lv_sub hl171 [0, 1, 2, 3, 4, 5] rfl)
              · have hf250 := ifn hf247 h248
                refine lv_aload_n hx hb d_M_grow_139 rfl (lv_at hl171 0 rfl) ?_
                refine va_get (D := D) (ci := 6) (v := .ref (am 15)) (C := R_M) (T := F_M) (N := 24) hx hb hts (fun w h => List.mem_cons_of_mem _ (uw_M w h)) hown hK hP169 0 rfl rfl 19 (by decide) (hts _ (List.mem_cons_of_mem _ tb_619)) (fun _ h => h) rfl d_M_grow_140 ?_
                refine lv_iload hx hb d_M_grow_143 (lv_at hl171 5 rfl) ?_
                obtain ⟨hg251, hf252⟩ := grd_ex hf250
                refine va_iald hx hb hK hP169 15 2 rfl rfl (inB_in hg251) d_M_grow_145 ?_
                refine lv_iload_n hx hb d_M_grow_146 rfl (lv_at hl171 1 rfl) ?_
                refine lv_icmp_le (tgt := 193) hx hb d_M_grow_147 rfl (fun h253 => ?_) (fun h253 => ?_)
                · have hf254 := ifp hf252 h253
                  obtain ⟨x256, e257, hf258⟩ := bnd_ex hf254
                  refine lv_iinc hx hb d_M_grow_193 hl171 (k := 5) rfl (v := x256) (by rw [e257]; rfl) (by decide) (lv' := [(5, .int x256), (0, .ref (am 0)), (1, .int p0), (2, .int x163), (3, .int x152), (4, .int x147)]) rfl (fun ls259 hl260 => ?_)
                  refine lv_goto (tgt := 96) hx hb d_M_grow_196 rfl ?_
                  cases hf258
                  exact hc159 rfl H166 L167 ls259 hP169 hS170 (lv_sub hl260 [1, 2, 3, 4, 5, 0] rfl)
                · have hf255 := ifn hf252 h253
                  exact kj150 x163 x164 I165 hf255 H166 L167 ls168 hP169 hS170 (lv_sub hl171 [0, 1, 2, 3, 4, 5] rfl)
    refine iter_ind (C := fun z : Int32 × Int32 × IS => ∀ (H63 : Heap) (L64 : List Loc) (ls65 : Array Slot), va_P D cls_all (wM ca am z.2.2 J0) H63 → va_S A s.heap H63 L64 → lv_has ls65 6 [(0, .ref (am 0)), (1, .int p0), (2, .int z.1), (3, .int (0 : Int32)), (4, .int z.2.1)] → W p l e R s m args below meth c H63 L64 0 0 Q (F0 m 30 ls65 [])) (fun z59 o58 hz70 hc56 he57 => ?_) _ _ ho117 H41 L42 ls54 hP44 hS45 (lv_sub hl55 [3, 4, 2, 1, 0] rfl)
    obtain ⟨x60, x61, I62⟩ := z59
    intro H63 L64 ls65 hP66 hS67 hl68
    have hf69 : fm_M_grow_B30 x60 x61 I62 = some o58 := hz70
    unfold fm_M_grow_B30 at hf69
    refine lv_iload hx hb d_M_grow_30 (lv_at hl68 4 rfl) ?_
    refine lv_bipush (v := 16) hx hb d_M_grow_32 (by decide) ?_
    refine lv_icmp_ge (tgt := 77) hx hb d_M_grow_34 rfl (fun h71 => ?_) (fun h71 => ?_)
    · have hf72 := ifp hf69 h71
      cases hf72
      have e74 := he57 (by show (1 : Nat) ≠ 0; decide)
      cases e74
      exact kx30_1 H63 L64 ls65 hP66 hS67 (lv_sub hl68 [0, 1, 2, 3] rfl)
    · have hf73 := ifn hf69 h71
      refine lv_aload_n hx hb d_M_grow_37 rfl (lv_at hl68 0 rfl) ?_
      refine va_get (D := D) (ci := 6) (v := .int (I62 8 0)) (C := R_M) (T := F_M) (N := 24) hx hb hts (fun w h => List.mem_cons_of_mem _ (uw_M w h)) hown hK hP66 0 rfl rfl 8 (by decide) (hts _ (List.mem_cons_of_mem _ tb_608)) (fun _ h => h) rfl d_M_grow_38 ?_
      refine lv_iload hx hb d_M_grow_41 (lv_at hl68 4 rfl) ?_
      refine lv_ishr hx hb d_M_grow_43 ?_
      refine lv_iconst (v := 1) hx hb d_M_grow_44 (by decide) ?_
      refine lv_iand hx hb d_M_grow_45 ?_
      refine lv_iconst (v := 1) hx hb d_M_grow_46 (by decide) ?_
      refine lv_icmp_ne (tgt := 71) hx hb d_M_grow_47 rfl (fun h75 => ?_) (fun h75 => ?_)
      · have hf76 := ifn hf73 h75
        obtain ⟨x78, e79, hf80⟩ := bnd_ex hf76
        refine lv_iinc hx hb d_M_grow_71 hl68 (k := 4) rfl (v := x78) (by rw [e79]; rfl) (by decide) (lv' := [(4, .int x78), (0, .ref (am 0)), (1, .int p0), (2, .int x60), (3, .int (0 : Int32))]) rfl (fun ls81 hl82 => ?_)
        refine lv_goto (tgt := 30) hx hb d_M_grow_74 rfl ?_
        cases hf80
        exact hc56 rfl H63 L64 ls81 hP66 hS67 (lv_sub hl82 [1, 2, 3, 4, 0] rfl)
      · have hf77 := ifp hf73 h75
        refine lv_aload_n hx hb d_M_grow_50 rfl (lv_at hl68 0 rfl) ?_
        refine va_get (D := D) (ci := 6) (v := .ref (am 14)) (C := R_M) (T := F_M) (N := 24) hx hb hts (fun w h => List.mem_cons_of_mem _ (uw_M w h)) hown hK hP66 0 rfl rfl 18 (by decide) (hts _ (List.mem_cons_of_mem _ tb_618)) (fun _ h => h) rfl d_M_grow_51 ?_
        refine lv_iload hx hb d_M_grow_54 (lv_at hl68 4 rfl) ?_
        obtain ⟨hg83, hf84⟩ := grd_ex hf77
        refine va_iald hx hb hK hP66 14 2 rfl rfl (inB_in hg83) d_M_grow_56 ?_
        refine lv_if_ge (tgt := 71) hx hb d_M_grow_57 rfl (fun h85 => ?_) (fun h85 => ?_)
        · have hf86 := ifp hf84 h85
          obtain ⟨x88, e89, hf90⟩ := bnd_ex hf86
          refine lv_iinc hx hb d_M_grow_71 hl68 (k := 4) rfl (v := x88) (by rw [e89]; rfl) (by decide) (lv' := [(4, .int x88), (0, .ref (am 0)), (1, .int p0), (2, .int x60), (3, .int (0 : Int32))]) rfl (fun ls91 hl92 => ?_)
          refine lv_goto (tgt := 30) hx hb d_M_grow_74 rfl ?_
          cases hf90
          exact hc56 rfl H63 L64 ls91 hP66 hS67 (lv_sub hl92 [1, 2, 3, 4, 0] rfl)
        · have hf87 := ifn hf84 h85
          refine lv_aload_n hx hb d_M_grow_60 rfl (lv_at hl68 0 rfl) ?_
          refine va_get (D := D) (ci := 6) (v := .ref (am 16)) (C := R_M) (T := F_M) (N := 24) hx hb hts (fun w h => List.mem_cons_of_mem _ (uw_M w h)) hown hK hP66 0 rfl rfl 20 (by decide) (hts _ (List.mem_cons_of_mem _ tb_620)) (fun _ h => h) rfl d_M_grow_61 ?_
          refine lv_iload_n hx hb d_M_grow_64 rfl (lv_at hl68 2 rfl) ?_
          refine lv_iload hx hb d_M_grow_65 (lv_at hl68 4 rfl) ?_
          obtain ⟨hg93, hf94⟩ := grd_ex hf87
          obtain ⟨I95, e96, hf97⟩ := bnd_ex hf94
          refine va_iast hx hb hK hP66 (hD I62 J0) hS67 16 2 rfl rfl (inB_in hg93) d_M_grow_67 (fun H98 L99 hp102 _ hS101 => ?_)
          have hP100 : va_P D cls_all (wM ca am I95 J0) H98 := by rw [e96]; exact hp102
          obtain ⟨x103, e104, hf105⟩ := bnd_ex hf97
          refine lv_iinc hx hb d_M_grow_68 hl68 (k := 2) rfl (v := x103) (by rw [e104]; rfl) (by decide) (lv' := [(2, .int x103), (0, .ref (am 0)), (1, .int p0), (3, .int (0 : Int32)), (4, .int x61)]) rfl (fun ls106 hl107 => ?_)
          obtain ⟨x108, e109, hf110⟩ := bnd_ex hf105
          refine lv_iinc hx hb d_M_grow_71 hl107 (k := 4) rfl (v := x108) (by rw [e109]; rfl) (by decide) (lv' := [(4, .int x108), (2, .int x103), (0, .ref (am 0)), (1, .int p0), (3, .int (0 : Int32))]) rfl (fun ls111 hl112 => ?_)
          refine lv_goto (tgt := 30) hx hb d_M_grow_74 rfl ?_
          cases hf110
          exact hc56 rfl H98 L99 ls111 hP100 hS101 (lv_sub hl112 [2, 3, 1, 4, 0] rfl)
  refine iter_ind (C := fun z : Int32 × IS => ∀ (H9 : Heap) (L10 : List Loc) (ls11 : Array Slot), va_P D cls_all (wM ca am z.2 J0) H9 → va_S A s.heap H9 L10 → lv_has ls11 6 [(0, .ref (am 0)), (1, .int p0), (2, .int z.1)] → W p l e R s m args below meth c H9 L10 0 0 Q (F0 m 2 ls11 [])) (fun z6 o5 hz16 hc3 he4 => ?_) _ _ ho39 s.heap [] ls1 hP hS (lv_sub hl2 [1, 2, 0] rfl)
  obtain ⟨x7, I8⟩ := z6
  intro H9 L10 ls11 hP12 hS13 hl14
  have hf15 : fm_M_grow_B2 x7 I8 = some o5 := hz16
  unfold fm_M_grow_B2 at hf15
  refine lv_iload_n hx hb d_M_grow_2 rfl (lv_at hl14 2 rfl) ?_
  refine lv_bipush (v := 16) hx hb d_M_grow_3 (by decide) ?_
  refine lv_icmp_ge (tgt := 21) hx hb d_M_grow_5 rfl (fun h17 => ?_) (fun h17 => ?_)
  · have hf18 := ifp hf15 h17
    cases hf18
    have e20 := he4 (by show (1 : Nat) ≠ 0; decide)
    cases e20
    exact kx2_1 H9 L10 ls11 hP12 hS13 (lv_sub hl14 [0, 1] rfl)
  · have hf19 := ifn hf15 h17
    refine lv_aload_n hx hb d_M_grow_8 rfl (lv_at hl14 0 rfl) ?_
    refine va_get (D := D) (ci := 6) (v := .ref (am 17)) (C := R_M) (T := F_M) (N := 24) hx hb hts (fun w h => List.mem_cons_of_mem _ (uw_M w h)) hown hK hP12 0 rfl rfl 21 (by decide) (hts _ (List.mem_cons_of_mem _ tb_621)) (fun _ h => h) rfl d_M_grow_9 ?_
    refine lv_iload_n hx hb d_M_grow_12 rfl (lv_at hl14 2 rfl) ?_
    refine lv_iconst (v := -1) hx hb d_M_grow_13 (by decide) ?_
    obtain ⟨hg21, hf22⟩ := grd_ex hf19
    obtain ⟨I23, e24, hf25⟩ := bnd_ex hf22
    refine va_iast hx hb hK hP12 (hD I8 J0) hS13 17 2 rfl rfl (inB_in hg21) d_M_grow_14 (fun H26 L27 hp30 _ hS29 => ?_)
    have hP28 : va_P D cls_all (wM ca am I23 J0) H26 := by rw [e24]; exact hp30
    obtain ⟨x31, e32, hf33⟩ := bnd_ex hf25
    refine lv_iinc hx hb d_M_grow_15 hl14 (k := 2) rfl (v := x31) (by rw [e32]; rfl) (by decide) (lv' := [(2, .int x31), (0, .ref (am 0)), (1, .int p0)]) rfl (fun ls34 hl35 => ?_)
    refine lv_goto (tgt := 2) hx hb d_M_grow_18 rfl ?_
    cases hf33
    exact hc3 rfl H26 L27 ls34 hP28 hS29 (lv_sub hl35 [1, 2, 0] rfl)
theorem d_M_most_0 : decode b_M_most 0 = .ok (.iload_n 1, 1) := by decide +kernel
theorem d_M_most_1 : decode b_M_most 1 = .ok (.iconst 1, 1) := by decide +kernel
theorem d_M_most_2 : decode b_M_most 2 = .ok (.iadd, 1) := by decide +kernel
theorem d_M_most_3 : decode b_M_most 3 = .ok (.istore_n 2, 1) := by decide +kernel
theorem d_M_most_4 : decode b_M_most 4 = .ok (.iload_n 2, 1) := by decide +kernel
theorem d_M_most_5 : decode b_M_most 5 = .ok (.bipush 16, 2) := by decide +kernel
theorem d_M_most_7 : decode b_M_most 7 = .ok (.if_icmp .ge 16, 3) := by decide +kernel
theorem d_M_most_10 : decode b_M_most 10 = .ok (.aload_n 0, 1) := by decide +kernel
theorem d_M_most_11 : decode b_M_most 11 = .ok (.getfield 69, 3) := by decide +kernel
theorem d_M_most_14 : decode b_M_most 14 = .ok (.iload_n 2, 1) := by decide +kernel
theorem d_M_most_15 : decode b_M_most 15 = .ok (.iconst (-1), 1) := by decide +kernel
theorem d_M_most_16 : decode b_M_most 16 = .ok (.iastore, 1) := by decide +kernel
theorem d_M_most_17 : decode b_M_most 17 = .ok (.iinc 2 1, 3) := by decide +kernel
theorem d_M_most_20 : decode b_M_most 20 = .ok (.goto (-16), 3) := by decide +kernel
theorem d_M_most_23 : decode b_M_most 23 = .ok (.iconst 0, 1) := by decide +kernel
theorem d_M_most_24 : decode b_M_most 24 = .ok (.istore_n 2, 1) := by decide +kernel
theorem d_M_most_25 : decode b_M_most 25 = .ok (.iload_n 2, 1) := by decide +kernel
theorem d_M_most_26 : decode b_M_most 26 = .ok (.bipush 16, 2) := by decide +kernel
theorem d_M_most_28 : decode b_M_most 28 = .ok (.if_icmp .ge 16, 3) := by decide +kernel
theorem d_M_most_31 : decode b_M_most 31 = .ok (.aload_n 0, 1) := by decide +kernel
theorem d_M_most_32 : decode b_M_most 32 = .ok (.getfield 72, 3) := by decide +kernel
theorem d_M_most_35 : decode b_M_most 35 = .ok (.iload_n 2, 1) := by decide +kernel
theorem d_M_most_36 : decode b_M_most 36 = .ok (.iconst (-1), 1) := by decide +kernel
theorem d_M_most_37 : decode b_M_most 37 = .ok (.iastore, 1) := by decide +kernel
theorem d_M_most_38 : decode b_M_most 38 = .ok (.iinc 2 1, 3) := by decide +kernel
theorem d_M_most_41 : decode b_M_most 41 = .ok (.goto (-16), 3) := by decide +kernel
theorem d_M_most_44 : decode b_M_most 44 = .ok (.iconst 0, 1) := by decide +kernel
theorem d_M_most_45 : decode b_M_most 45 = .ok (.istore_n 2, 1) := by decide +kernel
theorem d_M_most_46 : decode b_M_most 46 = .ok (.iload_n 2, 1) := by decide +kernel
theorem d_M_most_47 : decode b_M_most 47 = .ok (.iload_n 1, 1) := by decide +kernel
theorem d_M_most_48 : decode b_M_most 48 = .ok (.if_icmp .gt 30, 3) := by decide +kernel
theorem d_M_most_51 : decode b_M_most 51 = .ok (.aload_n 0, 1) := by decide +kernel
theorem d_M_most_52 : decode b_M_most 52 = .ok (.getfield 69, 3) := by decide +kernel
theorem d_M_most_55 : decode b_M_most 55 = .ok (.iload_n 2, 1) := by decide +kernel
theorem d_M_most_56 : decode b_M_most 56 = .ok (.iaload, 1) := by decide +kernel
theorem d_M_most_57 : decode b_M_most 57 = .ok (.ifCond .lt 15, 3) := by decide +kernel
theorem d_M_most_60 : decode b_M_most 60 = .ok (.aload_n 0, 1) := by decide +kernel
theorem d_M_most_61 : decode b_M_most 61 = .ok (.getfield 72, 3) := by decide +kernel
theorem d_M_most_64 : decode b_M_most 64 = .ok (.aload_n 0, 1) := by decide +kernel
theorem d_M_most_65 : decode b_M_most 65 = .ok (.getfield 69, 3) := by decide +kernel
theorem d_M_most_68 : decode b_M_most 68 = .ok (.iload_n 2, 1) := by decide +kernel
theorem d_M_most_69 : decode b_M_most 69 = .ok (.iaload, 1) := by decide +kernel
theorem d_M_most_70 : decode b_M_most 70 = .ok (.iload_n 2, 1) := by decide +kernel
theorem d_M_most_71 : decode b_M_most 71 = .ok (.iastore, 1) := by decide +kernel
theorem d_M_most_72 : decode b_M_most 72 = .ok (.iinc 2 1, 3) := by decide +kernel
theorem d_M_most_75 : decode b_M_most 75 = .ok (.goto (-29), 3) := by decide +kernel
theorem d_M_most_78 : decode b_M_most 78 = .ok (.iconst 0, 1) := by decide +kernel
theorem d_M_most_79 : decode b_M_most 79 = .ok (.istore_n 2, 1) := by decide +kernel
theorem d_M_most_80 : decode b_M_most 80 = .ok (.aload_n 0, 1) := by decide +kernel
theorem d_M_most_81 : decode b_M_most 81 = .ok (.iload_n 1, 1) := by decide +kernel
theorem d_M_most_82 : decode b_M_most 82 = .ok (.invokevirtual 104, 3) := by decide +kernel
theorem d_M_most_85 : decode b_M_most 85 = .ok (.ifCond .eq 9, 3) := by decide +kernel
theorem d_M_most_88 : decode b_M_most 88 = .ok (.iinc 2 1, 3) := by decide +kernel
theorem d_M_most_91 : decode b_M_most 91 = .ok (.goto (-11), 3) := by decide +kernel
theorem d_M_most_94 : decode b_M_most 94 = .ok (.iload_n 2, 1) := by decide +kernel
theorem d_M_most_95 : decode b_M_most 95 = .ok (.ireturn, 1) := by decide +kernel
def fm_M_most_B4  (x10 : Int32) (I11 : IS) : Option (Nat × Int32 × IS) :=
  if (16 : Int32) ≤ x10 then some (1, x10, I11) else grd (inB x10 16) (bnd (sI I11 16 x10.toNatClampNeg (-1 : Int32)) (fun I26 => bnd (x10 + (1 : Int32)) (fun x34 => some (0, x34, I26))))
def fm_M_most_B25  (x56 : Int32) (I57 : IS) : Option (Nat × Int32 × IS) :=
  if (16 : Int32) ≤ x56 then some (1, x56, I57) else grd (inB x56 16) (bnd (sI I57 17 x56.toNatClampNeg (-1 : Int32)) (fun I72 => bnd (x56 + (1 : Int32)) (fun x80 => some (0, x80, I72))))
def fm_M_most_B46 (p0 : Int32) (x102 : Int32) (I103 : IS) : Option (Nat × Int32 × IS) :=
  if p0 < x102 then some (1, x102, I103) else grd (inB x102 16) (if (I103 16 x102.toNatClampNeg) < 0 then bnd (x102 + (1 : Int32)) (fun x121 => some (0, x121, I103)) else grd (inB x102 16) (grd (inB (I103 16 x102.toNatClampNeg) 16) (bnd (sI I103 17 (I103 16 x102.toNatClampNeg).toNatClampNeg x102) (fun I130 => bnd (x102 + (1 : Int32)) (fun x138 => some (0, x138, I130))))))
def fm_M_most_B80 (p0 : Int32) (x160 : Int32) (I161 : IS) : Option (Nat × Int32 × IS) :=
  ob2 (fm_M_grow p0 I161) (fun x170 I171 => if x170 = 0 then some (1, x160, I171) else bnd (x160 + (1 : Int32)) (fun x182 => some (0, x182, I171)))
def fm_M_most (p0 : Int32) (I0 : IS) : Option (Int32 × IS) :=
  bnd (p0 + (1 : Int32)) (fun x1 => ob3 (iter (fun z : Int32 × IS => fm_M_most_B4 z.1 z.2) FU (x1, I0)) (fun _ x40 I41 => ob3 (iter (fun z : Int32 × IS => fm_M_most_B25 z.1 z.2) FU ((0 : Int32), I41)) (fun _ x86 I87 => ob3 (iter (fun z : Int32 × IS => fm_M_most_B46 p0 z.1 z.2) FU ((0 : Int32), I87)) (fun _ x144 I145 => ob3 (iter (fun z : Int32 × IS => fm_M_most_B80 p0 z.1 z.2) FU ((0 : Int32), I145)) (fun _ x188 I189 => some (x188, I189))))))
set_option maxHeartbeats 4000000 in
set_option maxRecDepth 100000 in
theorem cm_M_most (l : Launch) (D : va_G) (ca : Nat → ClassId) (am : Nat → Nat) {p0 : Int32} {I0 : IS} {J0 : JS} {r : Int32 × IS} (hf : fm_M_most p0 I0 = some r) : CtI l y_M_most (Cond.code y_M_most b_M_most 3 (some .int) :: TB) { frames := 2, cells := 0, slots := 0, locals := 49 } [.ref (am 0), .int p0] D cls_all (tysC ca) NN (wM ca am I0 J0) (wM ca am r.2 J0) r.1 := by
  refine jd_metI (cc := b_M_most) (by decide) rfl (Nat.le_of_ble_eq_true rfl) (lv := [(0, .ref (am 0)), (1, .int p0)]) rfl ?_
  intro p e R s m args below meth c A Q ls cx hR hK hN hD0 hA hP hS hl hend
  have hx := cx.1
  have hb := cx.2.1
  have hml := cx.2.2.1
  have hown := cx.2.2.2.1
  have hts := cx.2.2.2.2
  have hD : ∀ I J, va_D A (wM ca am I J) := fun I J => jd_Dc hD0 rfl
  unfold fm_M_most at hf
  refine lv_iload_n hx hb d_M_most_0 rfl (lv_at hl 1 rfl) ?_
  refine lv_iconst (v := 1) hx hb d_M_most_1 (by decide) ?_
  refine lv_iadd hx hb d_M_most_2 ?_
  obtain ⟨x1, e2, hf3⟩ := bnd_ex hf
  refine jd_tni e2 ?_
  refine lv_istore_n hx hb d_M_most_3 rfl hl (by decide) (lv' := [(2, .int x1), (0, .ref (am 0)), (1, .int p0)]) rfl (fun ls4 hl5 => ?_)
  obtain ⟨tg39, x40, I41, ho42, hf43⟩ := ob3_ex hf3
  have kx4_1 : ∀ (H44 : Heap) (L45 : List Loc) (ls46 : Array Slot), va_P D cls_all (wM ca am I41 J0) H44 → va_S A s.heap H44 L45 → lv_has ls46 3 [(0, .ref (am 0)), (1, .int p0)] → W p l e R s m args below meth c H44 L45 0 0 Q (F0 m 23 ls46 []) := by
    intro H44 L45 ls46 hP47 hS48 hl49
    refine lv_iconst (v := 0) hx hb d_M_most_23 (by decide) ?_
    refine lv_istore_n hx hb d_M_most_24 rfl hl49 (by decide) (lv' := [(2, .int (0 : Int32)), (0, .ref (am 0)), (1, .int p0)]) rfl (fun ls50 hl51 => ?_)
    obtain ⟨tg85, x86, I87, ho88, hf89⟩ := ob3_ex hf43
    have kx25_1 : ∀ (H90 : Heap) (L91 : List Loc) (ls92 : Array Slot), va_P D cls_all (wM ca am I87 J0) H90 → va_S A s.heap H90 L91 → lv_has ls92 3 [(0, .ref (am 0)), (1, .int p0)] → W p l e R s m args below meth c H90 L91 0 0 Q (F0 m 44 ls92 []) := by
      intro H90 L91 ls92 hP93 hS94 hl95
      refine lv_iconst (v := 0) hx hb d_M_most_44 (by decide) ?_
      refine lv_istore_n hx hb d_M_most_45 rfl hl95 (by decide) (lv' := [(2, .int (0 : Int32)), (0, .ref (am 0)), (1, .int p0)]) rfl (fun ls96 hl97 => ?_)
      obtain ⟨tg143, x144, I145, ho146, hf147⟩ := ob3_ex hf89
      have kx46_1 : ∀ (H148 : Heap) (L149 : List Loc) (ls150 : Array Slot), va_P D cls_all (wM ca am I145 J0) H148 → va_S A s.heap H148 L149 → lv_has ls150 3 [(0, .ref (am 0)), (1, .int p0)] → W p l e R s m args below meth c H148 L149 0 0 Q (F0 m 78 ls150 []) := by
        intro H148 L149 ls150 hP151 hS152 hl153
        refine lv_iconst (v := 0) hx hb d_M_most_78 (by decide) ?_
        refine lv_istore_n hx hb d_M_most_79 rfl hl153 (by decide) (lv' := [(2, .int (0 : Int32)), (0, .ref (am 0)), (1, .int p0)]) rfl (fun ls154 hl155 => ?_)
        obtain ⟨tg187, x188, I189, ho190, hf191⟩ := ob3_ex hf147
        have kx80_1 : ∀ (H192 : Heap) (L193 : List Loc) (ls194 : Array Slot), va_P D cls_all (wM ca am I189 J0) H192 → va_S A s.heap H192 L193 → lv_has ls194 3 [(2, .int x188)] → W p l e R s m args below meth c H192 L193 0 0 Q (F0 m 94 ls194 []) := by
          intro H192 L193 ls194 hP195 hS196 hl197
          refine lv_iload_n hx hb d_M_most_94 rfl (lv_at hl197 0 rfl) ?_
          cases hf191
          exact hend H192 L193 95 ls194 hP195 hS196 d_M_most_95
        refine iter_ind (C := fun z : Int32 × IS => ∀ (H162 : Heap) (L163 : List Loc) (ls164 : Array Slot), va_P D cls_all (wM ca am z.2 J0) H162 → va_S A s.heap H162 L163 → lv_has ls164 3 [(0, .ref (am 0)), (1, .int p0), (2, .int z.1)] → W p l e R s m args below meth c H162 L163 0 0 Q (F0 m 80 ls164 [])) (fun z159 o158 hz169 hc156 he157 => ?_) _ _ ho190 H148 L149 ls154 hP151 hS152 (lv_sub hl155 [1, 2, 0] rfl)
        obtain ⟨x160, I161⟩ := z159
        intro H162 L163 ls164 hP165 hS166 hl167
        have hf168 : fm_M_most_B80 p0 x160 I161 = some o158 := hz169
        unfold fm_M_most_B80 at hf168
        refine lv_aload_n hx hb d_M_most_80 rfl (lv_at hl167 0 rfl) ?_
        refine lv_iload_n hx hb d_M_most_81 rfl (lv_at hl167 1 rfl) ?_
        obtain ⟨x170, I171, hc172, hf173⟩ := ob2_ex hf168
        refine jd_ci (va_runV (As := [.int p0]) (rest := []) cx (cm_M_grow l D ca am hc172 H162.size) (cwV 1 hts (jd_gV tb_806 tb_807 tb_39 tb_47 tb_808) rfl rfl rfl ⟨rfl, by decide, by decide, rfl⟩ (by rw [hR]; decide)) ⟨jd_blind nWc, (va_recv hK hP165 (ci := 6) (q0 := 0) rfl rfl), (jd_pre (av := [.ref (am 0), .int p0]) hP165 hK (hD I161 J0) (fun U h => nWm h hN))⟩ rfl rfl hl167.1 rfl (lv_room (Nat.le_of_ble_eq_true rfl)) d_M_most_82 ⟨Nat.zero_le _, Nat.zero_le _⟩) hS166 (hD I161 J0) hA (fun H174 L175 hP176 hS177 => ?_)
        refine lv_if_eq (tgt := 94) hx hb d_M_most_85 rfl (fun h178 => ?_) (fun h178 => ?_)
        · have hf179 := ifp hf173 h178
          cases hf179
          have e181 := he157 (by show (1 : Nat) ≠ 0; decide)
          cases e181
          exact kx80_1 H174 L175 ls164 hP176 hS177 (lv_sub hl167 [2] rfl)
        · have hf180 := ifn hf173 h178
          obtain ⟨x182, e183, hf184⟩ := bnd_ex hf180
          refine lv_iinc hx hb d_M_most_88 hl167 (k := 2) rfl (v := x182) (by rw [e183]; rfl) (by decide) (lv' := [(2, .int x182), (0, .ref (am 0)), (1, .int p0)]) rfl (fun ls185 hl186 => ?_)
          refine lv_goto (tgt := 80) hx hb d_M_most_91 rfl ?_
          cases hf184
          exact hc156 rfl H174 L175 ls185 hP176 hS177 (lv_sub hl186 [1, 2, 0] rfl)
      refine iter_ind (C := fun z : Int32 × IS => ∀ (H104 : Heap) (L105 : List Loc) (ls106 : Array Slot), va_P D cls_all (wM ca am z.2 J0) H104 → va_S A s.heap H104 L105 → lv_has ls106 3 [(0, .ref (am 0)), (1, .int p0), (2, .int z.1)] → W p l e R s m args below meth c H104 L105 0 0 Q (F0 m 46 ls106 [])) (fun z101 o100 hz111 hc98 he99 => ?_) _ _ ho146 H90 L91 ls96 hP93 hS94 (lv_sub hl97 [1, 2, 0] rfl)
      obtain ⟨x102, I103⟩ := z101
      intro H104 L105 ls106 hP107 hS108 hl109
      have hf110 : fm_M_most_B46 p0 x102 I103 = some o100 := hz111
      unfold fm_M_most_B46 at hf110
      refine lv_iload_n hx hb d_M_most_46 rfl (lv_at hl109 2 rfl) ?_
      refine lv_iload_n hx hb d_M_most_47 rfl (lv_at hl109 1 rfl) ?_
      refine lv_icmp_gt (tgt := 78) hx hb d_M_most_48 rfl (fun h112 => ?_) (fun h112 => ?_)
      · have hf113 := ifp hf110 h112
        cases hf113
        have e115 := he99 (by show (1 : Nat) ≠ 0; decide)
        cases e115
        exact kx46_1 H104 L105 ls106 hP107 hS108 (lv_sub hl109 [0, 1] rfl)
      · have hf114 := ifn hf110 h112
        refine lv_aload_n hx hb d_M_most_51 rfl (lv_at hl109 0 rfl) ?_
        refine va_get (D := D) (ci := 6) (v := .ref (am 14)) (C := R_M) (T := F_M) (N := 24) hx hb hts (fun w h => List.mem_cons_of_mem _ (uw_M w h)) hown hK hP107 0 rfl rfl 18 (by decide) (hts _ (List.mem_cons_of_mem _ tb_618)) (fun _ h => h) rfl d_M_most_52 ?_
        refine lv_iload_n hx hb d_M_most_55 rfl (lv_at hl109 2 rfl) ?_
        obtain ⟨hg116, hf117⟩ := grd_ex hf114
        refine va_iald hx hb hK hP107 14 2 rfl rfl (inB_in hg116) d_M_most_56 ?_
        refine lv_if_lt (tgt := 72) hx hb d_M_most_57 rfl (fun h118 => ?_) (fun h118 => ?_)
        · have hf119 := ifp hf117 h118
          obtain ⟨x121, e122, hf123⟩ := bnd_ex hf119
          refine lv_iinc hx hb d_M_most_72 hl109 (k := 2) rfl (v := x121) (by rw [e122]; rfl) (by decide) (lv' := [(2, .int x121), (0, .ref (am 0)), (1, .int p0)]) rfl (fun ls124 hl125 => ?_)
          refine lv_goto (tgt := 46) hx hb d_M_most_75 rfl ?_
          cases hf123
          exact hc98 rfl H104 L105 ls124 hP107 hS108 (lv_sub hl125 [1, 2, 0] rfl)
        · have hf120 := ifn hf117 h118
          refine lv_aload_n hx hb d_M_most_60 rfl (lv_at hl109 0 rfl) ?_
          refine va_get (D := D) (ci := 6) (v := .ref (am 15)) (C := R_M) (T := F_M) (N := 24) hx hb hts (fun w h => List.mem_cons_of_mem _ (uw_M w h)) hown hK hP107 0 rfl rfl 19 (by decide) (hts _ (List.mem_cons_of_mem _ tb_619)) (fun _ h => h) rfl d_M_most_61 ?_
          refine lv_aload_n hx hb d_M_most_64 rfl (lv_at hl109 0 rfl) ?_
          refine va_get (D := D) (ci := 6) (v := .ref (am 14)) (C := R_M) (T := F_M) (N := 24) hx hb hts (fun w h => List.mem_cons_of_mem _ (uw_M w h)) hown hK hP107 0 rfl rfl 18 (by decide) (hts _ (List.mem_cons_of_mem _ tb_618)) (fun _ h => h) rfl d_M_most_65 ?_
          refine lv_iload_n hx hb d_M_most_68 rfl (lv_at hl109 2 rfl) ?_
          obtain ⟨hg126, hf127⟩ := grd_ex hf120
          refine va_iald hx hb hK hP107 14 2 rfl rfl (inB_in hg126) d_M_most_69 ?_
          refine lv_iload_n hx hb d_M_most_70 rfl (lv_at hl109 2 rfl) ?_
          obtain ⟨hg128, hf129⟩ := grd_ex hf127
          obtain ⟨I130, e131, hf132⟩ := bnd_ex hf129
          refine va_iast hx hb hK hP107 (hD I103 J0) hS108 15 2 rfl rfl (inB_in hg128) d_M_most_71 (fun H133 L134 hp137 _ hS136 => ?_)
          have hP135 : va_P D cls_all (wM ca am I130 J0) H133 := by rw [e131]; exact hp137
          obtain ⟨x138, e139, hf140⟩ := bnd_ex hf132
          refine lv_iinc hx hb d_M_most_72 hl109 (k := 2) rfl (v := x138) (by rw [e139]; rfl) (by decide) (lv' := [(2, .int x138), (0, .ref (am 0)), (1, .int p0)]) rfl (fun ls141 hl142 => ?_)
          refine lv_goto (tgt := 46) hx hb d_M_most_75 rfl ?_
          cases hf140
          exact hc98 rfl H133 L134 ls141 hP135 hS136 (lv_sub hl142 [1, 2, 0] rfl)
    refine iter_ind (C := fun z : Int32 × IS => ∀ (H58 : Heap) (L59 : List Loc) (ls60 : Array Slot), va_P D cls_all (wM ca am z.2 J0) H58 → va_S A s.heap H58 L59 → lv_has ls60 3 [(0, .ref (am 0)), (1, .int p0), (2, .int z.1)] → W p l e R s m args below meth c H58 L59 0 0 Q (F0 m 25 ls60 [])) (fun z55 o54 hz65 hc52 he53 => ?_) _ _ ho88 H44 L45 ls50 hP47 hS48 (lv_sub hl51 [1, 2, 0] rfl)
    obtain ⟨x56, I57⟩ := z55
    intro H58 L59 ls60 hP61 hS62 hl63
    have hf64 : fm_M_most_B25 x56 I57 = some o54 := hz65
    unfold fm_M_most_B25 at hf64
    refine lv_iload_n hx hb d_M_most_25 rfl (lv_at hl63 2 rfl) ?_
    refine lv_bipush (v := 16) hx hb d_M_most_26 (by decide) ?_
    refine lv_icmp_ge (tgt := 44) hx hb d_M_most_28 rfl (fun h66 => ?_) (fun h66 => ?_)
    · have hf67 := ifp hf64 h66
      cases hf67
      have e69 := he53 (by show (1 : Nat) ≠ 0; decide)
      cases e69
      exact kx25_1 H58 L59 ls60 hP61 hS62 (lv_sub hl63 [0, 1] rfl)
    · have hf68 := ifn hf64 h66
      refine lv_aload_n hx hb d_M_most_31 rfl (lv_at hl63 0 rfl) ?_
      refine va_get (D := D) (ci := 6) (v := .ref (am 15)) (C := R_M) (T := F_M) (N := 24) hx hb hts (fun w h => List.mem_cons_of_mem _ (uw_M w h)) hown hK hP61 0 rfl rfl 19 (by decide) (hts _ (List.mem_cons_of_mem _ tb_619)) (fun _ h => h) rfl d_M_most_32 ?_
      refine lv_iload_n hx hb d_M_most_35 rfl (lv_at hl63 2 rfl) ?_
      refine lv_iconst (v := -1) hx hb d_M_most_36 (by decide) ?_
      obtain ⟨hg70, hf71⟩ := grd_ex hf68
      obtain ⟨I72, e73, hf74⟩ := bnd_ex hf71
      refine va_iast hx hb hK hP61 (hD I57 J0) hS62 15 2 rfl rfl (inB_in hg70) d_M_most_37 (fun H75 L76 hp79 _ hS78 => ?_)
      have hP77 : va_P D cls_all (wM ca am I72 J0) H75 := by rw [e73]; exact hp79
      obtain ⟨x80, e81, hf82⟩ := bnd_ex hf74
      refine lv_iinc hx hb d_M_most_38 hl63 (k := 2) rfl (v := x80) (by rw [e81]; rfl) (by decide) (lv' := [(2, .int x80), (0, .ref (am 0)), (1, .int p0)]) rfl (fun ls83 hl84 => ?_)
      refine lv_goto (tgt := 25) hx hb d_M_most_41 rfl ?_
      cases hf82
      exact hc52 rfl H75 L76 ls83 hP77 hS78 (lv_sub hl84 [1, 2, 0] rfl)
  refine iter_ind (C := fun z : Int32 × IS => ∀ (H12 : Heap) (L13 : List Loc) (ls14 : Array Slot), va_P D cls_all (wM ca am z.2 J0) H12 → va_S A s.heap H12 L13 → lv_has ls14 3 [(0, .ref (am 0)), (1, .int p0), (2, .int z.1)] → W p l e R s m args below meth c H12 L13 0 0 Q (F0 m 4 ls14 [])) (fun z9 o8 hz19 hc6 he7 => ?_) _ _ ho42 s.heap [] ls4 hP hS (lv_sub hl5 [1, 2, 0] rfl)
  obtain ⟨x10, I11⟩ := z9
  intro H12 L13 ls14 hP15 hS16 hl17
  have hf18 : fm_M_most_B4 x10 I11 = some o8 := hz19
  unfold fm_M_most_B4 at hf18
  refine lv_iload_n hx hb d_M_most_4 rfl (lv_at hl17 2 rfl) ?_
  refine lv_bipush (v := 16) hx hb d_M_most_5 (by decide) ?_
  refine lv_icmp_ge (tgt := 23) hx hb d_M_most_7 rfl (fun h20 => ?_) (fun h20 => ?_)
  · have hf21 := ifp hf18 h20
    cases hf21
    have e23 := he7 (by show (1 : Nat) ≠ 0; decide)
    cases e23
    exact kx4_1 H12 L13 ls14 hP15 hS16 (lv_sub hl17 [0, 1] rfl)
  · have hf22 := ifn hf18 h20
    refine lv_aload_n hx hb d_M_most_10 rfl (lv_at hl17 0 rfl) ?_
    refine va_get (D := D) (ci := 6) (v := .ref (am 14)) (C := R_M) (T := F_M) (N := 24) hx hb hts (fun w h => List.mem_cons_of_mem _ (uw_M w h)) hown hK hP15 0 rfl rfl 18 (by decide) (hts _ (List.mem_cons_of_mem _ tb_618)) (fun _ h => h) rfl d_M_most_11 ?_
    refine lv_iload_n hx hb d_M_most_14 rfl (lv_at hl17 2 rfl) ?_
    refine lv_iconst (v := -1) hx hb d_M_most_15 (by decide) ?_
    obtain ⟨hg24, hf25⟩ := grd_ex hf22
    obtain ⟨I26, e27, hf28⟩ := bnd_ex hf25
    refine va_iast hx hb hK hP15 (hD I11 J0) hS16 14 2 rfl rfl (inB_in hg24) d_M_most_16 (fun H29 L30 hp33 _ hS32 => ?_)
    have hP31 : va_P D cls_all (wM ca am I26 J0) H29 := by rw [e27]; exact hp33
    obtain ⟨x34, e35, hf36⟩ := bnd_ex hf28
    refine lv_iinc hx hb d_M_most_17 hl17 (k := 2) rfl (v := x34) (by rw [e35]; rfl) (by decide) (lv' := [(2, .int x34), (0, .ref (am 0)), (1, .int p0)]) rfl (fun ls37 hl38 => ?_)
    refine lv_goto (tgt := 4) hx hb d_M_most_20 rfl ?_
    cases hf36
    exact hc6 rfl H29 L30 ls37 hP31 hS32 (lv_sub hl38 [1, 2, 0] rfl)
theorem d_M_free_0 : decode b_M_free 0 = .ok (.iconst 0, 1) := by decide +kernel
theorem d_M_free_1 : decode b_M_free 1 = .ok (.istore_n 3, 1) := by decide +kernel
theorem d_M_free_2 : decode b_M_free 2 = .ok (.iload_n 3, 1) := by decide +kernel
theorem d_M_free_3 : decode b_M_free 3 = .ok (.iload_n 1, 1) := by decide +kernel
theorem d_M_free_4 : decode b_M_free 4 = .ok (.if_icmp .ge 21, 3) := by decide +kernel
theorem d_M_free_7 : decode b_M_free 7 = .ok (.aload_n 0, 1) := by decide +kernel
theorem d_M_free_8 : decode b_M_free 8 = .ok (.getfield 69, 3) := by decide +kernel
theorem d_M_free_11 : decode b_M_free 11 = .ok (.iload_n 3, 1) := by decide +kernel
theorem d_M_free_12 : decode b_M_free 12 = .ok (.iaload, 1) := by decide +kernel
theorem d_M_free_13 : decode b_M_free 13 = .ok (.iload_n 2, 1) := by decide +kernel
theorem d_M_free_14 : decode b_M_free 14 = .ok (.if_icmp .ne 5, 3) := by decide +kernel
theorem d_M_free_17 : decode b_M_free 17 = .ok (.iconst 0, 1) := by decide +kernel
theorem d_M_free_18 : decode b_M_free 18 = .ok (.ireturn, 1) := by decide +kernel
theorem d_M_free_19 : decode b_M_free 19 = .ok (.iinc 3 1, 3) := by decide +kernel
theorem d_M_free_22 : decode b_M_free 22 = .ok (.goto (-20), 3) := by decide +kernel
theorem d_M_free_25 : decode b_M_free 25 = .ok (.iconst 1, 1) := by decide +kernel
theorem d_M_free_26 : decode b_M_free 26 = .ok (.ireturn, 1) := by decide +kernel
def fm_M_free_B2 (p0 : Int32) (p1 : Int32) (I0 : IS) (x7 : Int32) : Option (Nat × Int32) :=
  if p0 ≤ x7 then some (1, x7) else grd (inB x7 16) (if (I0 16 x7.toNatClampNeg) = p1 then some (2, x7) else bnd (x7 + (1 : Int32)) (fun x25 => some (0, x25)))
def fm_M_free (p0 : Int32) (p1 : Int32) (I0 : IS) : Option (Int32) :=
  ob2 (iter (fun z : Int32 => fm_M_free_B2 p0 p1 I0 z) FU (0 : Int32)) (fun tg31 x32 => if tg31 = 1 then some (1 : Int32) else some (0 : Int32))
set_option maxHeartbeats 4000000 in
set_option maxRecDepth 100000 in
theorem cm_M_free (l : Launch) (D : va_G) (ca : Nat → ClassId) (am : Nat → Nat) {p0 : Int32} {p1 : Int32} {I0 : IS} {J0 : JS} {r : Int32} (hf : fm_M_free p0 p1 I0 = some r) : CtI l y_M_free (Cond.code y_M_free b_M_free 4 (some .boolean) :: TB) { frames := 0, cells := 0, slots := 0, locals := 0 } [.ref (am 0), .int p0, .int p1] D cls_all (tysC ca) NN (wM ca am I0 J0) (wM ca am I0 J0) r := by
  refine jd_metZ (cc := b_M_free) (by decide) rfl (Nat.le_of_ble_eq_true rfl) (lv := [(0, .ref (am 0)), (1, .int p0), (2, .int p1)]) rfl ?_
  intro p e R s m args below meth c A Q ls cx hR hK hN hD0 hA hP hS hl hend
  have hx := cx.1
  have hb := cx.2.1
  have hml := cx.2.2.1
  have hown := cx.2.2.2.1
  have hts := cx.2.2.2.2
  have hD : ∀ I J, va_D A (wM ca am I J) := fun I J => jd_Dc hD0 rfl
  unfold fm_M_free at hf
  refine lv_iconst (v := 0) hx hb d_M_free_0 (by decide) ?_
  refine lv_istore_n hx hb d_M_free_1 rfl hl (by decide) (lv' := [(3, .int (0 : Int32)), (0, .ref (am 0)), (1, .int p0), (2, .int p1)]) rfl (fun ls1 hl2 => ?_)
  obtain ⟨tg31, x32, ho33, hf34⟩ := ob2_ex hf
  have kx2_1 : tg31 = 1 → ∀ (H35 : Heap) (L36 : List Loc) (ls37 : Array Slot), va_P D cls_all (wM ca am I0 J0) H35 → va_S A s.heap H35 L36 → lv_has ls37 4 [] → W p l e R s m args below meth c H35 L36 0 0 Q (F0 m 25 ls37 []) := by
    intro ht42 H35 L36 ls37 hP38 hS39 hl40
    have hf41 := ifp hf34 ht42
    refine lv_iconst (v := 1) hx hb d_M_free_25 (by decide) ?_
    cases hf41
    exact hend H35 L36 26 ls37 (show narrow .boolean (.int (1 : Int32)) = .int (1 : Int32) from rfl) hP38 hS39 d_M_free_26
  have kx2_2 : tg31 = 2 → ∀ (H43 : Heap) (L44 : List Loc) (ls45 : Array Slot), va_P D cls_all (wM ca am I0 J0) H43 → va_S A s.heap H43 L44 → lv_has ls45 4 [] → W p l e R s m args below meth c H43 L44 0 0 Q (F0 m 17 ls45 []) := by
    intro ht50 H43 L44 ls45 hP46 hS47 hl48
    have hf51 := ifn hf34 (by rw [ht50]; decide)
    have hf49 := hf51
    refine lv_iconst (v := 0) hx hb d_M_free_17 (by decide) ?_
    cases hf49
    exact hend H43 L44 18 ls45 (show narrow .boolean (.int (0 : Int32)) = .int (0 : Int32) from rfl) hP46 hS47 d_M_free_18
  refine iter_ind (C := fun z : Int32 => ∀ (H8 : Heap) (L9 : List Loc) (ls10 : Array Slot), va_P D cls_all (wM ca am I0 J0) H8 → va_S A s.heap H8 L9 → lv_has ls10 4 [(0, .ref (am 0)), (1, .int p0), (2, .int p1), (3, .int z)] → W p l e R s m args below meth c H8 L9 0 0 Q (F0 m 2 ls10 [])) (fun x7 o5 hz15 hc3 he4 => ?_) _ _ ho33 s.heap [] ls1 hP hS (lv_sub hl2 [1, 2, 3, 0] rfl)
  intro H8 L9 ls10 hP11 hS12 hl13
  have hf14 : fm_M_free_B2 p0 p1 I0 x7 = some o5 := hz15
  unfold fm_M_free_B2 at hf14
  refine lv_iload_n hx hb d_M_free_2 rfl (lv_at hl13 3 rfl) ?_
  refine lv_iload_n hx hb d_M_free_3 rfl (lv_at hl13 1 rfl) ?_
  refine lv_icmp_ge (tgt := 25) hx hb d_M_free_4 rfl (fun h16 => ?_) (fun h16 => ?_)
  · have hf17 := ifp hf14 h16
    cases hf17
    have e19 := he4 (by show (1 : Nat) ≠ 0; decide)
    cases e19
    exact kx2_1 rfl H8 L9 ls10 hP11 hS12 (lv_sub hl13 [] rfl)
  · have hf18 := ifn hf14 h16
    refine lv_aload_n hx hb d_M_free_7 rfl (lv_at hl13 0 rfl) ?_
    refine va_get (D := D) (ci := 6) (v := .ref (am 14)) (C := R_M) (T := F_M) (N := 24) hx hb hts (fun w h => List.mem_cons_of_mem _ (uw_M w h)) hown hK hP11 0 rfl rfl 18 (by decide) (hts _ (List.mem_cons_of_mem _ tb_618)) (fun _ h => h) rfl d_M_free_8 ?_
    refine lv_iload_n hx hb d_M_free_11 rfl (lv_at hl13 3 rfl) ?_
    obtain ⟨hg20, hf21⟩ := grd_ex hf18
    refine va_iald hx hb hK hP11 14 2 rfl rfl (inB_in hg20) d_M_free_12 ?_
    refine lv_iload_n hx hb d_M_free_13 rfl (lv_at hl13 2 rfl) ?_
    refine lv_icmp_ne (tgt := 19) hx hb d_M_free_14 rfl (fun h22 => ?_) (fun h22 => ?_)
    · have hf23 := ifn hf21 h22
      obtain ⟨x25, e26, hf27⟩ := bnd_ex hf23
      refine lv_iinc hx hb d_M_free_19 hl13 (k := 3) rfl (v := x25) (by rw [e26]; rfl) (by decide) (lv' := [(3, .int x25), (0, .ref (am 0)), (1, .int p0), (2, .int p1)]) rfl (fun ls28 hl29 => ?_)
      refine lv_goto (tgt := 2) hx hb d_M_free_22 rfl ?_
      cases hf27
      exact hc3 rfl H8 L9 ls28 hP11 hS12 (lv_sub hl29 [1, 2, 3, 0] rfl)
    · have hf24 := ifp hf21 h22
      cases hf24
      have e30 := he4 (by show (2 : Nat) ≠ 0; decide)
      cases e30
      exact kx2_2 rfl H8 L9 ls10 hP11 hS12 (lv_sub hl13 [] rfl)
theorem d_M_rows_0 : decode b_M_rows 0 = .ok (.aload_n 0, 1) := by decide +kernel
theorem d_M_rows_1 : decode b_M_rows 1 = .ok (.iload_n 1, 1) := by decide +kernel
theorem d_M_rows_2 : decode b_M_rows 2 = .ok (.invokevirtual 94, 3) := by decide +kernel
theorem d_M_rows_5 : decode b_M_rows 5 = .ok (.aload_n 0, 1) := by decide +kernel
theorem d_M_rows_6 : decode b_M_rows 6 = .ok (.iconst (-1), 1) := by decide +kernel
theorem d_M_rows_7 : decode b_M_rows 7 = .ok (.invokevirtual 108, 3) := by decide +kernel
theorem d_M_rows_10 : decode b_M_rows 10 = .ok (.istore_n 2, 1) := by decide +kernel
theorem d_M_rows_11 : decode b_M_rows 11 = .ok (.aload_n 0, 1) := by decide +kernel
theorem d_M_rows_12 : decode b_M_rows 12 = .ok (.getfield 36, 3) := by decide +kernel
theorem d_M_rows_15 : decode b_M_rows 15 = .ok (.invokestatic 112, 3) := by decide +kernel
theorem d_M_rows_18 : decode b_M_rows 18 = .ok (.iload_n 2, 1) := by decide +kernel
theorem d_M_rows_19 : decode b_M_rows 19 = .ok (.isub, 1) := by decide +kernel
theorem d_M_rows_20 : decode b_M_rows 20 = .ok (.istore_n 3, 1) := by decide +kernel
theorem d_M_rows_21 : decode b_M_rows 21 = .ok (.iconst 0, 1) := by decide +kernel
theorem d_M_rows_22 : decode b_M_rows 22 = .ok (.istore 4, 2) := by decide +kernel
theorem d_M_rows_24 : decode b_M_rows 24 = .ok (.iload 4, 2) := by decide +kernel
theorem d_M_rows_26 : decode b_M_rows 26 = .ok (.bipush 16, 2) := by decide +kernel
theorem d_M_rows_28 : decode b_M_rows 28 = .ok (.if_icmp .ge 108, 3) := by decide +kernel
theorem d_M_rows_31 : decode b_M_rows 31 = .ok (.iconst (-1), 1) := by decide +kernel
theorem d_M_rows_32 : decode b_M_rows 32 = .ok (.istore 5, 2) := by decide +kernel
theorem d_M_rows_34 : decode b_M_rows 34 = .ok (.iconst 0, 1) := by decide +kernel
theorem d_M_rows_35 : decode b_M_rows 35 = .ok (.istore 6, 2) := by decide +kernel
theorem d_M_rows_37 : decode b_M_rows 37 = .ok (.iconst 0, 1) := by decide +kernel
theorem d_M_rows_38 : decode b_M_rows 38 = .ok (.istore 7, 2) := by decide +kernel
theorem d_M_rows_40 : decode b_M_rows 40 = .ok (.iload 7, 2) := by decide +kernel
theorem d_M_rows_42 : decode b_M_rows 42 = .ok (.bipush 16, 2) := by decide +kernel
theorem d_M_rows_44 : decode b_M_rows 44 = .ok (.if_icmp .ge 69, 3) := by decide +kernel
theorem d_M_rows_47 : decode b_M_rows 47 = .ok (.iload 6, 2) := by decide +kernel
theorem d_M_rows_49 : decode b_M_rows 49 = .ok (.ifCond .ne 64, 3) := by decide +kernel
theorem d_M_rows_52 : decode b_M_rows 52 = .ok (.aload_n 0, 1) := by decide +kernel
theorem d_M_rows_53 : decode b_M_rows 53 = .ok (.getfield 39, 3) := by decide +kernel
theorem d_M_rows_56 : decode b_M_rows 56 = .ok (.iload 4, 2) := by decide +kernel
theorem d_M_rows_58 : decode b_M_rows 58 = .ok (.iaload, 1) := by decide +kernel
theorem d_M_rows_59 : decode b_M_rows 59 = .ok (.iload 7, 2) := by decide +kernel
theorem d_M_rows_61 : decode b_M_rows 61 = .ok (.ishr, 1) := by decide +kernel
theorem d_M_rows_62 : decode b_M_rows 62 = .ok (.iconst 1, 1) := by decide +kernel
theorem d_M_rows_63 : decode b_M_rows 63 = .ok (.iand, 1) := by decide +kernel
theorem d_M_rows_64 : decode b_M_rows 64 = .ok (.iconst 1, 1) := by decide +kernel
theorem d_M_rows_65 : decode b_M_rows 65 = .ok (.if_icmp .ne 42, 3) := by decide +kernel
theorem d_M_rows_68 : decode b_M_rows 68 = .ok (.aload_n 0, 1) := by decide +kernel
theorem d_M_rows_69 : decode b_M_rows 69 = .ok (.iload 4, 2) := by decide +kernel
theorem d_M_rows_71 : decode b_M_rows 71 = .ok (.iload 7, 2) := by decide +kernel
theorem d_M_rows_73 : decode b_M_rows 73 = .ok (.invokevirtual 115, 3) := by decide +kernel
theorem d_M_rows_76 : decode b_M_rows 76 = .ok (.ifCond .eq 31, 3) := by decide +kernel
theorem d_M_rows_79 : decode b_M_rows 79 = .ok (.aload_n 0, 1) := by decide +kernel
theorem d_M_rows_80 : decode b_M_rows 80 = .ok (.getfield 69, 3) := by decide +kernel
theorem d_M_rows_83 : decode b_M_rows 83 = .ok (.iload 4, 2) := by decide +kernel
theorem d_M_rows_85 : decode b_M_rows 85 = .ok (.iload 7, 2) := by decide +kernel
theorem d_M_rows_87 : decode b_M_rows 87 = .ok (.iastore, 1) := by decide +kernel
theorem d_M_rows_88 : decode b_M_rows 88 = .ok (.aload_n 0, 1) := by decide +kernel
theorem d_M_rows_89 : decode b_M_rows 89 = .ok (.iload 4, 2) := by decide +kernel
theorem d_M_rows_91 : decode b_M_rows 91 = .ok (.invokevirtual 108, 3) := by decide +kernel
theorem d_M_rows_94 : decode b_M_rows 94 = .ok (.iload_n 2, 1) := by decide +kernel
theorem d_M_rows_95 : decode b_M_rows 95 = .ok (.iconst 1, 1) := by decide +kernel
theorem d_M_rows_96 : decode b_M_rows 96 = .ok (.isub, 1) := by decide +kernel
theorem d_M_rows_97 : decode b_M_rows 97 = .ok (.if_icmp .ne 10, 3) := by decide +kernel
theorem d_M_rows_100 : decode b_M_rows 100 = .ok (.iload 7, 2) := by decide +kernel
theorem d_M_rows_102 : decode b_M_rows 102 = .ok (.istore 5, 2) := by decide +kernel
theorem d_M_rows_104 : decode b_M_rows 104 = .ok (.iconst 1, 1) := by decide +kernel
theorem d_M_rows_105 : decode b_M_rows 105 = .ok (.istore 6, 2) := by decide +kernel
theorem d_M_rows_107 : decode b_M_rows 107 = .ok (.iinc 7 1, 3) := by decide +kernel
theorem d_M_rows_110 : decode b_M_rows 110 = .ok (.goto (-70), 3) := by decide +kernel
theorem d_M_rows_113 : decode b_M_rows 113 = .ok (.aload_n 0, 1) := by decide +kernel
theorem d_M_rows_114 : decode b_M_rows 114 = .ok (.getfield 69, 3) := by decide +kernel
theorem d_M_rows_117 : decode b_M_rows 117 = .ok (.iload 4, 2) := by decide +kernel
theorem d_M_rows_119 : decode b_M_rows 119 = .ok (.iload 5, 2) := by decide +kernel
theorem d_M_rows_121 : decode b_M_rows 121 = .ok (.iastore, 1) := by decide +kernel
theorem d_M_rows_122 : decode b_M_rows 122 = .ok (.iload 6, 2) := by decide +kernel
theorem d_M_rows_124 : decode b_M_rows 124 = .ok (.ifCond .eq 6, 3) := by decide +kernel
theorem d_M_rows_127 : decode b_M_rows 127 = .ok (.iinc 2 (-1), 3) := by decide +kernel
theorem d_M_rows_130 : decode b_M_rows 130 = .ok (.iinc 4 1, 3) := by decide +kernel
theorem d_M_rows_133 : decode b_M_rows 133 = .ok (.goto (-109), 3) := by decide +kernel
theorem d_M_rows_136 : decode b_M_rows 136 = .ok (.iload_n 3, 1) := by decide +kernel
theorem d_M_rows_137 : decode b_M_rows 137 = .ok (.ireturn, 1) := by decide +kernel
def fm_M_rows_j113  (x47 : Int32) (x48 : Int32) (x49 : Int32) (x50 : Int32) (I51 : IS) : Option (Nat × Int32 × Int32 × IS) :=
  grd (inB x48 16) (bnd (sI I51 16 x48.toNatClampNeg x49) (fun I61 => if x50 = 0 then bnd (x48 + (1 : Int32)) (fun x72 => some (0, x47, x72, I61)) else bnd (x47 + (-1 : Int32)) (fun x77 => bnd (x48 + (1 : Int32)) (fun x82 => some (0, x77, x82, I61)))))
def fm_M_rows_B40 (x36 : Int32) (x37 : Int32) (x101 : Int32) (x102 : Int32) (x103 : Int32) (I104 : IS) : Option (Nat × Int32 × Int32 × Int32 × IS) :=
  if (16 : Int32) ≤ x103 then some (1, x101, x102, x103, I104) else if x102 = 0 then grd (inB x37 16) (if (((I104 9 x37.toNatClampNeg) >>> (x103 &&& 31)) &&& (1 : Int32)) = (1 : Int32) then ob1 (fm_M_free x37 x103 I104) (fun x131 => if x131 = 0 then bnd (x103 + (1 : Int32)) (fun x141 => some (0, x101, x102, x141, I104)) else grd (inB x37 16) (bnd (sI I104 16 x37.toNatClampNeg x103) (fun I148 => ob2 (fm_M_most x37 I148) (fun x156 I157 => if x156 = (x36 - (1 : Int32)) then bnd (x103 + (1 : Int32)) (fun x176 => some (0, x103, (1 : Int32), x176, I157)) else bnd (x103 + (1 : Int32)) (fun x167 => some (0, x101, x102, x167, I157)))))) else bnd (x103 + (1 : Int32)) (fun x126 => some (0, x101, x102, x126, I104))) else some (1, x101, x102, x103, I104)
def fm_M_rows_B24  (x36 : Int32) (x37 : Int32) (I38 : IS) : Option (Nat × Int32 × Int32 × IS) :=
  if (16 : Int32) ≤ x37 then some (1, x36, x37, I38) else ob5 (iter (fun z : Int32 × Int32 × Int32 × IS => fm_M_rows_B40 x36 x37 z.1 z.2.1 z.2.2.1 z.2.2.2) FU ((-1 : Int32), (0 : Int32), (0 : Int32), I38)) (fun _ x182 x183 x184 I185 => fm_M_rows_j113 x36 x37 x182 x183 I185)
def fm_M_rows (p0 : Int32) (I0 : IS) : Option (Int32 × IS) :=
  ob1 (fm_M_settle p0 I0) (fun I1 => ob2 (fm_M_most (-1 : Int32) I1) (fun x8 I9 => ob1 (fm_M_bits (I9 8 0)) (fun x18 => bnd (x18 - x8) (fun x25 => ob4 (iter (fun z : Int32 × Int32 × IS => fm_M_rows_B24 z.1 z.2.1 z.2.2) FU (x8, (0 : Int32), I9)) (fun _ x195 x196 I197 => some (x25, I197))))))
set_option maxHeartbeats 4000000 in
set_option maxRecDepth 100000 in
theorem cm_M_rows (l : Launch) (D : va_G) (ca : Nat → ClassId) (am : Nat → Nat) {p0 : Int32} {I0 : IS} {J0 : JS} {r : Int32 × IS} (hf : fm_M_rows p0 I0 = some r) : CtI l y_M_rows (Cond.code y_M_rows b_M_rows 8 (some .int) :: TB) { frames := 3, cells := 0, slots := 0, locals := 71 } [.ref (am 0), .int p0] D cls_all (tysC ca) NN (wM ca am I0 J0) (wM ca am r.2 J0) r.1 := by
  refine jd_metI (cc := b_M_rows) (by decide) rfl (Nat.le_of_ble_eq_true rfl) (lv := [(0, .ref (am 0)), (1, .int p0)]) rfl ?_
  intro p e R s m args below meth c A Q ls cx hR hK hN hD0 hA hP hS hl hend
  have hx := cx.1
  have hb := cx.2.1
  have hml := cx.2.2.1
  have hown := cx.2.2.2.1
  have hts := cx.2.2.2.2
  have hD : ∀ I J, va_D A (wM ca am I J) := fun I J => jd_Dc hD0 rfl
  unfold fm_M_rows at hf
  refine lv_aload_n hx hb d_M_rows_0 rfl (lv_at hl 0 rfl) ?_
  refine lv_iload_n hx hb d_M_rows_1 rfl (lv_at hl 1 rfl) ?_
  obtain ⟨I1, hc2, hf3⟩ := ob1_ex hf
  refine jd_cv (va_runV (As := [.int p0]) (rest := []) cx (cm_M_settle l D ca am hc2 s.heap.size) (cwV 1 hts (jd_gV tb_687 tb_688 tb_27 tb_47 tb_689) rfl rfl rfl ⟨rfl, by decide, by decide, rfl⟩ (by rw [hR]; decide)) ⟨jd_blind nWc, (va_recv hK hP (ci := 6) (q0 := 0) rfl rfl), (jd_pre (av := [.ref (am 0), .int p0]) hP hK (hD I0 J0) (fun U h => nWm h hN))⟩ rfl rfl hl.1 rfl (lv_room (Nat.le_of_ble_eq_true rfl)) d_M_rows_2 ⟨Nat.zero_le _, Nat.zero_le _⟩) hS (hD I0 J0) hA (fun H4 L5 hP6 hS7 => ?_)
  refine lv_aload_n hx hb d_M_rows_5 rfl (lv_at hl 0 rfl) ?_
  refine lv_iconst (v := -1) hx hb d_M_rows_6 (by decide) ?_
  obtain ⟨x8, I9, hc10, hf11⟩ := ob2_ex hf3
  refine jd_ci (va_runV (As := [.int (-1 : Int32)]) (rest := []) cx (cm_M_most l D ca am hc10 H4.size) (cwV 1 hts (jd_gV tb_803 tb_804 tb_38 tb_47 tb_805) rfl rfl rfl ⟨rfl, by decide, by decide, rfl⟩ (by rw [hR]; decide)) ⟨jd_blind nWc, (va_recv hK hP6 (ci := 6) (q0 := 0) rfl rfl), (jd_pre (av := [.ref (am 0), .int (-1 : Int32)]) hP6 hK (hD I1 J0) (fun U h => nWm h hN))⟩ rfl rfl hl.1 rfl (lv_room (Nat.le_of_ble_eq_true rfl)) d_M_rows_7 ⟨Nat.zero_le _, Nat.zero_le _⟩) hS7 (hD I1 J0) hA (fun H12 L13 hP14 hS15 => ?_)
  refine lv_istore_n hx hb d_M_rows_10 rfl hl (by decide) (lv' := [(2, .int x8), (0, .ref (am 0)), (1, .int p0)]) rfl (fun ls16 hl17 => ?_)
  refine lv_aload_n hx hb d_M_rows_11 rfl (lv_at hl17 1 rfl) ?_
  refine va_get (D := D) (ci := 6) (v := .int (I9 8 0)) (C := R_M) (T := F_M) (N := 24) hx hb hts (fun w h => List.mem_cons_of_mem _ (uw_M w h)) hown hK hP14 0 rfl rfl 8 (by decide) (hts _ (List.mem_cons_of_mem _ tb_608)) (fun _ h => h) rfl d_M_rows_12 ?_
  obtain ⟨x18, hc19, hf20⟩ := ob1_ex hf11
  refine jd_ci (va_runS (As := [.int (I9 8 0)]) (rest := []) cx (cm_M_bits l D ca (wM ca am I9 J0) (I0 := I9) (J0 := J0) hc19 H12.size) (va_cwS 1 hts (jd_gS2 tb_715 tb_716 tb_47 tb_717) rfl rfl rfl ⟨by decide, by decide, rfl⟩ (by rw [hR]; decide)) ⟨jd_blind nWc, (jd_pre (av := [.int (I9 8 0)]) hP14 hK (hD I9 J0) (fun U h => nWm h hN))⟩ rfl rfl hl17.1 rfl (lv_room (Nat.le_of_ble_eq_true rfl)) d_M_rows_15 ⟨Nat.zero_le _, Nat.zero_le _⟩) hS15 (hD I9 J0) hA (fun H21 L22 hP23 hS24 => ?_)
  refine lv_iload_n hx hb d_M_rows_18 rfl (lv_at hl17 0 rfl) ?_
  refine lv_isub hx hb d_M_rows_19 ?_
  obtain ⟨x25, e26, hf27⟩ := bnd_ex hf20
  refine jd_tni e26 ?_
  refine lv_istore_n hx hb d_M_rows_20 rfl hl17 (by decide) (lv' := [(3, .int x25), (2, .int x8), (0, .ref (am 0)), (1, .int p0)]) rfl (fun ls28 hl29 => ?_)
  refine lv_iconst (v := 0) hx hb d_M_rows_21 (by decide) ?_
  refine lv_istore hx hb d_M_rows_22 hl29 (by decide) (lv' := [(4, .int (0 : Int32)), (3, .int x25), (2, .int x8), (0, .ref (am 0)), (1, .int p0)]) rfl (fun ls30 hl31 => ?_)
  obtain ⟨tg194, x195, x196, I197, ho198, hf199⟩ := ob4_ex hf27
  have kx24_1 : ∀ (H200 : Heap) (L201 : List Loc) (ls202 : Array Slot), va_P D cls_all (wM ca am I197 J0) H200 → va_S A s.heap H200 L201 → lv_has ls202 8 [(3, .int x25)] → W p l e R s m args below meth c H200 L201 0 0 Q (F0 m 136 ls202 []) := by
    intro H200 L201 ls202 hP203 hS204 hl205
    refine lv_iload_n hx hb d_M_rows_136 rfl (lv_at hl205 0 rfl) ?_
    cases hf199
    exact hend H200 L201 137 ls202 hP203 hS204 d_M_rows_137
  refine iter_ind (C := fun z : Int32 × Int32 × IS => ∀ (H39 : Heap) (L40 : List Loc) (ls41 : Array Slot), va_P D cls_all (wM ca am z.2.2 J0) H39 → va_S A s.heap H39 L40 → lv_has ls41 8 [(0, .ref (am 0)), (2, .int z.1), (3, .int x25), (4, .int z.2.1)] → W p l e R s m args below meth c H39 L40 0 0 Q (F0 m 24 ls41 [])) (fun z35 o34 hz46 hc32 he33 => ?_) _ _ ho198 H21 L22 ls30 hP23 hS24 (lv_sub hl31 [3, 2, 1, 0] rfl)
  obtain ⟨x36, x37, I38⟩ := z35
  intro H39 L40 ls41 hP42 hS43 hl44
  have hf45 : fm_M_rows_B24 x36 x37 I38 = some o34 := hz46
  unfold fm_M_rows_B24 at hf45
  have kj113 : ∀ (x47 : Int32) (x48 : Int32) (x49 : Int32) (x50 : Int32) (I51 : IS), fm_M_rows_j113 x47 x48 x49 x50 I51 = some o34 → ∀ (H52 : Heap) (L53 : List Loc) (ls54 : Array Slot), va_P D cls_all (wM ca am I51 J0) H52 → va_S A s.heap H52 L53 → lv_has ls54 8 [(0, .ref (am 0)), (2, .int x47), (3, .int x25), (4, .int x48), (5, .int x49), (6, .int x50)] → W p l e R s m args below meth c H52 L53 0 0 Q (F0 m 113 ls54 []) := by
    intro x47 x48 x49 x50 I51 hf58 H52 L53 ls54 hP55 hS56 hl57
    unfold fm_M_rows_j113 at hf58
    refine lv_aload_n hx hb d_M_rows_113 rfl (lv_at hl57 0 rfl) ?_
    refine va_get (D := D) (ci := 6) (v := .ref (am 14)) (C := R_M) (T := F_M) (N := 24) hx hb hts (fun w h => List.mem_cons_of_mem _ (uw_M w h)) hown hK hP55 0 rfl rfl 18 (by decide) (hts _ (List.mem_cons_of_mem _ tb_618)) (fun _ h => h) rfl d_M_rows_114 ?_
    refine lv_iload hx hb d_M_rows_117 (lv_at hl57 3 rfl) ?_
    refine lv_iload hx hb d_M_rows_119 (lv_at hl57 4 rfl) ?_
    obtain ⟨hg59, hf60⟩ := grd_ex hf58
    obtain ⟨I61, e62, hf63⟩ := bnd_ex hf60
    refine va_iast hx hb hK hP55 (hD I51 J0) hS56 14 2 rfl rfl (inB_in hg59) d_M_rows_121 (fun H64 L65 hp68 _ hS67 => ?_)
    have hP66 : va_P D cls_all (wM ca am I61 J0) H64 := by rw [e62]; exact hp68
    refine lv_iload hx hb d_M_rows_122 (lv_at hl57 5 rfl) ?_
    refine lv_if_eq (tgt := 130) hx hb d_M_rows_124 rfl (fun h69 => ?_) (fun h69 => ?_)
    · have hf70 := ifp hf63 h69
      obtain ⟨x72, e73, hf74⟩ := bnd_ex hf70
      refine lv_iinc hx hb d_M_rows_130 hl57 (k := 3) rfl (v := x72) (by rw [e73]; rfl) (by decide) (lv' := [(4, .int x72), (0, .ref (am 0)), (2, .int x47), (3, .int x25), (5, .int x49), (6, .int x50)]) rfl (fun ls75 hl76 => ?_)
      refine lv_goto (tgt := 24) hx hb d_M_rows_133 rfl ?_
      cases hf74
      exact hc32 rfl H64 L65 ls75 hP66 hS67 (lv_sub hl76 [1, 2, 3, 0] rfl)
    · have hf71 := ifn hf63 h69
      obtain ⟨x77, e78, hf79⟩ := bnd_ex hf71
      refine lv_iinc hx hb d_M_rows_127 hl57 (k := 1) rfl (v := x77) (by rw [e78]; rfl) (by decide) (lv' := [(2, .int x77), (0, .ref (am 0)), (3, .int x25), (4, .int x48), (5, .int x49), (6, .int x50)]) rfl (fun ls80 hl81 => ?_)
      obtain ⟨x82, e83, hf84⟩ := bnd_ex hf79
      refine lv_iinc hx hb d_M_rows_130 hl81 (k := 3) rfl (v := x82) (by rw [e83]; rfl) (by decide) (lv' := [(4, .int x82), (2, .int x77), (0, .ref (am 0)), (3, .int x25), (5, .int x49), (6, .int x50)]) rfl (fun ls85 hl86 => ?_)
      refine lv_goto (tgt := 24) hx hb d_M_rows_133 rfl ?_
      cases hf84
      exact hc32 rfl H64 L65 ls85 hP66 hS67 (lv_sub hl86 [2, 1, 3, 0] rfl)
  refine lv_iload hx hb d_M_rows_24 (lv_at hl44 3 rfl) ?_
  refine lv_bipush (v := 16) hx hb d_M_rows_26 (by decide) ?_
  refine lv_icmp_ge (tgt := 136) hx hb d_M_rows_28 rfl (fun h87 => ?_) (fun h87 => ?_)
  · have hf88 := ifp hf45 h87
    cases hf88
    have e90 := he33 (by show (1 : Nat) ≠ 0; decide)
    cases e90
    exact kx24_1 H39 L40 ls41 hP42 hS43 (lv_sub hl44 [2] rfl)
  · have hf89 := ifn hf45 h87
    refine lv_iconst (v := -1) hx hb d_M_rows_31 (by decide) ?_
    refine lv_istore hx hb d_M_rows_32 hl44 (by decide) (lv' := [(5, .int (-1 : Int32)), (0, .ref (am 0)), (2, .int x36), (3, .int x25), (4, .int x37)]) rfl (fun ls91 hl92 => ?_)
    refine lv_iconst (v := 0) hx hb d_M_rows_34 (by decide) ?_
    refine lv_istore hx hb d_M_rows_35 hl92 (by decide) (lv' := [(6, .int (0 : Int32)), (5, .int (-1 : Int32)), (0, .ref (am 0)), (2, .int x36), (3, .int x25), (4, .int x37)]) rfl (fun ls93 hl94 => ?_)
    refine lv_iconst (v := 0) hx hb d_M_rows_37 (by decide) ?_
    refine lv_istore hx hb d_M_rows_38 hl94 (by decide) (lv' := [(7, .int (0 : Int32)), (6, .int (0 : Int32)), (5, .int (-1 : Int32)), (0, .ref (am 0)), (2, .int x36), (3, .int x25), (4, .int x37)]) rfl (fun ls95 hl96 => ?_)
    obtain ⟨tg181, x182, x183, x184, I185, ho186, hf187⟩ := ob5_ex hf89
    have kx40_1 : ∀ (H188 : Heap) (L189 : List Loc) (ls190 : Array Slot), va_P D cls_all (wM ca am I185 J0) H188 → va_S A s.heap H188 L189 → lv_has ls190 8 [(0, .ref (am 0)), (2, .int x36), (3, .int x25), (4, .int x37), (5, .int x182), (6, .int x183)] → W p l e R s m args below meth c H188 L189 0 0 Q (F0 m 113 ls190 []) := by
      intro H188 L189 ls190 hP191 hS192 hl193
      exact kj113 x36 x37 x182 x183 I185 hf187 H188 L189 ls190 hP191 hS192 (lv_sub hl193 [0, 1, 2, 3, 4, 5] rfl)
    refine iter_ind (C := fun z : Int32 × Int32 × Int32 × IS => ∀ (H105 : Heap) (L106 : List Loc) (ls107 : Array Slot), va_P D cls_all (wM ca am z.2.2.2 J0) H105 → va_S A s.heap H105 L106 → lv_has ls107 8 [(0, .ref (am 0)), (2, .int x36), (3, .int x25), (4, .int x37), (5, .int z.1), (6, .int z.2.1), (7, .int z.2.2.1)] → W p l e R s m args below meth c H105 L106 0 0 Q (F0 m 40 ls107 [])) (fun z100 o99 hz112 hc97 he98 => ?_) _ _ ho186 H39 L40 ls95 hP42 hS43 (lv_sub hl96 [3, 4, 5, 6, 2, 1, 0] rfl)
    obtain ⟨x101, x102, x103, I104⟩ := z100
    intro H105 L106 ls107 hP108 hS109 hl110
    have hf111 : fm_M_rows_B40 x36 x37 x101 x102 x103 I104 = some o99 := hz112
    unfold fm_M_rows_B40 at hf111
    refine lv_iload hx hb d_M_rows_40 (lv_at hl110 6 rfl) ?_
    refine lv_bipush (v := 16) hx hb d_M_rows_42 (by decide) ?_
    refine lv_icmp_ge (tgt := 113) hx hb d_M_rows_44 rfl (fun h113 => ?_) (fun h113 => ?_)
    · have hf114 := ifp hf111 h113
      cases hf114
      have e116 := he98 (by show (1 : Nat) ≠ 0; decide)
      cases e116
      exact kx40_1 H105 L106 ls107 hP108 hS109 (lv_sub hl110 [0, 1, 2, 3, 4, 5] rfl)
    · have hf115 := ifn hf111 h113
      refine lv_iload hx hb d_M_rows_47 (lv_at hl110 5 rfl) ?_
      refine lv_if_ne (tgt := 113) hx hb d_M_rows_49 rfl (fun h117 => ?_) (fun h117 => ?_)
      · have hf118 := ifn hf115 h117
        cases hf118
        have e120 := he98 (by show (1 : Nat) ≠ 0; decide)
        cases e120
        exact kx40_1 H105 L106 ls107 hP108 hS109 (lv_sub hl110 [0, 1, 2, 3, 4, 5] rfl)
      · have hf119 := ifp hf115 h117
        refine lv_aload_n hx hb d_M_rows_52 rfl (lv_at hl110 0 rfl) ?_
        refine va_get (D := D) (ci := 6) (v := .ref (am 7)) (C := R_M) (T := F_M) (N := 24) hx hb hts (fun w h => List.mem_cons_of_mem _ (uw_M w h)) hown hK hP108 0 rfl rfl 9 (by decide) (hts _ (List.mem_cons_of_mem _ tb_609)) (fun _ h => h) rfl d_M_rows_53 ?_
        refine lv_iload hx hb d_M_rows_56 (lv_at hl110 3 rfl) ?_
        obtain ⟨hg121, hf122⟩ := grd_ex hf119
        refine va_iald hx hb hK hP108 7 2 rfl rfl (inB_in hg121) d_M_rows_58 ?_
        refine lv_iload hx hb d_M_rows_59 (lv_at hl110 6 rfl) ?_
        refine lv_ishr hx hb d_M_rows_61 ?_
        refine lv_iconst (v := 1) hx hb d_M_rows_62 (by decide) ?_
        refine lv_iand hx hb d_M_rows_63 ?_
        refine lv_iconst (v := 1) hx hb d_M_rows_64 (by decide) ?_
        refine lv_icmp_ne (tgt := 107) hx hb d_M_rows_65 rfl (fun h123 => ?_) (fun h123 => ?_)
        · have hf124 := ifn hf122 h123
          obtain ⟨x126, e127, hf128⟩ := bnd_ex hf124
          refine lv_iinc hx hb d_M_rows_107 hl110 (k := 6) rfl (v := x126) (by rw [e127]; rfl) (by decide) (lv' := [(7, .int x126), (0, .ref (am 0)), (2, .int x36), (3, .int x25), (4, .int x37), (5, .int x101), (6, .int x102)]) rfl (fun ls129 hl130 => ?_)
          refine lv_goto (tgt := 40) hx hb d_M_rows_110 rfl ?_
          cases hf128
          exact hc97 rfl H105 L106 ls129 hP108 hS109 (lv_sub hl130 [1, 2, 3, 4, 5, 6, 0] rfl)
        · have hf125 := ifp hf122 h123
          refine lv_aload_n hx hb d_M_rows_68 rfl (lv_at hl110 0 rfl) ?_
          refine lv_iload hx hb d_M_rows_69 (lv_at hl110 3 rfl) ?_
          refine lv_iload hx hb d_M_rows_71 (lv_at hl110 6 rfl) ?_
          obtain ⟨x131, hc132, hf133⟩ := ob1_ex hf125
          refine jd_ci (va_runV (As := [.int x37, .int x103]) (rest := []) cx (cm_M_free l D ca am hc132 H105.size) (cwV 2 hts (jd_gV tb_812 tb_813 tb_41 tb_47 tb_814) rfl rfl rfl ⟨rfl, by decide, by decide, rfl⟩ (by rw [hR]; decide)) ⟨jd_blind nWc, (va_recv hK hP108 (ci := 6) (q0 := 0) rfl rfl), (jd_pre (av := [.ref (am 0), .int x37, .int x103]) hP108 hK (hD I104 J0) (fun U h => nWm h hN))⟩ rfl rfl hl110.1 rfl (lv_room (Nat.le_of_ble_eq_true rfl)) d_M_rows_73 ⟨Nat.zero_le _, Nat.zero_le _⟩) hS109 (hD I104 J0) hA (fun H134 L135 hP136 hS137 => ?_)
          refine lv_if_eq (tgt := 107) hx hb d_M_rows_76 rfl (fun h138 => ?_) (fun h138 => ?_)
          · have hf139 := ifp hf133 h138
            obtain ⟨x141, e142, hf143⟩ := bnd_ex hf139
            refine lv_iinc hx hb d_M_rows_107 hl110 (k := 6) rfl (v := x141) (by rw [e142]; rfl) (by decide) (lv' := [(7, .int x141), (0, .ref (am 0)), (2, .int x36), (3, .int x25), (4, .int x37), (5, .int x101), (6, .int x102)]) rfl (fun ls144 hl145 => ?_)
            refine lv_goto (tgt := 40) hx hb d_M_rows_110 rfl ?_
            cases hf143
            exact hc97 rfl H134 L135 ls144 hP136 hS137 (lv_sub hl145 [1, 2, 3, 4, 5, 6, 0] rfl)
          · have hf140 := ifn hf133 h138
            refine lv_aload_n hx hb d_M_rows_79 rfl (lv_at hl110 0 rfl) ?_
            refine va_get (D := D) (ci := 6) (v := .ref (am 14)) (C := R_M) (T := F_M) (N := 24) hx hb hts (fun w h => List.mem_cons_of_mem _ (uw_M w h)) hown hK hP136 0 rfl rfl 18 (by decide) (hts _ (List.mem_cons_of_mem _ tb_618)) (fun _ h => h) rfl d_M_rows_80 ?_
            refine lv_iload hx hb d_M_rows_83 (lv_at hl110 3 rfl) ?_
            refine lv_iload hx hb d_M_rows_85 (lv_at hl110 6 rfl) ?_
            obtain ⟨hg146, hf147⟩ := grd_ex hf140
            obtain ⟨I148, e149, hf150⟩ := bnd_ex hf147
            refine va_iast hx hb hK hP136 (hD I104 J0) hS137 14 2 rfl rfl (inB_in hg146) d_M_rows_87 (fun H151 L152 hp155 _ hS154 => ?_)
            have hP153 : va_P D cls_all (wM ca am I148 J0) H151 := by rw [e149]; exact hp155
            refine lv_aload_n hx hb d_M_rows_88 rfl (lv_at hl110 0 rfl) ?_
            refine lv_iload hx hb d_M_rows_89 (lv_at hl110 3 rfl) ?_
            obtain ⟨x156, I157, hc158, hf159⟩ := ob2_ex hf150
            refine jd_ci (va_runV (As := [.int x37]) (rest := []) cx (cm_M_most l D ca am hc158 H151.size) (cwV 1 hts (jd_gV tb_803 tb_804 tb_38 tb_47 tb_805) rfl rfl rfl ⟨rfl, by decide, by decide, rfl⟩ (by rw [hR]; decide)) ⟨jd_blind nWc, (va_recv hK hP153 (ci := 6) (q0 := 0) rfl rfl), (jd_pre (av := [.ref (am 0), .int x37]) hP153 hK (hD I148 J0) (fun U h => nWm h hN))⟩ rfl rfl hl110.1 rfl (lv_room (Nat.le_of_ble_eq_true rfl)) d_M_rows_91 ⟨Nat.zero_le _, Nat.zero_le _⟩) hS154 (hD I148 J0) hA (fun H160 L161 hP162 hS163 => ?_)
            refine lv_iload_n hx hb d_M_rows_94 rfl (lv_at hl110 1 rfl) ?_
            refine lv_iconst (v := 1) hx hb d_M_rows_95 (by decide) ?_
            refine lv_isub hx hb d_M_rows_96 ?_
            refine lv_icmp_ne (tgt := 107) hx hb d_M_rows_97 rfl (fun h164 => ?_) (fun h164 => ?_)
            · have hf165 := ifn hf159 h164
              obtain ⟨x167, e168, hf169⟩ := bnd_ex hf165
              refine lv_iinc hx hb d_M_rows_107 hl110 (k := 6) rfl (v := x167) (by rw [e168]; rfl) (by decide) (lv' := [(7, .int x167), (0, .ref (am 0)), (2, .int x36), (3, .int x25), (4, .int x37), (5, .int x101), (6, .int x102)]) rfl (fun ls170 hl171 => ?_)
              refine lv_goto (tgt := 40) hx hb d_M_rows_110 rfl ?_
              cases hf169
              exact hc97 rfl H160 L161 ls170 hP162 hS163 (lv_sub hl171 [1, 2, 3, 4, 5, 6, 0] rfl)
            · have hf166 := ifp hf159 h164
              refine lv_iload hx hb d_M_rows_100 (lv_at hl110 6 rfl) ?_
              refine lv_istore hx hb d_M_rows_102 hl110 (by decide) (lv' := [(5, .int x103), (0, .ref (am 0)), (2, .int x36), (3, .int x25), (4, .int x37), (6, .int x102), (7, .int x103)]) rfl (fun ls172 hl173 => ?_)
              refine lv_iconst (v := 1) hx hb d_M_rows_104 (by decide) ?_
              refine lv_istore hx hb d_M_rows_105 hl173 (by decide) (lv' := [(6, .int (1 : Int32)), (5, .int x103), (0, .ref (am 0)), (2, .int x36), (3, .int x25), (4, .int x37), (7, .int x103)]) rfl (fun ls174 hl175 => ?_)
              obtain ⟨x176, e177, hf178⟩ := bnd_ex hf166
              refine lv_iinc hx hb d_M_rows_107 hl175 (k := 6) rfl (v := x176) (by rw [e177]; rfl) (by decide) (lv' := [(7, .int x176), (6, .int (1 : Int32)), (5, .int x103), (0, .ref (am 0)), (2, .int x36), (3, .int x25), (4, .int x37)]) rfl (fun ls179 hl180 => ?_)
              refine lv_goto (tgt := 40) hx hb d_M_rows_110 rfl ?_
              cases hf178
              exact hc97 rfl H160 L161 ls179 hP162 hS163 (lv_sub hl180 [3, 4, 5, 6, 2, 1, 0] rfl)
theorem d_M_apart_0 : decode b_M_apart 0 = .ok (.iconst 0, 1) := by decide +kernel
theorem d_M_apart_1 : decode b_M_apart 1 = .ok (.istore_n 2, 1) := by decide +kernel
theorem d_M_apart_2 : decode b_M_apart 2 = .ok (.iload_n 2, 1) := by decide +kernel
theorem d_M_apart_3 : decode b_M_apart 3 = .ok (.bipush 16, 2) := by decide +kernel
theorem d_M_apart_5 : decode b_M_apart 5 = .ok (.if_icmp .ge 31, 3) := by decide +kernel
theorem d_M_apart_8 : decode b_M_apart 8 = .ok (.iload_n 1, 1) := by decide +kernel
theorem d_M_apart_9 : decode b_M_apart 9 = .ok (.iload_n 2, 1) := by decide +kernel
theorem d_M_apart_10 : decode b_M_apart 10 = .ok (.ishr, 1) := by decide +kernel
theorem d_M_apart_11 : decode b_M_apart 11 = .ok (.iconst 1, 1) := by decide +kernel
theorem d_M_apart_12 : decode b_M_apart 12 = .ok (.iand, 1) := by decide +kernel
theorem d_M_apart_13 : decode b_M_apart 13 = .ok (.iconst 1, 1) := by decide +kernel
theorem d_M_apart_14 : decode b_M_apart 14 = .ok (.if_icmp .ne 16, 3) := by decide +kernel
theorem d_M_apart_17 : decode b_M_apart 17 = .ok (.aload_n 0, 1) := by decide +kernel
theorem d_M_apart_18 : decode b_M_apart 18 = .ok (.getfield 39, 3) := by decide +kernel
theorem d_M_apart_21 : decode b_M_apart 21 = .ok (.iload_n 2, 1) := by decide +kernel
theorem d_M_apart_22 : decode b_M_apart 22 = .ok (.iaload, 1) := by decide +kernel
theorem d_M_apart_23 : decode b_M_apart 23 = .ok (.iload_n 1, 1) := by decide +kernel
theorem d_M_apart_24 : decode b_M_apart 24 = .ok (.iand, 1) := by decide +kernel
theorem d_M_apart_25 : decode b_M_apart 25 = .ok (.ifCond .eq 5, 3) := by decide +kernel
theorem d_M_apart_28 : decode b_M_apart 28 = .ok (.iconst 0, 1) := by decide +kernel
theorem d_M_apart_29 : decode b_M_apart 29 = .ok (.ireturn, 1) := by decide +kernel
theorem d_M_apart_30 : decode b_M_apart 30 = .ok (.iinc 2 1, 3) := by decide +kernel
theorem d_M_apart_33 : decode b_M_apart 33 = .ok (.goto (-31), 3) := by decide +kernel
theorem d_M_apart_36 : decode b_M_apart 36 = .ok (.iconst 1, 1) := by decide +kernel
theorem d_M_apart_37 : decode b_M_apart 37 = .ok (.ireturn, 1) := by decide +kernel
def fm_M_apart_B2 (p0 : Int32) (I0 : IS) (x7 : Int32) : Option (Nat × Int32) :=
  if (16 : Int32) ≤ x7 then some (1, x7) else if ((p0 >>> (x7 &&& 31)) &&& (1 : Int32)) = (1 : Int32) then grd (inB x7 16) (if ((I0 9 x7.toNatClampNeg) &&& p0) = 0 then bnd (x7 + (1 : Int32)) (fun x33 => some (0, x33)) else some (2, x7)) else bnd (x7 + (1 : Int32)) (fun x23 => some (0, x23))
def fm_M_apart (p0 : Int32) (I0 : IS) : Option (Int32) :=
  ob2 (iter (fun z : Int32 => fm_M_apart_B2 p0 I0 z) FU (0 : Int32)) (fun tg39 x40 => if tg39 = 1 then some (1 : Int32) else some (0 : Int32))
set_option maxHeartbeats 4000000 in
set_option maxRecDepth 100000 in
theorem cm_M_apart (l : Launch) (D : va_G) (ca : Nat → ClassId) (am : Nat → Nat) {p0 : Int32} {I0 : IS} {J0 : JS} {r : Int32} (hf : fm_M_apart p0 I0 = some r) : CtI l y_M_apart (Cond.code y_M_apart b_M_apart 3 (some .boolean) :: TB) { frames := 0, cells := 0, slots := 0, locals := 0 } [.ref (am 0), .int p0] D cls_all (tysC ca) NN (wM ca am I0 J0) (wM ca am I0 J0) r := by
  refine jd_metZ (cc := b_M_apart) (by decide) rfl (Nat.le_of_ble_eq_true rfl) (lv := [(0, .ref (am 0)), (1, .int p0)]) rfl ?_
  intro p e R s m args below meth c A Q ls cx hR hK hN hD0 hA hP hS hl hend
  have hx := cx.1
  have hb := cx.2.1
  have hml := cx.2.2.1
  have hown := cx.2.2.2.1
  have hts := cx.2.2.2.2
  have hD : ∀ I J, va_D A (wM ca am I J) := fun I J => jd_Dc hD0 rfl
  unfold fm_M_apart at hf
  refine lv_iconst (v := 0) hx hb d_M_apart_0 (by decide) ?_
  refine lv_istore_n hx hb d_M_apart_1 rfl hl (by decide) (lv' := [(2, .int (0 : Int32)), (0, .ref (am 0)), (1, .int p0)]) rfl (fun ls1 hl2 => ?_)
  obtain ⟨tg39, x40, ho41, hf42⟩ := ob2_ex hf
  have kx2_1 : tg39 = 1 → ∀ (H43 : Heap) (L44 : List Loc) (ls45 : Array Slot), va_P D cls_all (wM ca am I0 J0) H43 → va_S A s.heap H43 L44 → lv_has ls45 3 [] → W p l e R s m args below meth c H43 L44 0 0 Q (F0 m 36 ls45 []) := by
    intro ht50 H43 L44 ls45 hP46 hS47 hl48
    have hf49 := ifp hf42 ht50
    refine lv_iconst (v := 1) hx hb d_M_apart_36 (by decide) ?_
    cases hf49
    exact hend H43 L44 37 ls45 (show narrow .boolean (.int (1 : Int32)) = .int (1 : Int32) from rfl) hP46 hS47 d_M_apart_37
  have kx2_2 : tg39 = 2 → ∀ (H51 : Heap) (L52 : List Loc) (ls53 : Array Slot), va_P D cls_all (wM ca am I0 J0) H51 → va_S A s.heap H51 L52 → lv_has ls53 3 [] → W p l e R s m args below meth c H51 L52 0 0 Q (F0 m 28 ls53 []) := by
    intro ht58 H51 L52 ls53 hP54 hS55 hl56
    have hf59 := ifn hf42 (by rw [ht58]; decide)
    have hf57 := hf59
    refine lv_iconst (v := 0) hx hb d_M_apart_28 (by decide) ?_
    cases hf57
    exact hend H51 L52 29 ls53 (show narrow .boolean (.int (0 : Int32)) = .int (0 : Int32) from rfl) hP54 hS55 d_M_apart_29
  refine iter_ind (C := fun z : Int32 => ∀ (H8 : Heap) (L9 : List Loc) (ls10 : Array Slot), va_P D cls_all (wM ca am I0 J0) H8 → va_S A s.heap H8 L9 → lv_has ls10 3 [(0, .ref (am 0)), (1, .int p0), (2, .int z)] → W p l e R s m args below meth c H8 L9 0 0 Q (F0 m 2 ls10 [])) (fun x7 o5 hz15 hc3 he4 => ?_) _ _ ho41 s.heap [] ls1 hP hS (lv_sub hl2 [1, 2, 0] rfl)
  intro H8 L9 ls10 hP11 hS12 hl13
  have hf14 : fm_M_apart_B2 p0 I0 x7 = some o5 := hz15
  unfold fm_M_apart_B2 at hf14
  refine lv_iload_n hx hb d_M_apart_2 rfl (lv_at hl13 2 rfl) ?_
  refine lv_bipush (v := 16) hx hb d_M_apart_3 (by decide) ?_
  refine lv_icmp_ge (tgt := 36) hx hb d_M_apart_5 rfl (fun h16 => ?_) (fun h16 => ?_)
  · have hf17 := ifp hf14 h16
    cases hf17
    have e19 := he4 (by show (1 : Nat) ≠ 0; decide)
    cases e19
    exact kx2_1 rfl H8 L9 ls10 hP11 hS12 (lv_sub hl13 [] rfl)
  · have hf18 := ifn hf14 h16
    refine lv_iload_n hx hb d_M_apart_8 rfl (lv_at hl13 1 rfl) ?_
    refine lv_iload_n hx hb d_M_apart_9 rfl (lv_at hl13 2 rfl) ?_
    refine lv_ishr hx hb d_M_apart_10 ?_
    refine lv_iconst (v := 1) hx hb d_M_apart_11 (by decide) ?_
    refine lv_iand hx hb d_M_apart_12 ?_
    refine lv_iconst (v := 1) hx hb d_M_apart_13 (by decide) ?_
    refine lv_icmp_ne (tgt := 30) hx hb d_M_apart_14 rfl (fun h20 => ?_) (fun h20 => ?_)
    · have hf21 := ifn hf18 h20
      obtain ⟨x23, e24, hf25⟩ := bnd_ex hf21
      refine lv_iinc hx hb d_M_apart_30 hl13 (k := 2) rfl (v := x23) (by rw [e24]; rfl) (by decide) (lv' := [(2, .int x23), (0, .ref (am 0)), (1, .int p0)]) rfl (fun ls26 hl27 => ?_)
      refine lv_goto (tgt := 2) hx hb d_M_apart_33 rfl ?_
      cases hf25
      exact hc3 rfl H8 L9 ls26 hP11 hS12 (lv_sub hl27 [1, 2, 0] rfl)
    · have hf22 := ifp hf18 h20
      refine lv_aload_n hx hb d_M_apart_17 rfl (lv_at hl13 0 rfl) ?_
      refine va_get (D := D) (ci := 6) (v := .ref (am 7)) (C := R_M) (T := F_M) (N := 24) hx hb hts (fun w h => List.mem_cons_of_mem _ (uw_M w h)) hown hK hP11 0 rfl rfl 9 (by decide) (hts _ (List.mem_cons_of_mem _ tb_609)) (fun _ h => h) rfl d_M_apart_18 ?_
      refine lv_iload_n hx hb d_M_apart_21 rfl (lv_at hl13 2 rfl) ?_
      obtain ⟨hg28, hf29⟩ := grd_ex hf22
      refine va_iald hx hb hK hP11 7 2 rfl rfl (inB_in hg28) d_M_apart_22 ?_
      refine lv_iload_n hx hb d_M_apart_23 rfl (lv_at hl13 1 rfl) ?_
      refine lv_iand hx hb d_M_apart_24 ?_
      refine lv_if_eq (tgt := 30) hx hb d_M_apart_25 rfl (fun h30 => ?_) (fun h30 => ?_)
      · have hf31 := ifp hf29 h30
        obtain ⟨x33, e34, hf35⟩ := bnd_ex hf31
        refine lv_iinc hx hb d_M_apart_30 hl13 (k := 2) rfl (v := x33) (by rw [e34]; rfl) (by decide) (lv' := [(2, .int x33), (0, .ref (am 0)), (1, .int p0)]) rfl (fun ls36 hl37 => ?_)
        refine lv_goto (tgt := 2) hx hb d_M_apart_33 rfl ?_
        cases hf35
        exact hc3 rfl H8 L9 ls36 hP11 hS12 (lv_sub hl37 [1, 2, 0] rfl)
      · have hf32 := ifn hf29 h30
        cases hf32
        have e38 := he4 (by show (2 : Nat) ≠ 0; decide)
        cases e38
        exact kx2_2 rfl H8 L9 ls10 hP11 hS12 (lv_sub hl13 [] rfl)
theorem d_M_widest_0 : decode b_M_widest 0 = .ok (.aload_n 0, 1) := by decide +kernel
theorem d_M_widest_1 : decode b_M_widest 1 = .ok (.iload_n 1, 1) := by decide +kernel
theorem d_M_widest_2 : decode b_M_widest 2 = .ok (.invokevirtual 94, 3) := by decide +kernel
theorem d_M_widest_5 : decode b_M_widest 5 = .ok (.aload_n 0, 1) := by decide +kernel
theorem d_M_widest_6 : decode b_M_widest 6 = .ok (.iconst 0, 1) := by decide +kernel
theorem d_M_widest_7 : decode b_M_widest 7 = .ok (.putfield 84, 3) := by decide +kernel
theorem d_M_widest_10 : decode b_M_widest 10 = .ok (.iconst 0, 1) := by decide +kernel
theorem d_M_widest_11 : decode b_M_widest 11 = .ok (.istore_n 2, 1) := by decide +kernel
theorem d_M_widest_12 : decode b_M_widest 12 = .ok (.iconst 1, 1) := by decide +kernel
theorem d_M_widest_13 : decode b_M_widest 13 = .ok (.istore_n 3, 1) := by decide +kernel
theorem d_M_widest_14 : decode b_M_widest 14 = .ok (.iload_n 3, 1) := by decide +kernel
theorem d_M_widest_15 : decode b_M_widest 15 = .ok (.aload_n 0, 1) := by decide +kernel
theorem d_M_widest_16 : decode b_M_widest 16 = .ok (.getfield 36, 3) := by decide +kernel
theorem d_M_widest_19 : decode b_M_widest 19 = .ok (.if_icmp .gt 65, 3) := by decide +kernel
theorem d_M_widest_22 : decode b_M_widest 22 = .ok (.iload_n 3, 1) := by decide +kernel
theorem d_M_widest_23 : decode b_M_widest 23 = .ok (.aload_n 0, 1) := by decide +kernel
theorem d_M_widest_24 : decode b_M_widest 24 = .ok (.getfield 36, 3) := by decide +kernel
theorem d_M_widest_27 : decode b_M_widest 27 = .ok (.iconst (-1), 1) := by decide +kernel
theorem d_M_widest_28 : decode b_M_widest 28 = .ok (.ixor, 1) := by decide +kernel
theorem d_M_widest_29 : decode b_M_widest 29 = .ok (.iand, 1) := by decide +kernel
theorem d_M_widest_30 : decode b_M_widest 30 = .ok (.ifCond .ne 48, 3) := by decide +kernel
theorem d_M_widest_33 : decode b_M_widest 33 = .ok (.aload_n 0, 1) := by decide +kernel
theorem d_M_widest_34 : decode b_M_widest 34 = .ok (.iload_n 3, 1) := by decide +kernel
theorem d_M_widest_35 : decode b_M_widest 35 = .ok (.invokevirtual 118, 3) := by decide +kernel
theorem d_M_widest_38 : decode b_M_widest 38 = .ok (.ifCond .eq 40, 3) := by decide +kernel
theorem d_M_widest_41 : decode b_M_widest 41 = .ok (.iload_n 3, 1) := by decide +kernel
theorem d_M_widest_42 : decode b_M_widest 42 = .ok (.invokestatic 112, 3) := by decide +kernel
theorem d_M_widest_45 : decode b_M_widest 45 = .ok (.istore 4, 2) := by decide +kernel
theorem d_M_widest_47 : decode b_M_widest 47 = .ok (.iload 4, 2) := by decide +kernel
theorem d_M_widest_49 : decode b_M_widest 49 = .ok (.iload_n 2, 1) := by decide +kernel
theorem d_M_widest_50 : decode b_M_widest 50 = .ok (.if_icmp .gt 20, 3) := by decide +kernel
theorem d_M_widest_53 : decode b_M_widest 53 = .ok (.iload 4, 2) := by decide +kernel
theorem d_M_widest_55 : decode b_M_widest 55 = .ok (.iload_n 2, 1) := by decide +kernel
theorem d_M_widest_56 : decode b_M_widest 56 = .ok (.if_icmp .ne 22, 3) := by decide +kernel
theorem d_M_widest_59 : decode b_M_widest 59 = .ok (.iload_n 3, 1) := by decide +kernel
theorem d_M_widest_60 : decode b_M_widest 60 = .ok (.aload_n 0, 1) := by decide +kernel
theorem d_M_widest_61 : decode b_M_widest 61 = .ok (.getfield 84, 3) := by decide +kernel
theorem d_M_widest_64 : decode b_M_widest 64 = .ok (.invokestatic 121, 3) := by decide +kernel
theorem d_M_widest_67 : decode b_M_widest 67 = .ok (.ifCond .eq 11, 3) := by decide +kernel
theorem d_M_widest_70 : decode b_M_widest 70 = .ok (.iload 4, 2) := by decide +kernel
theorem d_M_widest_72 : decode b_M_widest 72 = .ok (.istore_n 2, 1) := by decide +kernel
theorem d_M_widest_73 : decode b_M_widest 73 = .ok (.aload_n 0, 1) := by decide +kernel
theorem d_M_widest_74 : decode b_M_widest 74 = .ok (.iload_n 3, 1) := by decide +kernel
theorem d_M_widest_75 : decode b_M_widest 75 = .ok (.putfield 84, 3) := by decide +kernel
theorem d_M_widest_78 : decode b_M_widest 78 = .ok (.iinc 3 1, 3) := by decide +kernel
theorem d_M_widest_81 : decode b_M_widest 81 = .ok (.goto (-67), 3) := by decide +kernel
theorem d_M_widest_84 : decode b_M_widest 84 = .ok (.return_, 1) := by decide +kernel
def fm_M_widest_B14  (x24 : Int32) (x25 : Int32) (I26 : IS) : Option (Nat × Int32 × Int32 × IS) :=
  if (I26 8 0) < x25 then some (1, x24, x25, I26) else if (x25 &&& ((I26 8 0) ^^^ (-1 : Int32))) = 0 then ob1 (fm_M_apart x25 I26) (fun x47 => if x47 = 0 then bnd (x25 + (1 : Int32)) (fun x57 => some (0, x24, x57, I26)) else ob1 (fm_M_bits x25) (fun x62 => if x24 < x62 then bnd (sV I26 20 x25) (fun I76 => bnd (x25 + (1 : Int32)) (fun x84 => some (0, x62, x84, I76))) else if x62 = x24 then ob1 (fm_M_earlier x25 (I26 20 0)) (fun x97 => if x97 = 0 then bnd (x25 + (1 : Int32)) (fun x107 => some (0, x24, x107, I26)) else bnd (sV I26 20 x25) (fun I114 => bnd (x25 + (1 : Int32)) (fun x122 => some (0, x62, x122, I114)))) else bnd (x25 + (1 : Int32)) (fun x92 => some (0, x24, x92, I26)))) else bnd (x25 + (1 : Int32)) (fun x42 => some (0, x24, x42, I26))
def fm_M_widest (p0 : Int32) (I0 : IS) : Option (IS) :=
  ob1 (fm_M_settle p0 I0) (fun I1 => bnd (sV I1 20 (0 : Int32)) (fun I8 => ob4 (iter (fun z : Int32 × Int32 × IS => fm_M_widest_B14 z.1 z.2.1 z.2.2) FU ((0 : Int32), (1 : Int32), I8)) (fun _ x128 x129 I130 => some I130)))
set_option maxHeartbeats 4000000 in
set_option maxRecDepth 100000 in
theorem cm_M_widest (l : Launch) (D : va_G) (ca : Nat → ClassId) (am : Nat → Nat) {p0 : Int32} {I0 : IS} {J0 : JS} {r : IS} (hf : fm_M_widest p0 I0 = some r) : CtV l y_M_widest (Cond.code y_M_widest b_M_widest 5 none :: TB) { frames := 3, cells := 0, slots := 0, locals := 68 } [.ref (am 0), .int p0] D cls_all (tysC ca) NN (wM ca am I0 J0) (wM ca am r J0) := by
  refine jd_metV (cc := b_M_widest) (by decide) rfl (Nat.le_of_ble_eq_true rfl) (lv := [(0, .ref (am 0)), (1, .int p0)]) rfl ?_
  intro p e R s m args below meth c A Q ls cx hR hK hN hD0 hA hP hS hl hend
  have hx := cx.1
  have hb := cx.2.1
  have hml := cx.2.2.1
  have hown := cx.2.2.2.1
  have hts := cx.2.2.2.2
  have hD : ∀ I J, va_D A (wM ca am I J) := fun I J => jd_Dc hD0 rfl
  unfold fm_M_widest at hf
  refine lv_aload_n hx hb d_M_widest_0 rfl (lv_at hl 0 rfl) ?_
  refine lv_iload_n hx hb d_M_widest_1 rfl (lv_at hl 1 rfl) ?_
  obtain ⟨I1, hc2, hf3⟩ := ob1_ex hf
  refine jd_cv (va_runV (As := [.int p0]) (rest := []) cx (cm_M_settle l D ca am hc2 s.heap.size) (cwV 1 hts (jd_gV tb_687 tb_688 tb_27 tb_47 tb_689) rfl rfl rfl ⟨rfl, by decide, by decide, rfl⟩ (by rw [hR]; decide)) ⟨jd_blind nWc, (va_recv hK hP (ci := 6) (q0 := 0) rfl rfl), (jd_pre (av := [.ref (am 0), .int p0]) hP hK (hD I0 J0) (fun U h => nWm h hN))⟩ rfl rfl hl.1 rfl (lv_room (Nat.le_of_ble_eq_true rfl)) d_M_widest_2 ⟨Nat.zero_le _, Nat.zero_le _⟩) hS (hD I0 J0) hA (fun H4 L5 hP6 hS7 => ?_)
  refine lv_aload_n hx hb d_M_widest_5 rfl (lv_at hl 0 rfl) ?_
  refine lv_iconst (v := 0) hx hb d_M_widest_6 (by decide) ?_
  obtain ⟨I8, e9, hf10⟩ := bnd_ex hf3
  refine va_put (D := D) (ci := 6) (v := .int (0 : Int32)) (ty := .int) (C := R_M) (T := F_M) (N := 24) hx hb hts (fun w h => List.mem_cons_of_mem _ (uw_M w h)) ft_M tk_M n_M hown hK hP6 (hD I1 J0) hS7 0 rfl rfl 23 (by decide) (hts _ (List.mem_cons_of_mem _ tb_623)) (fun _ h => h) rfl (by decide +kernel) rfl rfl (Nat.le_of_ble_eq_true rfl) d_M_widest_7 (fun H11 L12 hp15 _ hS14 => ?_)
  have hP13 : va_P D cls_all (wM ca am I8 J0) H11 := by rw [e9]; exact hp15
  refine lv_iconst (v := 0) hx hb d_M_widest_10 (by decide) ?_
  refine lv_istore_n hx hb d_M_widest_11 rfl hl (by decide) (lv' := [(2, .int (0 : Int32)), (0, .ref (am 0)), (1, .int p0)]) rfl (fun ls16 hl17 => ?_)
  refine lv_iconst (v := 1) hx hb d_M_widest_12 (by decide) ?_
  refine lv_istore_n hx hb d_M_widest_13 rfl hl17 (by decide) (lv' := [(3, .int (1 : Int32)), (2, .int (0 : Int32)), (0, .ref (am 0)), (1, .int p0)]) rfl (fun ls18 hl19 => ?_)
  obtain ⟨tg127, x128, x129, I130, ho131, hf132⟩ := ob4_ex hf10
  have kx14_1 : ∀ (H133 : Heap) (L134 : List Loc) (ls135 : Array Slot), va_P D cls_all (wM ca am I130 J0) H133 → va_S A s.heap H133 L134 → lv_has ls135 5 [] → W p l e R s m args below meth c H133 L134 0 0 Q (F0 m 84 ls135 []) := by
    intro H133 L134 ls135 hP136 hS137 hl138
    cases hf132
    exact hend H133 L134 84 ls135 hP136 hS137 d_M_widest_84
  refine iter_ind (C := fun z : Int32 × Int32 × IS => ∀ (H27 : Heap) (L28 : List Loc) (ls29 : Array Slot), va_P D cls_all (wM ca am z.2.2 J0) H27 → va_S A s.heap H27 L28 → lv_has ls29 5 [(0, .ref (am 0)), (2, .int z.1), (3, .int z.2.1)] → W p l e R s m args below meth c H27 L28 0 0 Q (F0 m 14 ls29 [])) (fun z23 o22 hz34 hc20 he21 => ?_) _ _ ho131 H11 L12 ls18 hP13 hS14 (lv_sub hl19 [2, 1, 0] rfl)
  obtain ⟨x24, x25, I26⟩ := z23
  intro H27 L28 ls29 hP30 hS31 hl32
  have hf33 : fm_M_widest_B14 x24 x25 I26 = some o22 := hz34
  unfold fm_M_widest_B14 at hf33
  refine lv_iload_n hx hb d_M_widest_14 rfl (lv_at hl32 2 rfl) ?_
  refine lv_aload_n hx hb d_M_widest_15 rfl (lv_at hl32 0 rfl) ?_
  refine va_get (D := D) (ci := 6) (v := .int (I26 8 0)) (C := R_M) (T := F_M) (N := 24) hx hb hts (fun w h => List.mem_cons_of_mem _ (uw_M w h)) hown hK hP30 0 rfl rfl 8 (by decide) (hts _ (List.mem_cons_of_mem _ tb_608)) (fun _ h => h) rfl d_M_widest_16 ?_
  refine lv_icmp_gt (tgt := 84) hx hb d_M_widest_19 rfl (fun h35 => ?_) (fun h35 => ?_)
  · have hf36 := ifp hf33 h35
    cases hf36
    have e38 := he21 (by show (1 : Nat) ≠ 0; decide)
    cases e38
    exact kx14_1 H27 L28 ls29 hP30 hS31 (lv_sub hl32 [] rfl)
  · have hf37 := ifn hf33 h35
    refine lv_iload_n hx hb d_M_widest_22 rfl (lv_at hl32 2 rfl) ?_
    refine lv_aload_n hx hb d_M_widest_23 rfl (lv_at hl32 0 rfl) ?_
    refine va_get (D := D) (ci := 6) (v := .int (I26 8 0)) (C := R_M) (T := F_M) (N := 24) hx hb hts (fun w h => List.mem_cons_of_mem _ (uw_M w h)) hown hK hP30 0 rfl rfl 8 (by decide) (hts _ (List.mem_cons_of_mem _ tb_608)) (fun _ h => h) rfl d_M_widest_24 ?_
    refine lv_iconst (v := -1) hx hb d_M_widest_27 (by decide) ?_
    refine lv_ixor hx hb d_M_widest_28 ?_
    refine lv_iand hx hb d_M_widest_29 ?_
    refine lv_if_ne (tgt := 78) hx hb d_M_widest_30 rfl (fun h39 => ?_) (fun h39 => ?_)
    · have hf40 := ifn hf37 h39
      obtain ⟨x42, e43, hf44⟩ := bnd_ex hf40
      refine lv_iinc hx hb d_M_widest_78 hl32 (k := 2) rfl (v := x42) (by rw [e43]; rfl) (by decide) (lv' := [(3, .int x42), (0, .ref (am 0)), (2, .int x24)]) rfl (fun ls45 hl46 => ?_)
      refine lv_goto (tgt := 14) hx hb d_M_widest_81 rfl ?_
      cases hf44
      exact hc20 rfl H27 L28 ls45 hP30 hS31 (lv_sub hl46 [1, 2, 0] rfl)
    · have hf41 := ifp hf37 h39
      refine lv_aload_n hx hb d_M_widest_33 rfl (lv_at hl32 0 rfl) ?_
      refine lv_iload_n hx hb d_M_widest_34 rfl (lv_at hl32 2 rfl) ?_
      obtain ⟨x47, hc48, hf49⟩ := ob1_ex hf41
      refine jd_ci (va_runV (As := [.int x25]) (rest := []) cx (cm_M_apart l D ca am hc48 H27.size) (cwV 1 hts (jd_gV tb_786 tb_787 tb_36 tb_47 tb_788) rfl rfl rfl ⟨rfl, by decide, by decide, rfl⟩ (by rw [hR]; decide)) ⟨jd_blind nWc, (va_recv hK hP30 (ci := 6) (q0 := 0) rfl rfl), (jd_pre (av := [.ref (am 0), .int x25]) hP30 hK (hD I26 J0) (fun U h => nWm h hN))⟩ rfl rfl hl32.1 rfl (lv_room (Nat.le_of_ble_eq_true rfl)) d_M_widest_35 ⟨Nat.zero_le _, Nat.zero_le _⟩) hS31 (hD I26 J0) hA (fun H50 L51 hP52 hS53 => ?_)
      refine lv_if_eq (tgt := 78) hx hb d_M_widest_38 rfl (fun h54 => ?_) (fun h54 => ?_)
      · have hf55 := ifp hf49 h54
        obtain ⟨x57, e58, hf59⟩ := bnd_ex hf55
        refine lv_iinc hx hb d_M_widest_78 hl32 (k := 2) rfl (v := x57) (by rw [e58]; rfl) (by decide) (lv' := [(3, .int x57), (0, .ref (am 0)), (2, .int x24)]) rfl (fun ls60 hl61 => ?_)
        refine lv_goto (tgt := 14) hx hb d_M_widest_81 rfl ?_
        cases hf59
        exact hc20 rfl H50 L51 ls60 hP52 hS53 (lv_sub hl61 [1, 2, 0] rfl)
      · have hf56 := ifn hf49 h54
        refine lv_iload_n hx hb d_M_widest_41 rfl (lv_at hl32 2 rfl) ?_
        obtain ⟨x62, hc63, hf64⟩ := ob1_ex hf56
        refine jd_ci (va_runS (As := [.int x25]) (rest := []) cx (cm_M_bits l D ca (wM ca am I26 J0) (I0 := I26) (J0 := J0) hc63 H50.size) (va_cwS 1 hts (jd_gS2 tb_715 tb_716 tb_47 tb_717) rfl rfl rfl ⟨by decide, by decide, rfl⟩ (by rw [hR]; decide)) ⟨jd_blind nWc, (jd_pre (av := [.int x25]) hP52 hK (hD I26 J0) (fun U h => nWm h hN))⟩ rfl rfl hl32.1 rfl (lv_room (Nat.le_of_ble_eq_true rfl)) d_M_widest_42 ⟨Nat.zero_le _, Nat.zero_le _⟩) hS53 (hD I26 J0) hA (fun H65 L66 hP67 hS68 => ?_)
        refine lv_istore hx hb d_M_widest_45 hl32 (by decide) (lv' := [(4, .int x62), (0, .ref (am 0)), (2, .int x24), (3, .int x25)]) rfl (fun ls69 hl70 => ?_)
        refine lv_iload hx hb d_M_widest_47 (lv_at hl70 0 rfl) ?_
        refine lv_iload_n hx hb d_M_widest_49 rfl (lv_at hl70 2 rfl) ?_
        refine lv_icmp_gt (tgt := 70) hx hb d_M_widest_50 rfl (fun h71 => ?_) (fun h71 => ?_)
        · have hf72 := ifp hf64 h71
          refine lv_iload hx hb d_M_widest_70 (lv_at hl70 0 rfl) ?_
          refine lv_istore_n hx hb d_M_widest_72 rfl hl70 (by decide) (lv' := [(2, .int x62), (4, .int x62), (0, .ref (am 0)), (3, .int x25)]) rfl (fun ls74 hl75 => ?_)
          refine lv_aload_n hx hb d_M_widest_73 rfl (lv_at hl75 2 rfl) ?_
          refine lv_iload_n hx hb d_M_widest_74 rfl (lv_at hl75 3 rfl) ?_
          obtain ⟨I76, e77, hf78⟩ := bnd_ex hf72
          refine va_put (D := D) (ci := 6) (v := .int x25) (ty := .int) (C := R_M) (T := F_M) (N := 24) hx hb hts (fun w h => List.mem_cons_of_mem _ (uw_M w h)) ft_M tk_M n_M hown hK hP67 (hD I26 J0) hS68 0 rfl rfl 23 (by decide) (hts _ (List.mem_cons_of_mem _ tb_623)) (fun _ h => h) rfl (by decide +kernel) rfl rfl (Nat.le_of_ble_eq_true rfl) d_M_widest_75 (fun H79 L80 hp83 _ hS82 => ?_)
          have hP81 : va_P D cls_all (wM ca am I76 J0) H79 := by rw [e77]; exact hp83
          obtain ⟨x84, e85, hf86⟩ := bnd_ex hf78
          refine lv_iinc hx hb d_M_widest_78 hl75 (k := 3) rfl (v := x84) (by rw [e85]; rfl) (by decide) (lv' := [(3, .int x84), (2, .int x62), (4, .int x62), (0, .ref (am 0))]) rfl (fun ls87 hl88 => ?_)
          refine lv_goto (tgt := 14) hx hb d_M_widest_81 rfl ?_
          cases hf86
          exact hc20 rfl H79 L80 ls87 hP81 hS82 (lv_sub hl88 [3, 1, 0] rfl)
        · have hf73 := ifn hf64 h71
          refine lv_iload hx hb d_M_widest_53 (lv_at hl70 0 rfl) ?_
          refine lv_iload_n hx hb d_M_widest_55 rfl (lv_at hl70 2 rfl) ?_
          refine lv_icmp_ne (tgt := 78) hx hb d_M_widest_56 rfl (fun h89 => ?_) (fun h89 => ?_)
          · have hf90 := ifn hf73 h89
            obtain ⟨x92, e93, hf94⟩ := bnd_ex hf90
            refine lv_iinc hx hb d_M_widest_78 hl70 (k := 3) rfl (v := x92) (by rw [e93]; rfl) (by decide) (lv' := [(3, .int x92), (4, .int x62), (0, .ref (am 0)), (2, .int x24)]) rfl (fun ls95 hl96 => ?_)
            refine lv_goto (tgt := 14) hx hb d_M_widest_81 rfl ?_
            cases hf94
            exact hc20 rfl H65 L66 ls95 hP67 hS68 (lv_sub hl96 [2, 3, 0] rfl)
          · have hf91 := ifp hf73 h89
            refine lv_iload_n hx hb d_M_widest_59 rfl (lv_at hl70 3 rfl) ?_
            refine lv_aload_n hx hb d_M_widest_60 rfl (lv_at hl70 1 rfl) ?_
            refine va_get (D := D) (ci := 6) (v := .int (I26 20 0)) (C := R_M) (T := F_M) (N := 24) hx hb hts (fun w h => List.mem_cons_of_mem _ (uw_M w h)) hown hK hP67 0 rfl rfl 23 (by decide) (hts _ (List.mem_cons_of_mem _ tb_623)) (fun _ h => h) rfl d_M_widest_61 ?_
            obtain ⟨x97, hc98, hf99⟩ := ob1_ex hf91
            refine jd_ci (va_runS (As := [.int x25, .int (I26 20 0)]) (rest := []) cx (cm_M_earlier l D ca (wM ca am I26 J0) (I0 := I26) (J0 := J0) hc98 H65.size) (va_cwS 2 hts (jd_gS2 tb_789 tb_790 tb_47 tb_791) rfl rfl rfl ⟨by decide, by decide, rfl⟩ (by rw [hR]; decide)) ⟨jd_blind nWc, (jd_pre (av := [.int x25, .int (I26 20 0)]) hP67 hK (hD I26 J0) (fun U h => nWm h hN))⟩ rfl rfl hl70.1 rfl (lv_room (Nat.le_of_ble_eq_true rfl)) d_M_widest_64 ⟨Nat.zero_le _, Nat.zero_le _⟩) hS68 (hD I26 J0) hA (fun H100 L101 hP102 hS103 => ?_)
            refine lv_if_eq (tgt := 78) hx hb d_M_widest_67 rfl (fun h104 => ?_) (fun h104 => ?_)
            · have hf105 := ifp hf99 h104
              obtain ⟨x107, e108, hf109⟩ := bnd_ex hf105
              refine lv_iinc hx hb d_M_widest_78 hl70 (k := 3) rfl (v := x107) (by rw [e108]; rfl) (by decide) (lv' := [(3, .int x107), (4, .int x62), (0, .ref (am 0)), (2, .int x24)]) rfl (fun ls110 hl111 => ?_)
              refine lv_goto (tgt := 14) hx hb d_M_widest_81 rfl ?_
              cases hf109
              exact hc20 rfl H100 L101 ls110 hP102 hS103 (lv_sub hl111 [2, 3, 0] rfl)
            · have hf106 := ifn hf99 h104
              refine lv_iload hx hb d_M_widest_70 (lv_at hl70 0 rfl) ?_
              refine lv_istore_n hx hb d_M_widest_72 rfl hl70 (by decide) (lv' := [(2, .int x62), (4, .int x62), (0, .ref (am 0)), (3, .int x25)]) rfl (fun ls112 hl113 => ?_)
              refine lv_aload_n hx hb d_M_widest_73 rfl (lv_at hl113 2 rfl) ?_
              refine lv_iload_n hx hb d_M_widest_74 rfl (lv_at hl113 3 rfl) ?_
              obtain ⟨I114, e115, hf116⟩ := bnd_ex hf106
              refine va_put (D := D) (ci := 6) (v := .int x25) (ty := .int) (C := R_M) (T := F_M) (N := 24) hx hb hts (fun w h => List.mem_cons_of_mem _ (uw_M w h)) ft_M tk_M n_M hown hK hP102 (hD I26 J0) hS103 0 rfl rfl 23 (by decide) (hts _ (List.mem_cons_of_mem _ tb_623)) (fun _ h => h) rfl (by decide +kernel) rfl rfl (Nat.le_of_ble_eq_true rfl) d_M_widest_75 (fun H117 L118 hp121 _ hS120 => ?_)
              have hP119 : va_P D cls_all (wM ca am I114 J0) H117 := by rw [e115]; exact hp121
              obtain ⟨x122, e123, hf124⟩ := bnd_ex hf116
              refine lv_iinc hx hb d_M_widest_78 hl113 (k := 3) rfl (v := x122) (by rw [e123]; rfl) (by decide) (lv' := [(3, .int x122), (2, .int x62), (4, .int x62), (0, .ref (am 0))]) rfl (fun ls125 hl126 => ?_)
              refine lv_goto (tgt := 14) hx hb d_M_widest_81 rfl ?_
              cases hf124
              exact hc20 rfl H117 L118 ls125 hP119 hS120 (lv_sub hl126 [3, 1, 0] rfl)
