/-- the desk, and the law's own array of one long -/
def wDo (ca : Nat → ClassId) (ad : Nat → Nat) (hs : Nat → Option Nat) (I : IS) (J : JS) : va_W := [(ad 15, .inr (3, [.ref (ad 16), .ref (ad 17), .ref (ad 18), .ref (ad 21), .int (I 17 0)])), (ad 16, .inl (ca 4, 12, .inr (.inr (.inr (.inr hs))))), (ad 17, .inl (ca 2, 16, .inl (I 16))), (ad 18, .inr (4, [.ref (ad 19), .int (I 19 0), .ref (ad 20)])), (ad 19, .inl (ca 2, 16, .inl (I 18))), (ad 20, .inl (ca 2, 16, .inl (I 20))), (ad 21, .inr (5, [.ref (ad 22), .ref (ad 23), .ref (ad 24), .ref (ad 25)])), (ad 22, .inl (ca 3, 65536, .inr (.inl (J 3)))), (ad 23, .inl (ca 3, 65536, .inr (.inl (J 4)))), (ad 24, .inl (ca 2, 256, .inl (I 21))), (ad 25, .inl (ca 2, 256, .inl (I 22))), (ad 26, .inl (ca 3, 1, .inr (.inl (J 5))))]
section JDMW
variable {l : Launch} {y : MethodName} {ws ws' : List Cond} {rm : Room} {av : List Value} {D : va_G} {cl : List vw_C} {tys : List (ClassId × FieldType)} {N : State → Prop} {w w1 : va_W} {cc : ByteArray} {maxL : Nat} {ret : Option FieldType} {lv : List (Nat × Value)} {hh : List (Nat × Nat × Nat × Nat)}
theorem jd_metIW {r1 : Int32} (hy : plainName y.cls = true) (hw : ws = Cond.codeWith y cc maxL (some .int) hh :: ws') (hlen : (lg_sl av).length ≤ maxL) (hlv : lv_args 0 av = lv)
    (body : jdB l y ws rm D cl tys N w cc maxL (some .int) lv (jdEi l D cl w1 cc r1)) : CtI l y ws rm av D cl tys N w w1 r1 := by
  intro sz
  refine va_MetW (cc := cc) (maxL := maxL) (ret := some .int) (hh := hh) hy hw ?_
  intro p e s m args below meth c s₁ B hml hv
  obtain ⟨rfl, hsz, hP, hK, hD0, hN⟩ := hv
  subst hsz
  have hl := lv_entry av (n := maxL) hlen
  rw [lg_entry_eq]
  generalize (lg_sl av ++ List.replicate (maxL - (lg_sl av).length) Slot.unset).toArray = ls at hl ⊢
  rw [hlv] at hl
  exact body p e rm s m _ below meth c (va_A w s.heap.size) _ ls ⟨B.exec, B.bytes, hml, findClass_of_methodNamed B.named, atoms_spec (ws := ws) B.pre⟩ rfl hK hN hD0.self (fun q h => Or.inr h) hP va_S.rf hl (fun _ _ _ _ hP hS hd => jd_iret B.exec B.bytes B.returns B.notSynchronized hP hS hd)
end JDMW
def fm_K_chance_o (p0 : Int64) (p1 : Int64) (p2 : Int32) : Option (Int64) :=
  if (lg_cmp p0 (0 : Int64)) < 0 then none else if 0 ≤ (lg_cmp p1 (1 : Int64)) then ob1 (fm_K_inLowestTerms p0 p1 p2) (fun y7 => some y7) else none
set_option maxHeartbeats 4000000 in
set_option maxRecDepth 100000 in
theorem cm_K_chance_o (l : Launch) (D : va_G) (ca : Nat → ClassId) (ad : Nat → Nat) (hs : Nat → Option Nat) {p0 : Int64} {p1 : Int64} {p2 : Int32} {I0 : IS} {J0 : JS} {r : Int64} (hf : fm_K_chance_o p0 p1 p2 = some r) : CtL l y_K_chance (Cond.code y_K_chance b_K_chance 6 (some .long) :: TB) { frames := 2, cells := 0, slots := 0, locals := 56 } [.ref (ad 15), .long p0, .long p1, .int p2] D cls_all (tysC ca) NN (wDo ca ad hs I0 J0) (wDo ca ad hs I0 J0) r := by
  refine jd_metL (cc := b_K_chance) (by decide) rfl (Nat.le_of_ble_eq_true rfl) (lv := [(0, .ref (ad 15)), (1, .long p0), (3, .long p1), (5, .int p2)]) rfl ?_
  intro p e R s m args below meth c A Q ls cx hR hK hN hD0 hA hP hS hl hend
  have hx := cx.1
  have hb := cx.2.1
  have hml := cx.2.2.1
  have hown := cx.2.2.2.1
  have hts := cx.2.2.2.2
  have hD : ∀ I J, va_D A (wDo ca ad hs I J) := fun I J => jd_Dc hD0 rfl
  unfold fm_K_chance_o at hf
  refine lv_lload_n hx hb d_K_chance_0 rfl (lv_at hl 1 rfl) ?_
  refine lv_lconst (v := 0) hx hb d_K_chance_1 (by decide) ?_
  refine W.lcmp hx hb d_K_chance_2 ?_
  refine lv_if_lt (tgt := 12) hx hb d_K_chance_3 rfl (fun h1 => ?_) (fun h1 => ?_)
  · have hf2 := ifp hf h1
    cases hf2
  · have hf3 := ifn hf h1
    refine lv_lload_n hx hb d_K_chance_6 rfl (lv_at hl 2 rfl) ?_
    refine lv_lconst (v := 1) hx hb d_K_chance_7 (by decide) ?_
    refine W.lcmp hx hb d_K_chance_8 ?_
    refine lv_if_ge (tgt := 22) hx hb d_K_chance_9 rfl (fun h4 => ?_) (fun h4 => ?_)
    · have hf5 := ifp hf3 h4
      refine lv_lload_n hx hb d_K_chance_22 rfl (lv_at hl 1 rfl) ?_
      refine lv_lload_n hx hb d_K_chance_23 rfl (lv_at hl 2 rfl) ?_
      refine lv_iload hx hb d_K_chance_24 (lv_at hl 3 rfl) ?_
      obtain ⟨y7, hc8, hf9⟩ := ob1_ex hf5
      refine jd_cl (va_runS (As := [.long p0, .long p1, .int p2]) (rest := []) cx (cm_K_inLowestTerms l D ca (wDo ca ad hs I0 J0) (I0 := I0) (J0 := J0) hc8 s.heap.size) (va_cwS 3 hts (jd_gS2 tb_308 tb_309 tb_43 tb_310) rfl rfl rfl ⟨by decide, by decide, rfl⟩ (by rw [hR]; decide)) ⟨jd_blind nWc, (jd_pre (av := [.long p0, .long p1, .int p2]) hP hK (hD I0 J0) (fun U h => nWm h hN))⟩ rfl rfl hl.1 rfl (lv_room (Nat.le_of_ble_eq_true rfl)) d_K_chance_26 ⟨Nat.zero_le _, Nat.zero_le _⟩) hS (hD I0 J0) hA (fun H10 L11 hP12 hS13 => ?_)
      cases hf9
      exact hend H10 L11 29 ls hP12 hS13 d_K_chance_29
    · have hf6 := ifn hf3 h4
      cases hf6
def fm_K_give_o (p0 : Int32) (p1 : Int32) (I0 : IS) : Option (Int32 × IS) :=
  if p0 < (1 : Int32) then none else if (16 : Int32) < p0 then none else if p1 < (-1 : Int32) then none else if p1 < (16 : Int32) then grd (inB (p0 - (1 : Int32)) 16) (bnd (I0 16 (p0 - (1 : Int32)).toNatClampNeg) (fun x15 => grd (inB (p0 - (1 : Int32)) 16) (bnd (sI I0 16 (p0 - (1 : Int32)).toNatClampNeg p1) (fun I22 => some (x15, I22))))) else none
set_option maxHeartbeats 4000000 in
set_option maxRecDepth 100000 in
theorem cm_K_give_o (l : Launch) (D : va_G) (ca : Nat → ClassId) (ad : Nat → Nat) (hs : Nat → Option Nat) {p0 : Int32} {p1 : Int32} {I0 : IS} {J0 : JS} {r : Int32 × IS} (hf : fm_K_give_o p0 p1 I0 = some r) : CtI l y_K_give (Cond.code y_K_give b_K_give 4 (some .int) :: TB) { frames := 0, cells := 0, slots := 0, locals := 0 } [.ref (ad 15), .int p0, .int p1] D cls_all (tysC ca) NN (wDo ca ad hs I0 J0) (wDo ca ad hs r.2 J0) r.1 := by
  refine jd_metI (cc := b_K_give) (by decide) rfl (Nat.le_of_ble_eq_true rfl) (lv := [(0, .ref (ad 15)), (1, .int p0), (2, .int p1)]) rfl ?_
  intro p e R s m args below meth c A Q ls cx hR hK hN hD0 hA hP hS hl hend
  have hx := cx.1
  have hb := cx.2.1
  have hml := cx.2.2.1
  have hown := cx.2.2.2.1
  have hts := cx.2.2.2.2
  have hD : ∀ I J, va_D A (wDo ca ad hs I J) := fun I J => jd_Dc hD0 rfl
  unfold fm_K_give_o at hf
  refine lv_iload_n hx hb d_K_give_0 rfl (lv_at hl 1 rfl) ?_
  refine lv_iconst (v := 1) hx hb d_K_give_1 (by decide) ?_
  refine lv_icmp_lt (tgt := 22) hx hb d_K_give_2 rfl (fun h1 => ?_) (fun h1 => ?_)
  · have hf2 := ifp hf h1
    cases hf2
  · have hf3 := ifn hf h1
    refine lv_iload_n hx hb d_K_give_5 rfl (lv_at hl 1 rfl) ?_
    refine lv_bipush (v := 16) hx hb d_K_give_6 (by decide) ?_
    refine lv_icmp_gt (tgt := 22) hx hb d_K_give_8 rfl (fun h4 => ?_) (fun h4 => ?_)
    · have hf5 := ifp hf3 h4
      cases hf5
    · have hf6 := ifn hf3 h4
      refine lv_iload_n hx hb d_K_give_11 rfl (lv_at hl 2 rfl) ?_
      refine lv_iconst (v := -1) hx hb d_K_give_12 (by decide) ?_
      refine lv_icmp_lt (tgt := 22) hx hb d_K_give_13 rfl (fun h7 => ?_) (fun h7 => ?_)
      · have hf8 := ifp hf6 h7
        cases hf8
      · have hf9 := ifn hf6 h7
        refine lv_iload_n hx hb d_K_give_16 rfl (lv_at hl 2 rfl) ?_
        refine lv_bipush (v := 16) hx hb d_K_give_17 (by decide) ?_
        refine lv_icmp_lt (tgt := 32) hx hb d_K_give_19 rfl (fun h10 => ?_) (fun h10 => ?_)
        · have hf11 := ifp hf9 h10
          refine lv_aload_n hx hb d_K_give_32 rfl (lv_at hl 0 rfl) ?_
          refine va_get (D := D) (ci := 3) (v := .ref (ad 17)) (C := R_K) (T := F_K) (N := 5) hx hb hts (fun w h => List.mem_cons_of_mem _ (uw_K w h)) hown hK hP 0 rfl rfl 1 (by decide) (hts _ (List.mem_cons_of_mem _ tb_106)) (fun _ h => h) rfl d_K_give_33 ?_
          refine lv_iload_n hx hb d_K_give_36 rfl (lv_at hl 1 rfl) ?_
          refine lv_iconst (v := 1) hx hb d_K_give_37 (by decide) ?_
          refine lv_isub hx hb d_K_give_38 ?_
          obtain ⟨hg13, hf14⟩ := grd_ex hf11
          refine va_iald hx hb hK hP 2 2 rfl rfl (inB_in hg13) d_K_give_39 ?_
          obtain ⟨x15, e16, hf17⟩ := bnd_ex hf14
          refine jd_tni e16 ?_
          refine lv_istore_n hx hb d_K_give_40 rfl hl (by decide) (lv' := [(3, .int x15), (0, .ref (ad 15)), (1, .int p0), (2, .int p1)]) rfl (fun ls18 hl19 => ?_)
          refine lv_aload_n hx hb d_K_give_41 rfl (lv_at hl19 1 rfl) ?_
          refine va_get (D := D) (ci := 3) (v := .ref (ad 17)) (C := R_K) (T := F_K) (N := 5) hx hb hts (fun w h => List.mem_cons_of_mem _ (uw_K w h)) hown hK hP 0 rfl rfl 1 (by decide) (hts _ (List.mem_cons_of_mem _ tb_106)) (fun _ h => h) rfl d_K_give_42 ?_
          refine lv_iload_n hx hb d_K_give_45 rfl (lv_at hl19 2 rfl) ?_
          refine lv_iconst (v := 1) hx hb d_K_give_46 (by decide) ?_
          refine lv_isub hx hb d_K_give_47 ?_
          refine lv_iload_n hx hb d_K_give_48 rfl (lv_at hl19 3 rfl) ?_
          obtain ⟨hg20, hf21⟩ := grd_ex hf17
          obtain ⟨I22, e23, hf24⟩ := bnd_ex hf21
          refine va_iast hx hb hK hP (hD I0 J0) hS 2 2 rfl rfl (inB_in hg20) d_K_give_49 (fun H25 L26 hp29 _ hS28 => ?_)
          have hP27 : va_P D cls_all (wDo ca ad hs I22 J0) H25 := by rw [e23]; exact hp29
          refine lv_iload_n hx hb d_K_give_50 rfl (lv_at hl19 0 rfl) ?_
          cases hf24
          exact hend H25 L26 51 ls18 hP27 hS28 d_K_give_51
        · have hf12 := ifn hf9 h10
          cases hf12
abbrev b_W_heat : ByteArray := method_3_code
def y_W_heat : MethodName := ⟨"JuryDeskLaw", "heat", "(LJuryDesk;II)I"⟩
abbrev b_W_chance : ByteArray := method_4_code
def y_W_chance : MethodName := ⟨"JuryDeskLaw", "chance", "(LJuryDesk;JJZ[J)I"⟩
abbrev b_W_give : ByteArray := method_5_code
def y_W_give : MethodName := ⟨"JuryDeskLaw", "give", "(LJuryDesk;II[J)I"⟩
theorem d_W_heat_0 : decode b_W_heat 0 = .ok (.aload_n 0, 1) := by decide +kernel
theorem d_W_heat_1 : decode b_W_heat 1 = .ok (.iload_n 1, 1) := by decide +kernel
theorem d_W_heat_2 : decode b_W_heat 2 = .ok (.iload_n 2, 1) := by decide +kernel
theorem d_W_heat_3 : decode b_W_heat 3 = .ok (.invokevirtual 7, 3) := by decide +kernel
theorem d_W_heat_6 : decode b_W_heat 6 = .ok (.goto 6, 3) := by decide +kernel
theorem d_W_heat_9 : decode b_W_heat 9 = .ok (.astore_n 3, 1) := by decide +kernel
theorem d_W_heat_10 : decode b_W_heat 10 = .ok (.iconst 1, 1) := by decide +kernel
theorem d_W_heat_11 : decode b_W_heat 11 = .ok (.ireturn, 1) := by decide +kernel
theorem d_W_heat_12 : decode b_W_heat 12 = .ok (.iconst 0, 1) := by decide +kernel
theorem d_W_heat_13 : decode b_W_heat 13 = .ok (.ireturn, 1) := by decide +kernel
def fm_W_heat (p1 : Int32) (p2 : Int32) (I0 : IS) (J0 : JS) : Option (Int32 × IS × JS) :=
  ob2 (fm_K_heat p1 p2 I0 J0) (fun I1 J2 => some ((0 : Int32), I1, J2))
set_option maxHeartbeats 4000000 in
set_option maxRecDepth 100000 in
theorem cm_W_heat (l : Launch) (D : va_G) (ca : Nat → ClassId) (ad : Nat → Nat) (hs : Nat → Option Nat) {p1 : Int32} {p2 : Int32} {I0 : IS} {J0 : JS} {r : Int32 × IS × JS} (hh : hs p1.toNatClampNeg = some (ad 0)) (hf : fm_W_heat p1 p2 I0 J0 = some r) : CtI l y_W_heat (Cond.codeWith y_W_heat b_W_heat 4 (some .int) [((0 : Nat), (6 : Nat), (9 : Nat), (13 : Nat))] :: TB) { frames := 5, cells := 0, slots := 0, locals := 107 } [.ref (ad 15), .int p1, .int p2] D cls_all (tysC ca) NN (wC ca ad hs I0 J0) (wC ca ad hs r.2.1 r.2.2) r.1 := by
  refine jd_metIW (cc := b_W_heat) (hh := [((0 : Nat), (6 : Nat), (9 : Nat), (13 : Nat))]) (by decide) rfl (Nat.le_of_ble_eq_true rfl) (lv := [(0, .ref (ad 15)), (1, .int p1), (2, .int p2)]) rfl ?_
  intro p e R s m args below meth c A Q ls cx hR hK hN hD0 hA hP hS hl hend
  have hx := cx.1
  have hb := cx.2.1
  have hml := cx.2.2.1
  have hown := cx.2.2.2.1
  have hts := cx.2.2.2.2
  have hD : ∀ I J, va_D A (wC ca ad hs I J) := fun I J => jd_Dc hD0 rfl
  unfold fm_W_heat at hf
  refine lv_aload_n hx hb d_W_heat_0 rfl (lv_at hl 0 rfl) ?_
  refine lv_iload_n hx hb d_W_heat_1 rfl (lv_at hl 1 rfl) ?_
  refine lv_iload_n hx hb d_W_heat_2 rfl (lv_at hl 2 rfl) ?_
  obtain ⟨I1, J2, hc3, hf4⟩ := ob2_ex hf
  refine jd_cv (va_runV (As := [.int p1, .int p2]) (rest := []) cx (cm_K_heat l D ca ad hs hh hc3 s.heap.size) (cwV 2 hts (jd_gV tb_423 tb_424 tb_425 tb_43 tb_426) rfl rfl rfl ⟨rfl, by decide, by decide, rfl⟩ (by rw [hR]; decide)) ⟨jd_blind nWc, (va_recv hK hP (ci := 3) (q0 := 15) rfl rfl), (jd_pre (av := [.ref (ad 15), .int p1, .int p2]) hP hK (hD I0 J0) (fun U h => nWm h hN))⟩ rfl rfl hl.1 rfl (lv_room (Nat.le_of_ble_eq_true rfl)) d_W_heat_3 ⟨Nat.zero_le _, Nat.zero_le _⟩) hS (hD I0 J0) hA (fun H5 L6 hP7 hS8 => ?_)
  refine lv_goto (tgt := 12) hx hb d_W_heat_6 rfl ?_
  refine lv_iconst (v := 0) hx hb d_W_heat_12 (by decide) ?_
  cases hf4
  exact hend H5 L6 13 ls hP7 hS8 d_W_heat_13
theorem d_W_chance_0 : decode b_W_chance 0 = .ok (.aload 6, 2) := by decide +kernel
theorem d_W_chance_2 : decode b_W_chance 2 = .ok (.iconst 0, 1) := by decide +kernel
theorem d_W_chance_3 : decode b_W_chance 3 = .ok (.aload_n 0, 1) := by decide +kernel
theorem d_W_chance_4 : decode b_W_chance 4 = .ok (.lload_n 1, 1) := by decide +kernel
theorem d_W_chance_5 : decode b_W_chance 5 = .ok (.lload_n 3, 1) := by decide +kernel
theorem d_W_chance_6 : decode b_W_chance 6 = .ok (.iload 5, 2) := by decide +kernel
theorem d_W_chance_8 : decode b_W_chance 8 = .ok (.invokevirtual 15, 3) := by decide +kernel
theorem d_W_chance_11 : decode b_W_chance 11 = .ok (.lastore, 1) := by decide +kernel
theorem d_W_chance_12 : decode b_W_chance 12 = .ok (.goto 7, 3) := by decide +kernel
theorem d_W_chance_15 : decode b_W_chance 15 = .ok (.astore 7, 2) := by decide +kernel
theorem d_W_chance_17 : decode b_W_chance 17 = .ok (.iconst 1, 1) := by decide +kernel
theorem d_W_chance_18 : decode b_W_chance 18 = .ok (.ireturn, 1) := by decide +kernel
theorem d_W_chance_19 : decode b_W_chance 19 = .ok (.iconst 0, 1) := by decide +kernel
theorem d_W_chance_20 : decode b_W_chance 20 = .ok (.ireturn, 1) := by decide +kernel
def fm_W_chance (p1 : Int64) (p2 : Int64) (p3 : Int32) (J0 : JS) : Option (Int32 × JS) :=
  ob1 (fm_K_chance_o p1 p2 p3) (fun y1 => grd (inB (0 : Int32) 1) (bnd (sJ J0 5 (0 : Int32).toNatClampNeg y1) (fun J10 => some ((0 : Int32), J10))))
set_option maxHeartbeats 4000000 in
set_option maxRecDepth 100000 in
theorem cm_W_chance (l : Launch) (D : va_G) (ca : Nat → ClassId) (ad : Nat → Nat) (hs : Nat → Option Nat) {p1 : Int64} {p2 : Int64} {p3 : Int32} {I0 : IS} {J0 : JS} {r : Int32 × JS} (hf : fm_W_chance p1 p2 p3 J0 = some r) : CtI l y_W_chance (Cond.codeWith y_W_chance b_W_chance 8 (some .int) [((0 : Nat), (12 : Nat), (15 : Nat), (13 : Nat))] :: TB) { frames := 3, cells := 0, slots := 0, locals := 81 } [.ref (ad 15), .long p1, .long p2, .int p3, .ref (ad 26)] D cls_all (tysC ca) NN (wDo ca ad hs I0 J0) (wDo ca ad hs I0 r.2) r.1 := by
  refine jd_metIW (cc := b_W_chance) (hh := [((0 : Nat), (12 : Nat), (15 : Nat), (13 : Nat))]) (by decide) rfl (Nat.le_of_ble_eq_true rfl) (lv := [(0, .ref (ad 15)), (1, .long p1), (3, .long p2), (5, .int p3), (6, .ref (ad 26))]) rfl ?_
  intro p e R s m args below meth c A Q ls cx hR hK hN hD0 hA hP hS hl hend
  have hx := cx.1
  have hb := cx.2.1
  have hml := cx.2.2.1
  have hown := cx.2.2.2.1
  have hts := cx.2.2.2.2
  have hD : ∀ I J, va_D A (wDo ca ad hs I J) := fun I J => jd_Dc hD0 rfl
  unfold fm_W_chance at hf
  refine lv_aload hx hb d_W_chance_0 (lv_at hl 4 rfl) ?_
  refine lv_iconst (v := 0) hx hb d_W_chance_2 (by decide) ?_
  refine lv_aload_n hx hb d_W_chance_3 rfl (lv_at hl 0 rfl) ?_
  refine lv_lload_n hx hb d_W_chance_4 rfl (lv_at hl 1 rfl) ?_
  refine lv_lload_n hx hb d_W_chance_5 rfl (lv_at hl 2 rfl) ?_
  refine lv_iload hx hb d_W_chance_6 (lv_at hl 3 rfl) ?_
  obtain ⟨y1, hc2, hf3⟩ := ob1_ex hf
  refine jd_cl (va_runV (As := [.long p1, .long p2, .int p3]) (rest := [.int (0 : Int32), .ref (ad 26)]) cx (cm_K_chance_o l D ca ad hs hc2 s.heap.size) (cwV 3 hts (jd_gV tb_583 tb_584 tb_585 tb_43 tb_586) rfl rfl rfl ⟨rfl, by decide, by decide, rfl⟩ (by rw [hR]; decide)) ⟨jd_blind nWc, (va_recv hK hP (ci := 3) (q0 := 0) rfl rfl), (jd_pre (av := [.ref (ad 15), .long p1, .long p2, .int p3]) hP hK (hD I0 J0) (fun U h => nWm h hN))⟩ rfl rfl hl.1 rfl (lv_room (Nat.le_of_ble_eq_true rfl)) d_W_chance_8 ⟨Nat.zero_le _, Nat.zero_le _⟩) hS (hD I0 J0) hA (fun H4 L5 hP6 hS7 => ?_)
  obtain ⟨hg8, hf9⟩ := grd_ex hf3
  obtain ⟨J10, e11, hf12⟩ := bnd_ex hf9
  refine va_last hx hb hK hP6 (hD I0 J0) hS7 11 3 rfl rfl (inB_in hg8) d_W_chance_11 (fun H13 L14 hp17 _ hS16 => ?_)
  have hP15 : va_P D cls_all (wDo ca ad hs I0 J10) H13 := by rw [e11]; exact hp17
  refine lv_goto (tgt := 19) hx hb d_W_chance_12 rfl ?_
  refine lv_iconst (v := 0) hx hb d_W_chance_19 (by decide) ?_
  cases hf12
  exact hend H13 L14 20 ls hP15 hS16 d_W_chance_20
theorem d_W_give_0 : decode b_W_give 0 = .ok (.aload_n 3, 1) := by decide +kernel
theorem d_W_give_1 : decode b_W_give 1 = .ok (.iconst 0, 1) := by decide +kernel
theorem d_W_give_2 : decode b_W_give 2 = .ok (.aload_n 0, 1) := by decide +kernel
theorem d_W_give_3 : decode b_W_give 3 = .ok (.iload_n 1, 1) := by decide +kernel
theorem d_W_give_4 : decode b_W_give 4 = .ok (.iload_n 2, 1) := by decide +kernel
theorem d_W_give_5 : decode b_W_give 5 = .ok (.invokevirtual 19, 3) := by decide +kernel
theorem d_W_give_8 : decode b_W_give 8 = .ok (.i2l, 1) := by decide +kernel
theorem d_W_give_9 : decode b_W_give 9 = .ok (.lastore, 1) := by decide +kernel
theorem d_W_give_10 : decode b_W_give 10 = .ok (.goto 7, 3) := by decide +kernel
theorem d_W_give_13 : decode b_W_give 13 = .ok (.astore 4, 2) := by decide +kernel
theorem d_W_give_15 : decode b_W_give 15 = .ok (.iconst 1, 1) := by decide +kernel
theorem d_W_give_16 : decode b_W_give 16 = .ok (.ireturn, 1) := by decide +kernel
theorem d_W_give_17 : decode b_W_give 17 = .ok (.iconst 0, 1) := by decide +kernel
theorem d_W_give_18 : decode b_W_give 18 = .ok (.ireturn, 1) := by decide +kernel
def fm_W_give (p1 : Int32) (p2 : Int32) (I0 : IS) (J0 : JS) : Option (Int32 × IS × JS) :=
  ob2 (fm_K_give_o p1 p2 I0) (fun x1 I2 => grd (inB (0 : Int32) 1) (bnd (sJ J0 5 (0 : Int32).toNatClampNeg x1.toInt64) (fun J11 => some ((0 : Int32), I2, J11))))
set_option maxHeartbeats 4000000 in
set_option maxRecDepth 100000 in
theorem cm_W_give (l : Launch) (D : va_G) (ca : Nat → ClassId) (ad : Nat → Nat) (hs : Nat → Option Nat) {p1 : Int32} {p2 : Int32} {I0 : IS} {J0 : JS} {r : Int32 × IS × JS} (hf : fm_W_give p1 p2 I0 J0 = some r) : CtI l y_W_give (Cond.codeWith y_W_give b_W_give 5 (some .int) [((0 : Nat), (10 : Nat), (13 : Nat), (13 : Nat))] :: TB) { frames := 1, cells := 0, slots := 0, locals := 23 } [.ref (ad 15), .int p1, .int p2, .ref (ad 26)] D cls_all (tysC ca) NN (wDo ca ad hs I0 J0) (wDo ca ad hs r.2.1 r.2.2) r.1 := by
  refine jd_metIW (cc := b_W_give) (hh := [((0 : Nat), (10 : Nat), (13 : Nat), (13 : Nat))]) (by decide) rfl (Nat.le_of_ble_eq_true rfl) (lv := [(0, .ref (ad 15)), (1, .int p1), (2, .int p2), (3, .ref (ad 26))]) rfl ?_
  intro p e R s m args below meth c A Q ls cx hR hK hN hD0 hA hP hS hl hend
  have hx := cx.1
  have hb := cx.2.1
  have hml := cx.2.2.1
  have hown := cx.2.2.2.1
  have hts := cx.2.2.2.2
  have hD : ∀ I J, va_D A (wDo ca ad hs I J) := fun I J => jd_Dc hD0 rfl
  unfold fm_W_give at hf
  refine lv_aload_n hx hb d_W_give_0 rfl (lv_at hl 3 rfl) ?_
  refine lv_iconst (v := 0) hx hb d_W_give_1 (by decide) ?_
  refine lv_aload_n hx hb d_W_give_2 rfl (lv_at hl 0 rfl) ?_
  refine lv_iload_n hx hb d_W_give_3 rfl (lv_at hl 1 rfl) ?_
  refine lv_iload_n hx hb d_W_give_4 rfl (lv_at hl 2 rfl) ?_
  obtain ⟨x1, I2, hc3, hf4⟩ := ob2_ex hf
  refine jd_ci (va_runV (As := [.int p1, .int p2]) (rest := [.int (0 : Int32), .ref (ad 26)]) cx (cm_K_give_o l D ca ad hs hc3 s.heap.size) (cwV 2 hts (jd_gV tb_589 tb_590 tb_591 tb_43 tb_592) rfl rfl rfl ⟨rfl, by decide, by decide, rfl⟩ (by rw [hR]; decide)) ⟨jd_blind nWc, (va_recv hK hP (ci := 3) (q0 := 0) rfl rfl), (jd_pre (av := [.ref (ad 15), .int p1, .int p2]) hP hK (hD I0 J0) (fun U h => nWm h hN))⟩ rfl rfl hl.1 rfl (lv_room (Nat.le_of_ble_eq_true rfl)) d_W_give_5 ⟨Nat.zero_le _, Nat.zero_le _⟩) hS (hD I0 J0) hA (fun H5 L6 hP7 hS8 => ?_)
  refine lv_i2l hx hb d_W_give_8 rfl ?_
  obtain ⟨hg9, hf10⟩ := grd_ex hf4
  obtain ⟨J11, e12, hf13⟩ := bnd_ex hf10
  refine va_last hx hb hK hP7 (hD I2 J0) hS8 11 3 rfl rfl (inB_in hg9) d_W_give_9 (fun H14 L15 hp18 _ hS17 => ?_)
  have hP16 : va_P D cls_all (wDo ca ad hs I2 J11) H14 := by rw [e12]; exact hp18
  refine lv_goto (tgt := 17) hx hb d_W_give_10 rfl ?_
  refine lv_iconst (v := 0) hx hb d_W_give_17 (by decide) ?_
  cases hf13
  exact hend H14 L15 18 ls hP16 hS17 d_W_give_18
