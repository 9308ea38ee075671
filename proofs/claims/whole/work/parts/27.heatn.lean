theorem jd_blt {k n : Nat} (h : n ≤ k) : Nat.blt k n = false := by
  cases h1 : Nat.blt k n with
  | false => rfl
  | true => exact absurd (Nat.le_of_ble_eq_true h1) (by omega)
def nhI (I : IS) : IS := fun k => cond (Nat.blt k 16) (fun _ => 0) (I k)
def nhJ (J : JS) : JS := fun k => cond (Nat.blt k 3) (fun _ => 0) (J k)
def fm_K_heat_n (p0 : Int32) (p1 : Int32) (I0 : IS) (J0 : JS) : Option (IS × JS) :=
  if p0 < 0 then none else if (12 : Int32) ≤ p0 then none else if p1 < (1 : Int32) then none else if p1 ≤ (16 : Int32) then grd (inB p0 12) (grd (inB p0 12) (bnd (nhI I0) (fun I17 => bnd (nhJ J0) (fun J18 => grd (inB p0 12) (ob2 (fm_H_begin p1 I17 J18) (fun I25 J26 => ob1 (fm_K_unload p0 I25) (fun I33 => some (I33, J26)))))))) else none
set_option maxHeartbeats 4000000 in
set_option maxRecDepth 100000 in
theorem cm_K_heat_n (l : Launch) (D : va_G) (ca : Nat → ClassId) (ad : Nat → Nat) (hs : Nat → Option Nat) {p0 : Int32} {p1 : Int32} {I0 : IS} {J0 : JS} {r : IS × JS} (hh : vp_in p0 12 → hs p0.toNatClampNeg = none) (hf : fm_K_heat_n p0 p1 I0 J0 = some r) : ∀ sz : Nat, Met l y_K_heat (Cond.code y_K_heat b_K_heat 3 none :: TB) { frames := 4, cells := 15, slots := 1845, locals := 85 } (va_Pc [.ref (ad 15), .int p0, .int p1] (pW D cls_all (tysC ca) NN (wD ca ad hs I0 J0) sz)) (va_Qv (fun (_ : (Nat → Nat) × (Nat → Option Nat)) => True) (fun (u : (Nat → Nat) × (Nat → Option Nat)) (t : State) => (∀ k, 15 ≤ k → u.1 k = ad k) ∧ u.2 = va_up hs p0.toNatClampNeg (some (u.1 0)) ∧ va_P D cls_all (wC ca u.1 u.2 r.1 r.2) t.heap ∧ va_D (va_A (wD ca ad hs I0 J0) sz) (wC ca u.1 u.2 r.1 r.2)) (va_A (wD ca ad hs I0 J0) sz)) 15 1845 (va_A (wD ca ad hs I0 J0) sz) := by
  intro sz
  refine Met.ofW (cc := b_K_heat) (maxL := 3) (ret := none) (by decide) rfl ?_
  intro p e s m args below meth c s₁ B hml hv
  obtain ⟨rfl, hsz, hP, hK, hD0, hN⟩ := hv
  have hx := B.exec
  have hb := B.bytes
  have hr := B.returns
  have hts := atoms_spec (ws := Cond.code y_K_heat b_K_heat 3 none :: TB) B.pre
  have hown : s.vm.findClass R_K = some m.cls := findClass_of_methodNamed B.named
  have hlocks := B.notSynchronized
  subst hsz
  have hD1 := hD0.self (sz := s.heap.size)
  generalize hAe : va_A (wD ca ad hs I0 J0) s.heap.size = A at hD1 ⊢
  have hA : ∀ q : Nat, s.heap.size ≤ q → A q := fun q h => by rw [← hAe]; exact Or.inr h
  have hS : va_S A s.heap s.heap [] := va_S.rf
  have hD : ∀ I J, va_D A (wD ca ad hs I J) := fun I J => jd_Dc hD1 rfl
  have hl := lv_entry ([.ref (ad 15), .int p0, .int p1]) (n := 3) (Nat.le_of_ble_eq_true rfl)
  rw [lg_entry_eq]
  generalize (lg_sl ([.ref (ad 15), .int p0, .int p1]) ++ List.replicate (3 - (lg_sl ([.ref (ad 15), .int p0, .int p1])).length) Slot.unset).toArray = ls at hl ⊢
  have hl : lv_has ls 3 [(0, .ref (ad 15)), (1, .int p0), (2, .int p1)] := hl
  have cx : CallFix p m c b_K_heat 3 s _ _ R_K := ⟨hx, hb, hml, hown, hts⟩
  have hend : ∀ (ad2 : Nat → Nat) (hs2 : Nat → Option Nat), (∀ k, 15 ≤ k → ad2 k = ad k) → hs2 = va_up hs p0.toNatClampNeg (some (ad2 0)) → va_D A (wC ca ad2 hs2 r.1 r.2) → ∀ (H : Heap) (locs : List Loc) (pc : Nat) (ls : Array Slot), va_P D cls_all (wC ca ad2 hs2 r.1 r.2) H → va_S A s.heap H locs → decode b_K_heat pc = .ok (.return_, 1) → W p l e (headSpec (Cond.code y_K_heat b_K_heat 3 none :: TB) { frames := 4, cells := 15, slots := 1845, locals := 85 }).room s m ([.ref (ad 15), .int p0, .int p1] : List Value).toArray below meth c H locs 15 1845 (MQ below (va_Qv (fun (_ : (Nat → Nat) × (Nat → Option Nat)) => True) (fun (u : (Nat → Nat) × (Nat → Option Nat)) (t : State) => (∀ k, 15 ≤ k → u.1 k = ad k) ∧ u.2 = va_up hs p0.toNatClampNeg (some (u.1 0)) ∧ va_P D cls_all (wC ca u.1 u.2 r.1 r.2) t.heap ∧ va_D (A) (wC ca u.1 u.2 r.1 r.2)) A) ([.ref (ad 15), .int p0, .int p1] : List Value).toArray s 15 1845 A) (F0 m pc ls []) := fun ad2 hs2 h1 h2 h3 H locs pc ls hP hS hd => W.vret hx hb hr (fun t ht hW => ⟨⟨(ad2, hs2), rfl, trivial, h1, h2, by rw [ht]; exact hP, h3⟩, hS.F ht⟩) hS.2.2 hd hlocks
  revert hend
  generalize MQ below (va_Qv (fun (_ : (Nat → Nat) × (Nat → Option Nat)) => True) (fun (u : (Nat → Nat) × (Nat → Option Nat)) (t : State) => (∀ k, 15 ≤ k → u.1 k = ad k) ∧ u.2 = va_up hs p0.toNatClampNeg (some (u.1 0)) ∧ va_P D cls_all (wC ca u.1 u.2 r.1 r.2) t.heap ∧ va_D (A) (wC ca u.1 u.2 r.1 r.2)) A) ([.ref (ad 15), .int p0, .int p1] : List Value).toArray s 15 1845 A = Q
  intro hend
  obtain ⟨R, hR⟩ : ∃ z : Room, z = (headSpec (Cond.code y_K_heat b_K_heat 3 none :: TB) { frames := 4, cells := 15, slots := 1845, locals := 85 }).room := ⟨_, rfl⟩
  rw [← hR] at hend ⊢
  generalize ([.ref (ad 15), .int p0, .int p1] : List Value).toArray = args at cx hend hts ⊢
  unfold fm_K_heat_n at hf
  refine lv_iload_n hx hb d_K_heat_0 rfl (lv_at hl 1 rfl) ?_
  refine lv_if_lt (tgt := 21) hx hb d_K_heat_1 rfl (fun h1 => ?_) (fun h1 => ?_)
  · have hf2 := ifp hf h1
    cases hf2
  · have hf3 := ifn hf h1
    refine lv_iload_n hx hb d_K_heat_4 rfl (lv_at hl 1 rfl) ?_
    refine lv_bipush (v := 12) hx hb d_K_heat_5 (by decide) ?_
    refine lv_icmp_ge (tgt := 21) hx hb d_K_heat_7 rfl (fun h4 => ?_) (fun h4 => ?_)
    · have hf5 := ifp hf3 h4
      cases hf5
    · have hf6 := ifn hf3 h4
      refine lv_iload_n hx hb d_K_heat_10 rfl (lv_at hl 2 rfl) ?_
      refine lv_iconst (v := 1) hx hb d_K_heat_11 (by decide) ?_
      refine lv_icmp_lt (tgt := 21) hx hb d_K_heat_12 rfl (fun h7 => ?_) (fun h7 => ?_)
      · have hf8 := ifp hf6 h7
        cases hf8
      · have hf9 := ifn hf6 h7
        refine lv_iload_n hx hb d_K_heat_15 rfl (lv_at hl 2 rfl) ?_
        refine lv_bipush (v := 16) hx hb d_K_heat_16 (by decide) ?_
        refine lv_icmp_le (tgt := 31) hx hb d_K_heat_18 rfl (fun h10 => ?_) (fun h10 => ?_)
        · have hf11 := ifp hf9 h10
          refine lv_aload_n hx hb d_K_heat_31 rfl (lv_at hl 0 rfl) ?_
          refine va_get (D := D) (ci := 3) (v := .ref (ad 16)) (C := R_K) (T := F_K) (N := 5) hx hb hts (fun w h => List.mem_cons_of_mem _ (uw_K w h)) hown hK hP 0 rfl rfl 0 (by decide) (hts _ (List.mem_cons_of_mem _ tb_105)) (fun _ h => h) rfl d_K_heat_32 ?_
          refine lv_iload_n hx hb d_K_heat_35 rfl (lv_at hl 1 rfl) ?_
          obtain ⟨hg13, hf14⟩ := grd_ex hf11
          refine jd_aldN hx hb hK hP 1 4 rfl rfl (inB_in hg13) (hh (inB_in hg13)) d_K_heat_36 ?_
          refine lv_ifnonnullN hx hb d_K_heat_37 ?_
          refine lv_aload_n hx hb d_K_heat_40 rfl (lv_at hl 0 rfl) ?_
          refine va_get (D := D) (ci := 3) (v := .ref (ad 16)) (C := R_K) (T := F_K) (N := 5) hx hb hts (fun w h => List.mem_cons_of_mem _ (uw_K w h)) hown hK hP 0 rfl rfl 0 (by decide) (hts _ (List.mem_cons_of_mem _ tb_105)) (fun _ h => h) rfl d_K_heat_41 ?_
          refine lv_iload_n hx hb d_K_heat_44 rfl (lv_at hl 1 rfl) ?_
          refine va_new (ci := 0) (fs := [.null, .null, .null, .null, .null, .null, .null, .int 0, .int 0]) (C := R_H) (T := F_H) (N := 9) hx hb hts (fun w h => List.mem_cons_of_mem _ (uw_H w h)) ft_H tk_H hown (hts _ (List.mem_cons_of_mem _ tb_65)) (hts _ (List.mem_cons_of_mem _ tb_159)) (hts _ (List.mem_cons_of_mem _ tb_52)) hK hP (hD I0 J0) hS hA rfl (fun j hj => by rcases (show j = 0 ∨ j = 1 ∨ j = 2 ∨ j = 3 ∨ j = 4 ∨ j = 5 ∨ j = 6 ∨ j = 7 ∨ j = 8 by omega) with rfl | rfl | rfl | rfl | rfl | rfl | rfl | rfl | rfl <;> rfl) (by rw [hR]; exact Nat.le_of_ble_eq_true rfl) (by rw [hR]; exact Nat.le_of_ble_eq_true rfl) d_K_heat_45 (fun q0 H hP hDn hS => ?_)
          refine W.cs (cells' := 1) (slots' := 9) rfl rfl ?_
          refine lv_dup hx hb d_K_heat_48 rfl ?_
          have hPc := hP.sub (ws' := [(q0, .inr (0, [.null, .null, .null, .null, .null, .null, .null, .int 0, .int 0]))]) [11] rfl
          have hDc := hDn.sub (ws' := [(q0, .inr (0, [.null, .null, .null, .null, .null, .null, .null, .int 0, .int 0]))]) [11] (by decide) rfl
          have hFc := va_free (wc := [(q0, .inr (0, [.null, .null, .null, .null, .null, .null, .null, .int 0, .int 0]))]) hDn hS hA [11] rfl
          refine va_callv (va_runIN (As := []) (rest := [.ref q0, .int p0, .ref (ad 16)]) cx (cm_H_init l D ca q0 H.size) ⟨va_cnB 0 hts (jd_gB tb_478) rfl rfl rfl (hN _ nw_4) (hts _ (List.mem_cons_of_mem _ tb_52)) ⟨by decide, by decide, rfl⟩ (by rw [hR]; decide), rfl, (hts _ (List.mem_cons_of_mem _ tb_477))⟩ ⟨jd_blind nWc, jd_pre (av := [.ref q0]) hPc hK hDc (fun U h => nWm h hN)⟩ rfl rfl hl.1 rfl (lv_room (Nat.le_of_ble_eq_true rfl)) d_K_heat_49 ⟨by rw [hR]; exact Nat.le_of_ble_eq_true rfl, by rw [hR]; exact Nat.le_of_ble_eq_true rfl⟩) hS (fun q _ h => hFc q h) hFc (fun u t H1 locs ht hvm _ hB hz1 hk1 hS => ?_)
          obtain ⟨hP1, hD1⟩ := hB
          rw [ht] at hP1
          obtain ⟨hP, hDn⟩ := va_join (wr := (wD ca ad hs I0 J0)) (w1 := cw_H ca q0 u) hP hDn [11] [0, 1, 2, 3, 4, 5, 6, 7, 8, 9, 10] rfl rfl (by decide) (by decide) hk1 hFc hP1 hD1
          generalize H1 = H at hP hS ⊢
          refine W.cs (cells' := 15) (slots' := 1845) rfl rfl ?_
          obtain ⟨hg15, hf16⟩ := grd_ex hf14
          refine va_astq hx hb hK hP hDn hS 1 4 11 0 rfl rfl rfl rfl (inB_in hg15) d_K_heat_52 (fun H locs hP hDn hS => ?_)
          obtain ⟨ad2, had⟩ : ∃ z : Nat → Nat, z = (fun k => cond (Nat.blt k 15) (([q0, (u 0), (u 1), (u 2), (u 3), (u 4), (u 5), (u 6), (u 7), (u 8), (u 9), (u 10), (u 11), (u 12), (u 13)] : List Nat).getD k 0) (ad k)) := ⟨_, rfl⟩
          obtain ⟨hs2, hhs⟩ : ∃ z : Nat → Option Nat, z = va_up hs p0.toNatClampNeg (some (ad2 0)) := ⟨_, rfl⟩
          obtain ⟨I17, e19, hf21⟩ := bnd_ex hf16
          obtain ⟨J18, e20, hf22⟩ := bnd_ex hf21
          have hPn : va_P D cls_all (wC ca ad2 hs2 I17 J18) H := by rw [hhs, had, e19, e20]; exact hP.sub [11, 12, 13, 14, 15, 16, 17, 18, 19, 20, 21, 22, 23, 24, 25, 0, 1, 2, 3, 4, 5, 6, 7, 8, 9, 10] rfl
          have hD0 : va_D A (wC ca ad2 hs2 I17 J18) := by rw [hhs, had, e19, e20]; exact hDn.sub [11, 12, 13, 14, 15, 16, 17, 18, 19, 20, 21, 22, 23, 24, 25, 0, 1, 2, 3, 4, 5, 6, 7, 8, 9, 10] (by decide) rfl
          have hD : ∀ I J, va_D A (wC ca ad2 hs2 I J) := fun I J => jd_Dc hD0 rfl
          have hln : lv_has ls 3 [(0, .ref (ad2 15)), (1, .int p0), (2, .int p1)] := by rw [had]; exact lv_sub hl [0, 1, 2] rfl
          have hh : hs2 p0.toNatClampNeg = some (ad2 0) := by rw [hhs]; simp [va_up]
          have hkeep : ∀ k, 15 ≤ k → ad2 k = ad k := fun k hk => by rw [had]; show cond (Nat.blt k 15) _ _ = _; rw [jd_blt hk]; rfl
          have hend := hend ad2 hs2 hkeep hhs (hD _ _)
          refine lv_aload_n hx hb d_K_heat_53 rfl (lv_at hln 0 rfl) ?_
          refine va_get (D := D) (ci := 3) (v := .ref (ad2 16)) (C := R_K) (T := F_K) (N := 5) hx hb hts (fun w h => List.mem_cons_of_mem _ (uw_K w h)) hown hK hPn 15 rfl rfl 0 (by decide) (hts _ (List.mem_cons_of_mem _ tb_105)) (fun _ h => h) rfl d_K_heat_54 ?_
          refine lv_iload_n hx hb d_K_heat_57 rfl (lv_at hln 1 rfl) ?_
          obtain ⟨hg23, hf24⟩ := grd_ex hf22
          refine jd_aldS hx hb hK hPn 16 4 rfl rfl (inB_in hg23) hh d_K_heat_58 ?_
          refine lv_iload_n hx hb d_K_heat_59 rfl (lv_at hln 2 rfl) ?_
          obtain ⟨I25, J26, hc27, hf28⟩ := ob2_ex hf24
          refine jd_cv (va_runV (As := [.int p1]) (rest := []) cx (cm_H_begin l D ca ad2 hs2 hc27 H.size) (cwV 1 hts (jd_gV tb_577 tb_578 tb_579 tb_52 tb_580) rfl rfl rfl ⟨rfl, by decide, by decide, rfl⟩ (by rw [hR]; decide)) ⟨jd_blind nWc, (va_recv hK hPn (ci := 0) (q0 := 0) rfl rfl), (jd_pre (av := [.ref (ad2 0), .int p1]) hPn hK (hD I17 J18) (fun U h => nWm h hN))⟩ rfl rfl hln.1 rfl (lv_room (Nat.le_of_ble_eq_true rfl)) d_K_heat_60 ⟨by rw [hR]; exact Nat.le_of_ble_eq_true rfl, by rw [hR]; exact Nat.le_of_ble_eq_true rfl⟩) hS (hD I17 J18) hA (fun H29 L30 hP31 hS32 => ?_)
          refine lv_aload_n hx hb d_K_heat_63 rfl (lv_at hln 0 rfl) ?_
          refine lv_iload_n hx hb d_K_heat_64 rfl (lv_at hln 1 rfl) ?_
          obtain ⟨I33, hc34, hf35⟩ := ob1_ex hf28
          refine jd_cv (va_runV (As := [.int p0]) (rest := []) cx (cm_K_unload l D ca ad2 hs2 hc34 H29.size) (cwV 1 hts (jd_gV tb_173 tb_174 tb_6 tb_43 tb_175) rfl rfl rfl ⟨rfl, by decide, by decide, rfl⟩ (by rw [hR]; decide)) ⟨jd_blind nWc, (va_recv hK hP31 (ci := 3) (q0 := 15) rfl rfl), (jd_pre (av := [.ref (ad2 15), .int p0]) hP31 hK (hD I25 J26) (fun U h => nWm h hN))⟩ rfl rfl hln.1 rfl (lv_room (Nat.le_of_ble_eq_true rfl)) d_K_heat_65 ⟨by rw [hR]; exact Nat.le_of_ble_eq_true rfl, by rw [hR]; exact Nat.le_of_ble_eq_true rfl⟩) hS32 (hD I25 J26) hA (fun H36 L37 hP38 hS39 => ?_)
          cases hf35
          exact hend H36 L37 68 ls hP38 hS39 d_K_heat_68
        · have hf12 := ifn hf9 h10
          cases hf12
