/-! The law's start: what the tables give -/
theorem k_arr {args : Array Value} {s : State} {ty : FieldType} (h : (Cond.arrayClass ty).before args s = true) : ∃ cA : ClassId, ArrOfT s cA ty ∧ s.vm.findClass ("[" ++ ty.toString) = some cA := by
  obtain ⟨c, k, comp, h1, h2, h3⟩ := Cond.arrayClass_spec h
  exact ⟨c, fun n z => ⟨fun k h => (by cases h), k, h2, comp, h3⟩, h1⟩
theorem k_arq {args : Array Value} {s : State} {C : String} (h : (Cond.arrayOver (.object C)).before args s = true) : ∃ cA : ClassId, ArrOfT s cA (.object C) ∧ va_RA s cA (.object C) := by
  obtain ⟨comp, c, k, h1, h2, h3, h4, h5⟩ := Cond.arrayOver_spec h
  exact ⟨c, fun n z => ⟨fun k h => (by cases h), k, h3, comp, h4⟩, k, comp, h3, h4, h1, h5⟩
set_option maxRecDepth 100000 in
theorem k_all {s : State} {args : Array Value} (hts : ∀ w ∈ lw_tbl, w.before args s = true) : ∃ (D : va_G) (ca : Nat → ClassId), va_K D cls_all (tysC ca) s := by
  obtain ⟨c0, d0, k0⟩ := u_known (ws := lw_tbl) (C := R_H) (T := F_H) (N := 9) hts (fun w h => TB_in _ (uw_H w h)) (hts _ (TB_in _ tb_159))
  obtain ⟨c1, d1, k1⟩ := u_known (ws := lw_tbl) (C := R_T) (T := F_T) (N := 4) hts (fun w h => TB_in _ (uw_T w h)) (hts _ (TB_in _ tb_481))
  obtain ⟨c2, d2, k2⟩ := u_known (ws := lw_tbl) (C := R_R) (T := F_R) (N := 8) hts (fun w h => TB_in _ (uw_R w h)) (hts _ (TB_in _ tb_369))
  obtain ⟨c3, d3, k3⟩ := u_known (ws := lw_tbl) (C := R_K) (T := F_K) (N := 5) hts (fun w h => TB_in _ (uw_K w h)) (hts _ (TB_in _ tb_58))
  obtain ⟨c4, d4, k4⟩ := u_known (ws := lw_tbl) (C := R_S) (T := F_S) (N := 3) hts (fun w h => TB_in _ (uw_S w h)) (hts _ (TB_in _ tb_67))
  obtain ⟨c5, d5, k5⟩ := u_known (ws := lw_tbl) (C := R_L) (T := F_L) (N := 4) hts (fun w h => TB_in _ (uw_L w h)) (hts _ (TB_in _ tb_84))
  obtain ⟨c6, d6, k6⟩ := u_known (ws := lw_tbl) (C := R_M) (T := F_M) (N := 24) hts (fun w h => TB_in _ (uw_M w h)) (hts _ (TB_in _ tb_594))
  obtain ⟨a0, r0, f0⟩ := k_arr (hts _ (TB_in _ tb_476))
  obtain ⟨a1, r1, f1⟩ := k_arr (hts _ (TB_in _ tb_502))
  obtain ⟨a2, r2, f2⟩ := k_arr (hts _ (TB_in _ tb_82))
  obtain ⟨a3, r3, f3⟩ := k_arr (hts _ (TB_in _ tb_101))
  obtain ⟨a4, r4, f4⟩ := k_arq (C := "JuryDesk$Heat") (hts _ (List.mem_of_getElem? (i := 66) (by decide +kernel)))
  refine ⟨((fun k => match k with | 0 => c0 | 1 => c1 | 2 => c2 | 3 => c3 | 4 => c4 | 5 => c5 | _ => c6), (fun k => match k with | 0 => d0 | 1 => d1 | 2 => d2 | 3 => d3 | 4 => d4 | 5 => d5 | _ => d6)), (fun k => match k with | 0 => a0 | 1 => a1 | 2 => a2 | 3 => a3 | _ => a4), ?_, ?_⟩
  · intro c q hq
    have hlt : c < 7 := (List.getElem?_eq_some_iff.mp hq).1
    rcases (show c = 0 ∨ c = 1 ∨ c = 2 ∨ c = 3 ∨ c = 4 ∨ c = 5 ∨ c = 6 by omega) with rfl | rfl | rfl | rfl | rfl | rfl | rfl <;> cases hq
    · exact k0
    · exact k1
    · exact k2
    · exact k3
    · exact k4
    · exact k5
    · exact k6
  · intro k q hq
    have hlt : k < 5 := (List.getElem?_eq_some_iff.mp hq).1
    rcases (show k = 0 ∨ k = 1 ∨ k = 2 ∨ k = 3 ∨ k = 4 by omega) with rfl | rfl | rfl | rfl | rfl <;> cases hq
    · exact ⟨r0, f0⟩
    · exact ⟨r1, f1⟩
    · exact ⟨r2, f2⟩
    · exact ⟨r3, f3⟩
    · exact ⟨r4, f4⟩
theorem k_nn {s : State} {args : Array Value} (hts : ∀ w ∈ lw_tbl, w.before args s = true) : NN s := by
  intro w hw
  have h : w ∈ lw_tbl := by
    simp only [NL, List.mem_cons, List.not_mem_nil, or_false] at hw
    rcases hw with rfl | rfl | rfl | rfl | rfl | rfl | rfl
    · exact List.mem_of_getElem? (i := 69) (by decide +kernel)
    · exact List.mem_of_getElem? (i := 88) (by decide +kernel)
    · exact List.mem_of_getElem? (i := 138) (by decide +kernel)
    · exact List.mem_of_getElem? (i := 403) (by decide +kernel)
    · exact List.mem_of_getElem? (i := 527) (by decide +kernel)
    · exact List.mem_of_getElem? (i := 533) (by decide +kernel)
    · exact List.mem_of_getElem? (i := 557) (by decide +kernel)
  simp only [NL, List.mem_cons, List.not_mem_nil, or_false] at hw
  have h2 := hts w h
  rcases hw with rfl | rfl | rfl | rfl | rfl | rfl | rfl <;> exact va_Nw.of rfl h2
theorem xAt_in : xAt.all (fun w => decide (w ∈ lw_tbl) || decide (w ∈ flatC (Jvm.Cond.and given_1 narrow_1))) = true := by decide +kernel
set_option maxRecDepth 100000 in
theorem k_xf {s : State} {args : Array Value} (hts : ∀ w ∈ lw_tbl, w.before args s = true) (hpre : (Jvm.Cond.and given_1 narrow_1).before args s = true) : XF s := by
  have hs := flat_of_before _ hpre
  have str : ∀ (k : Nat) (tx : String), (Cond.stringRef "JuryDesk" k tx).before args s = true → (Cond.exactly (.string "JuryDesk" k) "java/lang/String").before args s = true → ∃ q, vk_R "JuryDesk" k tx q s := by
    intro k tx h1 h2
    obtain ⟨a, c, cA, kA, q1, -⟩ := Cond.exactly_spec (args := args) (first := s) (o := none) (s := s) (idx := []) (t := .string "JuryDesk" k) (cls := "java/lang/String") h2
    exact ⟨a, vk_R.of h1 q1⟩
  refine ⟨fun w hw => ?_, str 45 _ (hts _ (List.mem_of_getElem? (i := 500) (by decide +kernel))) (hs _ (by decide +kernel)), str 138 _ (hts _ (List.mem_of_getElem? (i := 644) (by decide +kernel))) (hs _ (by decide +kernel)), str 147 _ (hts _ (List.mem_of_getElem? (i := 652) (by decide +kernel))) (hs _ (by decide +kernel))⟩
  have h1 := List.all_eq_true.mp xAt_in w hw
  simp only [Bool.or_eq_true, decide_eq_true_eq] at h1
  exact xk_args (List.all_eq_true.mp xAt_k w hw) _ _ _ (h1.elim (hts w) (hs w))
