/-- what a method that may throw takes as given: the tables' words of Throwable's making, the messages -/
def XF (U : State) : Prop := (∀ w ∈ xAt, w.before #[] U = true) ∧ (∃ q, vk_R "JuryDesk" 45 "no such heat, or no such number of entries" q U) ∧ (∃ q, vk_R "JuryDesk" 138 "no such fraction" q U) ∧ (∃ q, vk_R "JuryDesk" 147 "no such rank or entry" q U)
def xk (w : Cond) : Bool := w.onTables || match w with
  | .isRef (.static ..) => true
  | .laysStatic .. => true
  | _ => false
theorem xAt_k : xAt.all xk = true := by decide +kernel
theorem xk_args {w : Cond} (h : xk w = true) (A A' : Array Value) (s : State) (hb : w.before A s = true) : w.before A' s = true := by
  by_cases ho : w.onTables = true
  · exact va_tabs ho rfl hb
  · cases w <;> first | (simp [xk] at h; exact absurd h ho) | skip
    all_goals first | exact hb | skip
    all_goals rename_i t; cases t <;> first | exact hb | (simp [xk] at h; exact absurd h ho)
theorem XF.at {s : State} (h : XF s) (args : Array Value) : ∀ w ∈ xAt, w.before args s = true := fun w hw => xk_args (List.all_eq_true.mp xAt_k w hw) _ _ _ (h.1 w hw)
def ft_K_heat (p0 : Int32) (p1 : Int32) : Option Unit :=
  if p0 < 0 then some () else if (12 : Int32) ≤ p0 then some () else if p1 < (1 : Int32) then some () else if p1 ≤ (16 : Int32) then none else some ()
set_option maxHeartbeats 4000000 in
set_option maxRecDepth 100000 in
theorem ct_K_heat (l : Launch) (hfl : l.flags = flags0) (a0 : Nat) {p0 : Int32} {p1 : Int32} (hf : ft_K_heat p0 p1 = some ()) : MetT l y_K_heat (Cond.code y_K_heat b_K_heat 3 none :: TB) { frames := 6, cells := 1, slots := 6, locals := 82 } (va_Pc [.ref a0, .int p0, .int p1] XF) := by
  refine MetT.ofW (cc := b_K_heat) (maxL := 3) (ret := none) (by decide) rfl ?_
  intro p e s m args below meth c s₁ B hml hout hadm hv
  obtain ⟨rfl, hv⟩ := hv
  have hx := B.exec
  have hb := B.bytes
  have hlk := B.notSynchronized
  have hts := atoms_spec (ws := Cond.code y_K_heat b_K_heat 3 none :: TB) B.pre
  have hown : s.vm.findClass "JuryDesk" = some m.cls := findClass_of_methodNamed B.named
  have htr : e.platform.stackTraces = false := Launch.traces_off hfl hadm
  have hat := hv.at ([.ref a0, .int p0, .int p1] : List Value).toArray
  obtain ⟨q, hZ⟩ := hv.2.1
  have hl := lv_entry ([.ref a0, .int p0, .int p1]) (n := 3) (Nat.le_of_ble_eq_true rfl)
  rw [lg_entry_eq]
  generalize (lg_sl ([.ref a0, .int p0, .int p1]) ++ List.replicate (3 - (lg_sl ([.ref a0, .int p0, .int p1])).length) Slot.unset).toArray = ls at hl ⊢
  have hl : lv_has ls 3 [(0, .ref a0), (1, .int p0), (2, .int p1)] := hl
  unfold ft_K_heat at hf
  refine lv_iload_n hx hb d_K_heat_0 rfl (lv_at hl 1 rfl) ?_
  refine lv_if_lt (tgt := 21) hx hb d_K_heat_1 rfl (fun h1 => ?_) (fun h1 => ?_)
  · have hf2 := ifp hf h1
    exact jd_throw hx hb (by rw [hml]; exact hl.1) hown hlk htr hat (hts _ (List.mem_cons_of_mem _ tb_427)) (hts _ (List.mem_cons_of_mem _ tb_51)) hZ hout (Nat.le_of_ble_eq_true rfl) (Nat.le_of_ble_eq_true rfl) (Nat.le_of_ble_eq_true rfl) (Nat.le_of_ble_eq_true rfl) d_K_heat_21 d_K_heat_24 d_K_heat_25 d_K_heat_27 d_K_heat_30
  · have hf3 := ifn hf h1
    refine lv_iload_n hx hb d_K_heat_4 rfl (lv_at hl 1 rfl) ?_
    refine lv_bipush (v := 12) hx hb d_K_heat_5 (by decide) ?_
    refine lv_icmp_ge (tgt := 21) hx hb d_K_heat_7 rfl (fun h4 => ?_) (fun h4 => ?_)
    · have hf5 := ifp hf3 h4
      exact jd_throw hx hb (by rw [hml]; exact hl.1) hown hlk htr hat (hts _ (List.mem_cons_of_mem _ tb_427)) (hts _ (List.mem_cons_of_mem _ tb_51)) hZ hout (Nat.le_of_ble_eq_true rfl) (Nat.le_of_ble_eq_true rfl) (Nat.le_of_ble_eq_true rfl) (Nat.le_of_ble_eq_true rfl) d_K_heat_21 d_K_heat_24 d_K_heat_25 d_K_heat_27 d_K_heat_30
    · have hf6 := ifn hf3 h4
      refine lv_iload_n hx hb d_K_heat_10 rfl (lv_at hl 2 rfl) ?_
      refine lv_iconst (v := 1) hx hb d_K_heat_11 (by decide) ?_
      refine lv_icmp_lt (tgt := 21) hx hb d_K_heat_12 rfl (fun h7 => ?_) (fun h7 => ?_)
      · have hf8 := ifp hf6 h7
        exact jd_throw hx hb (by rw [hml]; exact hl.1) hown hlk htr hat (hts _ (List.mem_cons_of_mem _ tb_427)) (hts _ (List.mem_cons_of_mem _ tb_51)) hZ hout (Nat.le_of_ble_eq_true rfl) (Nat.le_of_ble_eq_true rfl) (Nat.le_of_ble_eq_true rfl) (Nat.le_of_ble_eq_true rfl) d_K_heat_21 d_K_heat_24 d_K_heat_25 d_K_heat_27 d_K_heat_30
      · have hf9 := ifn hf6 h7
        refine lv_iload_n hx hb d_K_heat_15 rfl (lv_at hl 2 rfl) ?_
        refine lv_bipush (v := 16) hx hb d_K_heat_16 (by decide) ?_
        refine lv_icmp_le (tgt := 31) hx hb d_K_heat_18 rfl (fun h10 => ?_) (fun h10 => ?_)
        · have hf11 := ifp hf9 h10
          cases hf11
        · have hf12 := ifn hf9 h10
          exact jd_throw hx hb (by rw [hml]; exact hl.1) hown hlk htr hat (hts _ (List.mem_cons_of_mem _ tb_427)) (hts _ (List.mem_cons_of_mem _ tb_51)) hZ hout (Nat.le_of_ble_eq_true rfl) (Nat.le_of_ble_eq_true rfl) (Nat.le_of_ble_eq_true rfl) (Nat.le_of_ble_eq_true rfl) d_K_heat_21 d_K_heat_24 d_K_heat_25 d_K_heat_27 d_K_heat_30
def ft_K_chance (p0 : Int64) (p1 : Int64) (p2 : Int32) : Option Unit :=
  if (lg_cmp p0 (0 : Int64)) < 0 then some () else if 0 ≤ (lg_cmp p1 (1 : Int64)) then none else some ()
set_option maxHeartbeats 4000000 in
set_option maxRecDepth 100000 in
theorem ct_K_chance (l : Launch) (hfl : l.flags = flags0) (a0 : Nat) {p0 : Int64} {p1 : Int64} {p2 : Int32} (hf : ft_K_chance p0 p1 p2 = some ()) : MetT l y_K_chance (Cond.code y_K_chance b_K_chance 6 (some .long) :: TB) { frames := 6, cells := 1, slots := 6, locals := 82 } (va_Pc [.ref a0, .long p0, .long p1, .int p2] XF) := by
  refine MetT.ofW (cc := b_K_chance) (maxL := 6) (ret := (some .long)) (by decide) rfl ?_
  intro p e s m args below meth c s₁ B hml hout hadm hv
  obtain ⟨rfl, hv⟩ := hv
  have hx := B.exec
  have hb := B.bytes
  have hlk := B.notSynchronized
  have hts := atoms_spec (ws := Cond.code y_K_chance b_K_chance 6 (some .long) :: TB) B.pre
  have hown : s.vm.findClass "JuryDesk" = some m.cls := findClass_of_methodNamed B.named
  have htr : e.platform.stackTraces = false := Launch.traces_off hfl hadm
  have hat := hv.at ([.ref a0, .long p0, .long p1, .int p2] : List Value).toArray
  obtain ⟨q, hZ⟩ := hv.2.2.1
  have hl := lv_entry ([.ref a0, .long p0, .long p1, .int p2]) (n := 6) (Nat.le_of_ble_eq_true rfl)
  rw [lg_entry_eq]
  generalize (lg_sl ([.ref a0, .long p0, .long p1, .int p2]) ++ List.replicate (6 - (lg_sl ([.ref a0, .long p0, .long p1, .int p2])).length) Slot.unset).toArray = ls at hl ⊢
  have hl : lv_has ls 6 [(0, .ref a0), (1, .long p0), (3, .long p1), (5, .int p2)] := hl
  unfold ft_K_chance at hf
  refine lv_lload_n hx hb d_K_chance_0 rfl (lv_at hl 1 rfl) ?_
  refine lv_lconst (v := 0) hx hb d_K_chance_1 (by decide) ?_
  refine W.lcmp hx hb d_K_chance_2 ?_
  refine lv_if_lt (tgt := 12) hx hb d_K_chance_3 rfl (fun h1 => ?_) (fun h1 => ?_)
  · have hf2 := ifp hf h1
    exact jd_throw hx hb (by rw [hml]; exact hl.1) hown hlk htr hat (hts _ (List.mem_cons_of_mem _ tb_427)) (hts _ (List.mem_cons_of_mem _ tb_51)) hZ hout (Nat.le_of_ble_eq_true rfl) (Nat.le_of_ble_eq_true rfl) (Nat.le_of_ble_eq_true rfl) (Nat.le_of_ble_eq_true rfl) d_K_chance_12 d_K_chance_15 d_K_chance_16 d_K_chance_18 d_K_chance_21
  · have hf3 := ifn hf h1
    refine lv_lload_n hx hb d_K_chance_6 rfl (lv_at hl 2 rfl) ?_
    refine lv_lconst (v := 1) hx hb d_K_chance_7 (by decide) ?_
    refine W.lcmp hx hb d_K_chance_8 ?_
    refine lv_if_ge (tgt := 22) hx hb d_K_chance_9 rfl (fun h4 => ?_) (fun h4 => ?_)
    · have hf5 := ifp hf3 h4
      cases hf5
    · have hf6 := ifn hf3 h4
      exact jd_throw hx hb (by rw [hml]; exact hl.1) hown hlk htr hat (hts _ (List.mem_cons_of_mem _ tb_427)) (hts _ (List.mem_cons_of_mem _ tb_51)) hZ hout (Nat.le_of_ble_eq_true rfl) (Nat.le_of_ble_eq_true rfl) (Nat.le_of_ble_eq_true rfl) (Nat.le_of_ble_eq_true rfl) d_K_chance_12 d_K_chance_15 d_K_chance_16 d_K_chance_18 d_K_chance_21
def ft_K_give (p0 : Int32) (p1 : Int32) : Option Unit :=
  if p0 < (1 : Int32) then some () else if (16 : Int32) < p0 then some () else if p1 < (-1 : Int32) then some () else if p1 < (16 : Int32) then none else some ()
set_option maxHeartbeats 4000000 in
set_option maxRecDepth 100000 in
theorem ct_K_give (l : Launch) (hfl : l.flags = flags0) (a0 : Nat) {p0 : Int32} {p1 : Int32} (hf : ft_K_give p0 p1 = some ()) : MetT l y_K_give (Cond.code y_K_give b_K_give 4 (some .int) :: TB) { frames := 6, cells := 1, slots := 6, locals := 82 } (va_Pc [.ref a0, .int p0, .int p1] XF) := by
  refine MetT.ofW (cc := b_K_give) (maxL := 4) (ret := (some .int)) (by decide) rfl ?_
  intro p e s m args below meth c s₁ B hml hout hadm hv
  obtain ⟨rfl, hv⟩ := hv
  have hx := B.exec
  have hb := B.bytes
  have hlk := B.notSynchronized
  have hts := atoms_spec (ws := Cond.code y_K_give b_K_give 4 (some .int) :: TB) B.pre
  have hown : s.vm.findClass "JuryDesk" = some m.cls := findClass_of_methodNamed B.named
  have htr : e.platform.stackTraces = false := Launch.traces_off hfl hadm
  have hat := hv.at ([.ref a0, .int p0, .int p1] : List Value).toArray
  obtain ⟨q, hZ⟩ := hv.2.2.2
  have hl := lv_entry ([.ref a0, .int p0, .int p1]) (n := 4) (Nat.le_of_ble_eq_true rfl)
  rw [lg_entry_eq]
  generalize (lg_sl ([.ref a0, .int p0, .int p1]) ++ List.replicate (4 - (lg_sl ([.ref a0, .int p0, .int p1])).length) Slot.unset).toArray = ls at hl ⊢
  have hl : lv_has ls 4 [(0, .ref a0), (1, .int p0), (2, .int p1)] := hl
  unfold ft_K_give at hf
  refine lv_iload_n hx hb d_K_give_0 rfl (lv_at hl 1 rfl) ?_
  refine lv_iconst (v := 1) hx hb d_K_give_1 (by decide) ?_
  refine lv_icmp_lt (tgt := 22) hx hb d_K_give_2 rfl (fun h1 => ?_) (fun h1 => ?_)
  · have hf2 := ifp hf h1
    exact jd_throw hx hb (by rw [hml]; exact hl.1) hown hlk htr hat (hts _ (List.mem_cons_of_mem _ tb_427)) (hts _ (List.mem_cons_of_mem _ tb_51)) hZ hout (Nat.le_of_ble_eq_true rfl) (Nat.le_of_ble_eq_true rfl) (Nat.le_of_ble_eq_true rfl) (Nat.le_of_ble_eq_true rfl) d_K_give_22 d_K_give_25 d_K_give_26 d_K_give_28 d_K_give_31
  · have hf3 := ifn hf h1
    refine lv_iload_n hx hb d_K_give_5 rfl (lv_at hl 1 rfl) ?_
    refine lv_bipush (v := 16) hx hb d_K_give_6 (by decide) ?_
    refine lv_icmp_gt (tgt := 22) hx hb d_K_give_8 rfl (fun h4 => ?_) (fun h4 => ?_)
    · have hf5 := ifp hf3 h4
      exact jd_throw hx hb (by rw [hml]; exact hl.1) hown hlk htr hat (hts _ (List.mem_cons_of_mem _ tb_427)) (hts _ (List.mem_cons_of_mem _ tb_51)) hZ hout (Nat.le_of_ble_eq_true rfl) (Nat.le_of_ble_eq_true rfl) (Nat.le_of_ble_eq_true rfl) (Nat.le_of_ble_eq_true rfl) d_K_give_22 d_K_give_25 d_K_give_26 d_K_give_28 d_K_give_31
    · have hf6 := ifn hf3 h4
      refine lv_iload_n hx hb d_K_give_11 rfl (lv_at hl 2 rfl) ?_
      refine lv_iconst (v := -1) hx hb d_K_give_12 (by decide) ?_
      refine lv_icmp_lt (tgt := 22) hx hb d_K_give_13 rfl (fun h7 => ?_) (fun h7 => ?_)
      · have hf8 := ifp hf6 h7
        exact jd_throw hx hb (by rw [hml]; exact hl.1) hown hlk htr hat (hts _ (List.mem_cons_of_mem _ tb_427)) (hts _ (List.mem_cons_of_mem _ tb_51)) hZ hout (Nat.le_of_ble_eq_true rfl) (Nat.le_of_ble_eq_true rfl) (Nat.le_of_ble_eq_true rfl) (Nat.le_of_ble_eq_true rfl) d_K_give_22 d_K_give_25 d_K_give_26 d_K_give_28 d_K_give_31
      · have hf9 := ifn hf6 h7
        refine lv_iload_n hx hb d_K_give_16 rfl (lv_at hl 2 rfl) ?_
        refine lv_bipush (v := 16) hx hb d_K_give_17 (by decide) ?_
        refine lv_icmp_lt (tgt := 32) hx hb d_K_give_19 rfl (fun h10 => ?_) (fun h10 => ?_)
        · have hf11 := ifp hf9 h10
          cases hf11
        · have hf12 := ifn hf9 h10
          exact jd_throw hx hb (by rw [hml]; exact hl.1) hown hlk htr hat (hts _ (List.mem_cons_of_mem _ tb_427)) (hts _ (List.mem_cons_of_mem _ tb_51)) hZ hout (Nat.le_of_ble_eq_true rfl) (Nat.le_of_ble_eq_true rfl) (Nat.le_of_ble_eq_true rfl) (Nat.le_of_ble_eq_true rfl) d_K_give_22 d_K_give_25 d_K_give_26 d_K_give_28 d_K_give_31
