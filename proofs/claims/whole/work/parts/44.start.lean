def R_law : String := "JuryDeskLaw"
def lw_P (b : Addr) (xs : List Int32) (args : Array Value) (s : State) : Prop := args = #[.ref b] ∧ s.IntsAt b xs ∧ xs.length ≤ 3072 ∧ (Jvm.Cond.and given_1 narrow_1).before args s = true
def lw_Q (_ : Array Value) (s : State) (o : Outcome) (t : State) : Prop := o = .returned (some (.int 1)) ∧ Framed s o t [] 601024 7293034
def lw_Z (below : List Frame) (a : Array Value) (s : State) : State → Prop := fun t => ∃ o, t.status = .running ∧ Ended t below o ∧ lw_Q a s o t
/-- the law's own end, with 1 on the stack, nothing written that was there before, its room as the claim has it -/
theorem lw_ret {p : Program} {l : Launch} {e : Env} {s : State} {m : MethodId} {below : List Frame} {meth : Method} {c : Code} {b : Nat} (hx : p.tables.exec = Jvm.exec) (hb : c.code = code) (hr : meth.sig.returnType = ret) (hlocks : meth.locks = false) {pc : Nat} {H : Heap} {ls : Array Slot} (hdg : decode code pc = .ok (.ireturn, 1)) : W p l e room_1 s m #[Value.ref b] below meth c H [] 601024 7293034 (lw_Z below #[Value.ref b] s) (F0 m pc ls [.int 1]) := by
  intro T hT X
  obtain ⟨fs, hret, hrun, hended, hW, hframe⟩ := X.leave (v := some (.int 1)) (hlocks := hlocks) (fun h => by rw [hr] at h; cases h)
  have hmeth' : T.vm.method? m = some meth := X.method'
  refine ⟨T.setFrames fs, ?_, .returned (some (.int 1)), hrun, hended, rfl, ⟨_, rfl⟩, hW, hframe⟩
  jvm_step X.here [X.here.top, hx, hb, hdg, hmeth', hr, ret, narrow_b1]
  (try refine ⟨rfl, ?_⟩); (try refine ⟨rfl, ?_⟩)
  first | (intro acts; rw [hret _ acts rfl rfl rfl]) | rw [hret _ _ rfl rfl rfl]
  exact Steps.refl _
/-- what holds at the law's entry: the machine, the code, the tables' words (any of lw_tbl by 'hts w (by decide +kernel)'), the script of L ints xs at the cell b, what the Statement gives of the start (any of its parts by flat_of_before) -/
def lw_At (p : Program) (s : State) (m : MethodId) (meth : Method) (c : Code) (b L : Nat) (xs : Nat → Int32) : Prop :=
  p.tables.exec = Jvm.exec ∧ c.code = code ∧ meth.sig.returnType = ret ∧ c.maxLocals = 8 ∧ s.vm.findClass R_law = some m.cls ∧ (∀ w ∈ lw_tbl, w.before #[Value.ref b] s = true) ∧ va_X b L xs s s.heap ∧ b < s.heap.size ∧ meth.locks = false ∧ (Jvm.Cond.and given_1 narrow_1).before #[Value.ref b] s = true
def Ok_init (Rel : (Nat → Bool) → IS → JS → (Nat → IS) → (Nat → JS) → IS → JS → (Nat → Int64) → Prop) : Prop := ∃ (kI nM : IS), fm_K_init (sV (fun _ _ => 0) 17 (-1)) = some kI ∧ fm_M_init (sV (fun _ _ => 0) 7 (-1)) = some nM ∧ Rel (fun _ => false) kI (fun _ _ => 0) (fun _ _ _ => 0) (fun _ _ _ => 0) nM (fun _ _ => 0) (fun _ => 0)
set_option maxHeartbeats 4000000 in
set_option maxRecDepth 100000 in
theorem whole_open {Rel : (Nat → Bool) → IS → JS → (Nat → IS) → (Nat → JS) → IS → JS → (Nat → Int64) → Prop} (hini : Ok_init Rel) (hok : Ok_all Rel) {p : Program} {e : Env} {s : State} {m : MethodId} {below : List Frame} {meth : Method} {c : Code} (l : Launch) (hfl : l.flags = flags0) {b L : Nat} {xs : Nat → Int32} (hL : L ≤ 3072) (C0 : lw_At p s m meth c b L xs) : W p l e room_1 s m #[Value.ref b] below meth c s.heap [] 0 0 (lw_Z below #[Value.ref b] s) (entryFrame m ([Value.ref b] : List Value).toArray 8) := by
  obtain ⟨hx, hb, hr, hml, hown, hts, hX, hbl, hlocks, hpre⟩ := C0
  obtain ⟨D, ca, hK⟩ := k_all hts
  have hN := k_nn hts
  have hXF := k_xf hts hpre
  obtain ⟨kI, nM, fK, fM, hR⟩ := hini
  have hown : s.vm.findClass R_W = some m.cls := hown
  have cx : CallFix p m c code 8 s #[Value.ref b] lw_tbl R_W := ⟨hx, hb, hml, hown, hts⟩
  have hA : ∀ q, s.heap.size ≤ q → (fun q => s.heap.size ≤ q) q := fun q h => h
  have hS : va_S (fun q => s.heap.size ≤ q) s.heap s.heap [] := va_S.rf
  have hP : va_P D cls_all [] s.heap := fun k q h => by cases h
  have hD : va_D (fun q => s.heap.size ≤ q) [] := jd_Dmem.mpr ⟨List.nodup_nil, fun q h => by cases h⟩
  have hl := lv_entry ([Value.ref b]) (n := 8) (Nat.le_of_ble_eq_true rfl)
  rw [lg_entry_eq]
  generalize (lg_sl ([Value.ref b]) ++ List.replicate (8 - (lg_sl ([Value.ref b])).length) Slot.unset).toArray = ls at hl ⊢
  have hl : lv_has ls 8 [(0, .ref b)] := hl
  refine va_new (ci := 3) (fs := [.null, .null, .null, .null, .int 0]) (C := R_K) (T := F_K) (N := 5) hx hb hts (fun w h => TB_in _ (uw_K w h)) ft_K tk_K hown (hts _ (TB_in _ tb_57)) (hts _ (TB_in _ tb_58)) (hts _ (TB_in _ tb_43)) hK hP hD hS hA rfl (fun j hj => by rcases (show j = 0 ∨ j = 1 ∨ j = 2 ∨ j = 3 ∨ j = 4 by omega) with rfl | rfl | rfl | rfl | rfl <;> rfl) (Nat.le_of_ble_eq_true rfl) (Nat.le_of_ble_eq_true rfl) d_law_0 (fun q1 H hP hD hS => ?_)
  refine W.cs (cells' := 1) (slots' := 5) rfl rfl ?_
  refine lv_dup hx hb d_law_3 rfl ?_
  have hPc : va_P D cls_all ([(q1, .inr (3, [.null, .null, .null, .null, .int 0]))] ++ []) H := hP
  have hDc : va_D (fun q => s.heap.size ≤ q) ([(q1, .inr (3, [.null, .null, .null, .null, .int 0]))] ++ []) := hD
  refine va_callv (va_runI (As := []) (rest := [.ref q1]) cx (cm_K_init l D ca q1 fK H.size) (cwI 0 hts (jd_gWL (TB_in _ tb_61) (TB_ok _ tb_61)) rfl rfl rfl (hts _ (TB_in _ tb_43)) (hts _ (TB_in _ tb_59)) (hts _ (TB_in _ tb_60)) rfl ⟨by decide, by decide, rfl⟩ ⟨Nat.le_of_ble_eq_true rfl, Nat.le_of_ble_eq_true rfl⟩) ⟨jd_blind (fun U g mk a h => ⟨nWc U g mk a h.1, va_AO.moved (u := U) (U := U.calling g mk a) (Vm.Alike.refl U.vm) h.2⟩), jd_pre (av := [.ref q1]) (jd_Pl hPc) hK (jd_Dl hDc) (fun U h => ⟨nWm h hN, va_AO.moved h.alike (va_AO.of (hts _ (List.mem_of_getElem? (i := 66) (by decide +kernel))))⟩)⟩ rfl rfl hl.1 rfl (lv_room (Nat.le_of_ble_eq_true rfl)) d_law_4 ⟨Nat.le_of_ble_eq_true rfl, Nat.le_of_ble_eq_true rfl⟩) hS (fun q _ h => jd_free (jd_Dl hDc) hS hA q h) (jd_free (jd_Dl hDc) hS hA) (fun ad t H1 locs1 ht _ _ hB _ hk1 hS1 => ?_)
  subst ht
  obtain ⟨e15, b3, b4⟩ := hB
  obtain ⟨hP, hD⟩ := jd_frame hPc hDc hk1 (jd_free (jd_Dl hDc) hS hA) b3 b4
  have hS := hS1
  generalize t.heap = H at hP hS ⊢
  generalize locs1 = locs at hS ⊢
  refine W.cs (cells' := 11) (slots' := 131656) rfl rfl ?_
  refine lv_astore_n hx hb d_law_7 rfl hl (by decide) (lv' := [(1, .ref q1), (0, .ref b)]) rfl (fun ls hl => ?_)
  rw [List.append_nil] at hP hD
  refine va_new (ci := 6) (fs := [.int 0, .null, .null, .null, .null, .null, .null, .int 0, .int 0, .null, .null, .int 0, .null, .null, .int 0, .null, .null, .null, .null, .null, .null, .null, .null, .int 0]) (C := R_M) (T := F_M) (N := 24) hx hb hts (fun w h => TB_in _ (uw_M w h)) ft_M tk_M hown (hts _ (TB_in _ tb_593)) (hts _ (TB_in _ tb_594)) (hts _ (TB_in _ tb_47)) hK hP hD hS hA rfl (fun j hj => by rcases (show j = 0 ∨ j = 1 ∨ j = 2 ∨ j = 3 ∨ j = 4 ∨ j = 5 ∨ j = 6 ∨ j = 7 ∨ j = 8 ∨ j = 9 ∨ j = 10 ∨ j = 11 ∨ j = 12 ∨ j = 13 ∨ j = 14 ∨ j = 15 ∨ j = 16 ∨ j = 17 ∨ j = 18 ∨ j = 19 ∨ j = 20 ∨ j = 21 ∨ j = 22 ∨ j = 23 by omega) with rfl | rfl | rfl | rfl | rfl | rfl | rfl | rfl | rfl | rfl | rfl | rfl | rfl | rfl | rfl | rfl | rfl | rfl | rfl | rfl | rfl | rfl | rfl | rfl <;> rfl) (Nat.le_of_ble_eq_true rfl) (Nat.le_of_ble_eq_true rfl) d_law_8 (fun q2 H hP hD hS => ?_)
  refine W.cs (cells' := 12) (slots' := 131680) rfl rfl ?_
  refine lv_dup hx hb d_law_11 rfl ?_
  have hPc := jd_Pp List.perm_append_comm hP
  have hDc := jd_Dp List.perm_append_comm hD
  refine va_callv (va_runI (As := []) (rest := [.ref q2]) cx (cm_M_init l D ca q2 fM H.size) (cwI 0 hts (jd_gWL (TB_in _ tb_597) (TB_ok _ tb_597)) rfl rfl rfl (hts _ (TB_in _ tb_47)) (hts _ (TB_in _ tb_595)) (hts _ (TB_in _ tb_596)) rfl ⟨by decide, by decide, rfl⟩ ⟨Nat.le_of_ble_eq_true rfl, Nat.le_of_ble_eq_true rfl⟩) ⟨jd_blind nWc, jd_pre (av := [.ref q2]) (jd_Pl hPc) hK (jd_Dl hDc) (fun U h => nWm h hN)⟩ rfl rfl hl.1 rfl (lv_room (Nat.le_of_ble_eq_true rfl)) d_law_12 ⟨Nat.le_of_ble_eq_true rfl, Nat.le_of_ble_eq_true rfl⟩) hS (fun q _ h => jd_free (jd_Dl hDc) hS hA q h) (jd_free (jd_Dl hDc) hS hA) (fun am t H1 locs1 ht _ _ hB _ hk1 hS1 => ?_)
  subst ht
  obtain ⟨e0, b3, b4⟩ := hB
  obtain ⟨hP, hD⟩ := jd_frame hPc hDc hk1 (jd_free (jd_Dl hDc) hS hA) b3 b4
  have hS := hS1
  generalize t.heap = H at hP hS ⊢
  generalize locs1 = locs at hS ⊢
  refine W.cs (cells' := 30) (slots' := 277588) rfl rfl ?_
  refine lv_astore_n hx hb d_law_15 rfl hl (by decide) (lv' := [(2, .ref q2), (1, .ref q1), (0, .ref b)]) rfl (fun ls hl => ?_)
  refine lv_iconst (v := 1) hx hb d_law_16 (by decide) ?_
  refine jd_newa (atype := .long) (a0 := (1, .inr (.inl (fun _ => 0)))) (N' := 1) (ty := .long) hx hb (hts _ (TB_in _ tb_101)) rfl (fun _ _ h => h) hK hP hD hS hA 3 rfl (fun _ => rfl) (by decide) (by decide) (by decide) (Nat.le_of_ble_eq_true rfl) (Nat.le_of_ble_eq_true rfl) d_law_17 (c' := 31) (s' := 277589) rfl rfl (fun q3 H hP hD hS => ?_)
  refine lv_astore_n hx hb d_law_19 rfl hl (by decide) (lv' := [(3, .ref q3), (2, .ref q2), (1, .ref q1), (0, .ref b)]) rfl (fun ls hl => ?_)
  refine lv_iconst (v := 0) hx hb d_law_20 (by decide) ?_
  refine lv_istore hx hb d_law_21 hl (by decide) (lv' := [(4, .int 0), (3, .ref q3), (2, .ref q2), (1, .ref q1), (0, .ref b)]) rfl (fun ls hl => ?_)
  obtain ⟨ad2, had⟩ : ∃ z : Nat → Nat, z = (fun k => cond (Nat.beq k 26) q3 (ad k)) := ⟨_, rfl⟩
  have pm : ((wM ca am nM (fun _ _ => 0) ++ wD ca ad (fun _ => none) kI (fun _ _ => 0)) ++ ([(q3, .inl (ca 3, 1, .inr (.inl (fun _ => 0))))] : va_W)).Perm (wL ca ad2 (fun _ _ => 0) am (fun _ => false) kI (fun _ _ => 0) (fun _ _ _ => 0) (fun _ _ _ => 0) nM (fun _ _ => 0) (fun _ => 0)) := by
    have e1 : wL ca ad2 (fun _ _ => 0) am (fun _ => false) kI (fun _ _ => 0) (fun _ _ _ => 0) (fun _ _ _ => 0) nM (fun _ _ => 0) (fun _ => 0) = wD ca ad (fun _ => none) kI (fun _ _ => 0) ++ (([(q3, .inl (ca 3, 1, .inr (.inl (fun _ => 0))))] : va_W) ++ (wM ca am nM (fun _ _ => 0) ++ [])) := by rw [had]; rfl
    rw [e1, List.append_nil, List.append_assoc]
    exact (List.perm_append_comm).trans (by rw [List.append_assoc])
  have hW : lwS D s ca ad2 (fun _ _ => 0) am (fun _ => false) kI (fun _ _ => 0) (fun _ _ _ => 0) (fun _ _ _ => 0) nM (fun _ _ => 0) (fun _ => 0) H locs := ⟨jd_Pp pm hP, jd_Dp pm hD, hS⟩
  have hl2 : lv_has ls 8 (lvL b ad2 am (nI (6 * 0))) := by
    have e2 : lvL b ad2 am (nI (6 * 0)) = [(0, .ref b), (1, .ref q1), (2, .ref q2), (3, .ref q3), (4, .int 0)] := by
      unfold lvL; rw [had, ← e15, ← e0]; rfl
    rw [e2]; exact lv_sub hl [4, 3, 2, 1, 0] rfl
  refine law_loop hok ⟨cx, hK, hN, hXF, hfl, hX, hbl⟩ hL (fun H locs ls cells slots hS hc hs => ?_) 513 0 (by omega) (by omega) _ _ _ _ _ _ _ _ _ H locs ls _ _ hR hW hl2 (by decide) (by decide)
  refine va_forget (fun q hq => hS.2.2 q hq) ?_
  refine W.widen (k := 601024) (n := 7293034) hc hs ?_
  refine lv_iconst (v := 1) hx hb d_law_1181 (by decide) ?_
  exact lw_ret hx hb hr hlocks d_law_1182
