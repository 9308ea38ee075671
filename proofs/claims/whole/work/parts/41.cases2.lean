section JSW
variable {p : Program} {l : Launch} {e : Env} {R : Room} {s : State} {m : MethodId} {args : Array Value} {below : List Frame} {meth : Method} {c : Code} {H : Heap} {locs : List Loc} {cells slots : Nat}
variable {y : MethodName} {bytes cc : ByteArray} {maxL nL mc ms n index : Nat} {ret : Option FieldType} {ws ws' : List Cond} {rm : Room} {Pc : Array Value → State → Prop} {Qc : Array Value → State → Outcome → State → Prop} {free : Addr → Prop} {Ts : List Cond} {own : String} {As rest : List Value} {g : JFrame} {hh : List (Nat × Nat × Nat × Nat)}
theorem jd_runSW (S : CallFix p m c cc nL s args Ts own) (hM : Met l y ws rm Pc Qc mc ms free) (hG : GoodIn Ts ws) (hw : ws = Cond.codeWith y bytes maxL ret hh :: ws') (hrc : rm.cells = mc) (hrs : rm.slots = ms) (hroom : rm.frames + 1 ≤ R.frames ∧ 8 + (maxL + 11) + rm.locals ≤ R.locals)
    (hl : (Cond.methodLink own index y).before args s = true) (hst : (Cond.static y).before args s = true) (hini : (Cond.initialized y.cls).before args s = true) (hd : y.cls ≠ "java/lang/invoke/MethodHandle" ∧ y.cls ≠ "java/lang/invoke/VarHandle" ∧ (parseMethodDescriptor y.desc).map (fun d => d.parameters.length) = some n) (hp : PreS s H Pc As)
    (hg : g.method = m) (hn : As.length = n) (hsize : g.locals.size = nL) (hstack : g.stack = As.reverse ++ rest) (hW : 2 * g.monitorRoom + (rest.map fun v => v.category).sum ≤ 8) (hdg : decode cc g.pc = .ok (.invokestatic index, 3)) (hf : cells + mc ≤ R.cells ∧ slots + ms ≤ R.slots) :
    va_Run p l e R s m args below meth c H locs cells slots mc ms g rest (Qc As.toArray) (free) := by
  obtain ⟨hx, hb, hml, ho, hts⟩ := S
  have hcw : Cond.codeWith y bytes maxL ret hh ∈ ws := by rw [hw]; exact List.mem_cons_self
  have hcode : (Cond.codeWith y bytes maxL ret hh).before args s = true := hts _ (hG _ hcw).1
  have hK : Back l R p e below s args y 3 8 (PreOf R mc ms Pc) (PostOf Qc mc ms free) := va_backW (bytes := bytes) (maxL := maxL) (ret := ret) (hh := hh) hM hp.1 hrc hrs hroom.1 hroom.2 (pay_in hts hG) hcw (fun a' U hW => word_at hW (Or.inl (by first | rfl | simp [Cond.onTables, Cond.keeps, Cond.steady])) hini)
  intro T hT X
  obtain ⟨mk, methM, cM, hnamed, hmethM, hcM, -, -, -, -, -, hsigM⟩ := Cond.codeWith_spec hcode
  have hstatic : methM.isStatic = true := Cond.static_spec hnamed hmethM hst
  obtain ⟨kP, hkP, -⟩ := className_of_methodNamed hnamed
  have hinitP : kP.init = .initialized := Cond.initialized_spec (findClass_of_methodNamed hnamed) hkP hini
  have hlen : As.length = methM.sig.parameters.length := by
    have h2 := hd.2.2
    rw [hsigM] at h2
    rw [hn]
    exact (Option.some.inj h2).symm
  obtain ⟨vm₁, X₁, hstep₁⟩ := X.invokestatic hx ho hl hnamed hmethM hstatic hkP hinitP ⟨hd.1, hd.2.1⟩ (g := g) hg (argsL := As) (rest := rest) hlen hstack (by rw [hb]; exact hdg)
  obtain ⟨v, ⟨U', l2, c2, s2⟩, X', ⟨g', mk', t, L, e1, e2, hq, h1, hL, h2, h3⟩, hsteps⟩ := hK m meth c ⟨T.setVm vm₁, locs, cells, slots⟩ { g with stack := rest } (.invokestatic index) mk As.toArray X₁ hg (hsize.trans hml.symm) (by rw [hb]; exact hdg) hW (X₁.named hnamed) ⟨hf.1, hf.2, hp.2 (T.setVm vm₁) hT X₁.warmed⟩
  dsimp only [Pt.U, Pt.locs, Pt.cells, Pt.slots] at X' e1 e2 h1 h2 h3 hsteps
  subst h1; subst h2; subst h3
  exact ⟨v, (T.setVm vm₁).calling g' mk' As.toArray, t, U', L, hT, X', hL, e1, e2, hq, fun target h => hstep₁ _ fun acts => by rw [doInvoke_state]; exact hsteps.trans h⟩
end JSW
theorem jd_gWL {c2 : Cond} (h5 : c2 ∈ lw_tbl) (hg : goodWord c2 = true) : GoodIn lw_tbl (c2 :: TB) := fun w hw => by
  rcases List.mem_cons.mp hw with q | q
  · rw [q]; exact ⟨h5, good_of_word hg⟩
  · exact ⟨TB_in w q, good_of_word (TB_ok w q)⟩
def Ok_heat (Rel : (Nat → Bool) → IS → JS → (Nat → IS) → (Nat → JS) → IS → JS → (Nat → Int64) → Prop) : Prop := (∀ (pr : Nat → Bool) (I : IS) (J : JS) (Ih : Nat → IS) (Jh : Nat → JS) (IM : IS) (JM : JS) (O : Nat → Int64), Rel pr I J Ih Jh IM JM O → ∀ (p0 p1 : Int32), ft_K_heat p0 p1 = some () → ∃ nM : IS, fm_M_heat p0 p1 IM = some nM ∧ fm_M_thrown nM = some 1 ∧ Rel pr I J Ih Jh nM JM O) ∧ (∀ (pr : Nat → Bool) (I : IS) (J : JS) (Ih : Nat → IS) (Jh : Nat → JS) (IM : IS) (JM : JS) (O : Nat → Int64), Rel pr I J Ih Jh IM JM O → ∀ (p0 p1 : Int32), ft_K_heat p0 p1 ≠ some () → ∀ h, h < 12 → p0 = nI h → pr h = true → ∃ (kI : IS) (kJ : JS) (nM : IS), fm_W_heat p0 p1 (mI (Ih h) I) (mJ (Jh h) J) = some (0, kI, kJ) ∧ fm_M_heat p0 p1 IM = some nM ∧ fm_M_thrown nM = some 0 ∧ Rel pr kI kJ (upN Ih h kI) (upN Jh h kJ) nM JM O) ∧ (∀ (pr : Nat → Bool) (I : IS) (J : JS) (Ih : Nat → IS) (Jh : Nat → JS) (IM : IS) (JM : JS) (O : Nat → Int64), Rel pr I J Ih Jh IM JM O → ∀ (p0 p1 : Int32), ft_K_heat p0 p1 ≠ some () → (∀ h, h < 12 → p0 = nI h → pr h = false) → ∃ (h : Nat) (kI : IS) (kJ : JS) (nM : IS), h < 12 ∧ p0 = nI h ∧ fm_K_heat_n p0 p1 I J = some (kI, kJ) ∧ fm_M_heat p0 p1 IM = some nM ∧ fm_M_thrown nM = some 0 ∧ Rel (upN pr h true) kI kJ (upN Ih h kI) (upN Jh h kJ) nM JM O)
set_option maxHeartbeats 4000000 in
set_option maxRecDepth 100000 in
theorem law_heat {Rel : (Nat → Bool) → IS → JS → (Nat → IS) → (Nat → JS) → IS → JS → (Nat → Int64) → Prop} (hok : Ok_heat Rel) {p : Program} {l : Launch} {e : Env} {s : State} {m : MethodId} {below : List Frame} {meth : Method} {c : Code} {b L : Nat} {xs : Nat → Int32} {D : va_G} {ca : Nat → ClassId} {Q : State → Prop} (C0 : lwC p l s m meth c b L xs D ca) {ad : Nat → Nat} {adh : Nat → Nat → Nat} {am : Nat → Nat} {pr : Nat → Bool} {I : IS} {J : JS} {Ih : Nat → IS} {Jh : Nat → JS} {IM : IS} {JM : JS} {O : Nat → Int64} {H : Heap} {locs : List Loc} {ls : Array Slot} {cells slots : Nat} {i : Int32} (hR : Rel pr I J Ih Jh IM JM O) (hW : lwS D s ca ad adh am pr I J Ih Jh IM JM O H locs) (hl : lv_has ls 8 (lvL b ad am i)) (hin : vp_in (i + 1) L ∧ vp_in (i + 2) L ∧ vp_in (i + 3) L ∧ vp_in (i + 4) L ∧ vp_in (i + 5) L) (hc : cells + 16 ≤ 601024) (hs : slots + 1900 ≤ 7293034) (kk : lwK Rel p l e s m below meth c b D ca ad am i cells slots Q) : W p l e room_1 s m #[Value.ref b] below meth c H locs cells slots Q (F0 m 144 ls []) := by
  obtain ⟨cx, hK, hN, hXF, hfl, hX, hbl⟩ := C0
  have hx := cx.1
  have hb := cx.2.1
  have hown := cx.2.2.2.1
  have hts := cx.2.2.2.2
  obtain ⟨hP, hD, hS⟩ := hW
  have hA : ∀ q, s.heap.size ≤ q → (fun q => s.heap.size ≤ q) q := fun q h => h
  have hbA : ¬ (fun q => s.heap.size ≤ q) b := fun h => absurd h (Nat.not_le.mpr hbl)
  obtain ⟨hin1, hin2, hin3, hin4, hin5⟩ := hin
  generalize ha1 : xs (i + 1).toNatClampNeg = a1
  generalize ha2 : xs (i + 2).toNatClampNeg = a2
  generalize ha3 : xs (i + 3).toNatClampNeg = a3
  generalize ha4 : xs (i + 4).toNatClampNeg = a4
  generalize ha5 : xs (i + 5).toNatClampNeg = a5
  by_cases hft : ft_K_heat a1 a2 = some ()
  · obtain ⟨nM, f2, f3, hR2⟩ := hok.1 pr I J Ih Jh IM JM O hR a1 a2 hft
    refine lv_aload_n hx hb d_law_144 rfl (lv_at hl 1 rfl) ?_
    refine lv_aload_n hx hb d_law_145 rfl (lv_at hl 0 rfl) ?_
    refine lv_iload hx hb d_law_146 (lv_at hl 4 rfl) ?_
    refine lv_iconst (v := 1) hx hb d_law_148 (by decide) ?_
    refine lv_iadd hx hb d_law_149 ?_
    refine jd_sld hx hb hX hbl hbA hS hin1 ha1 d_law_150 ?_
    refine lv_aload_n hx hb d_law_151 rfl (lv_at hl 0 rfl) ?_
    refine lv_iload hx hb d_law_152 (lv_at hl 4 rfl) ?_
    refine lv_iconst (v := 2) hx hb d_law_154 (by decide) ?_
    refine lv_iadd hx hb d_law_155 ?_
    refine jd_sld hx hb hX hbl hbA hS hin2 ha2 d_law_156 ?_
    refine va_calli (jd_runSW (As := [.ref (ad 15), .int a1, .int a2]) (rest := []) cx (ct_W_heat l hfl D ca (w := wL ca ad adh am pr I J Ih Jh IM JM O) (q0 := 0) rfl hft H.size) (jd_gWL (List.mem_of_getElem? (i := 455) (by decide +kernel)) (by decide +kernel)) rfl rfl rfl ⟨Nat.le_of_ble_eq_true rfl, Nat.le_of_ble_eq_true rfl⟩ (hts _ (TB_in _ tb_420)) (hts _ (TB_in _ tb_421)) (hts _ (TB_in _ tb_42)) ⟨by decide, by decide, rfl⟩ ⟨fun a U g mk q => ⟨q.1, (jd_blind nWc (av := [.ref (ad 15), .int a1, .int a2]) a U g mk ⟨q.1, q.2.1⟩).2, q.2.2.call g mk a⟩, fun U hU hW => ⟨rfl, (jd_pre (av := [.ref (ad 15), .int a1, .int a2]) hP hK hD (fun U h => nWm h hN) U hU hW).2, hXF.move hW (fun q hq => by rw [hU]; exact hS.2.1 q hq (Nat.not_le.mpr hq))⟩⟩ rfl rfl hl.1 rfl (lv_room (Nat.le_of_ble_eq_true rfl)) d_law_157 ⟨(by show cells + 1 ≤ 601024; omega), (by show slots + 6 ≤ 7293034; omega)⟩) hS (fun q _ h => jd_free hD hS hA q h) (jd_free hD hS hA) (fun r u t H1 locs1 ht _ hp hB _ _ hS1 => ?_)
    subst hp
    subst ht
    have hP := hB
    have hS := hS1
    generalize t.heap = H at hP hS ⊢
    generalize locs1 = locs at hS ⊢
    refine lv_istore hx hb d_law_160 hl (by decide) (lv' := (5, .int 1) :: lvL b ad am i) rfl (fun ls hl => ?_)
    refine lv_aload_n hx hb d_law_162 rfl (lv_at hl 3 rfl) ?_
    refine lv_aload_n hx hb d_law_163 rfl (lv_at hl 1 rfl) ?_
    refine lv_iload hx hb d_law_164 (lv_at hl 5 rfl) ?_
    refine lv_iconst (v := 1) hx hb d_law_166 (by decide) ?_
    refine lv_iadd hx hb d_law_167 ?_
    refine jd_sld hx hb hX hbl hbA hS hin1 ha1 d_law_168 ?_
    refine lv_aload_n hx hb d_law_169 rfl (lv_at hl 1 rfl) ?_
    refine lv_iload hx hb d_law_170 (lv_at hl 5 rfl) ?_
    refine lv_iconst (v := 2) hx hb d_law_172 (by decide) ?_
    refine lv_iadd hx hb d_law_173 ?_
    refine jd_sld hx hb hX hbl hbA hS hin2 ha2 d_law_174 ?_
    have hPm := jd_Pp wL_M hP
    have hDm := jd_Dp wL_M hD
    refine jd_frv (w1 := wM ca am nM JM) hPm hDm hS hA rfl (va_runV (As := [.int a1, .int a2]) (rest := []) cx (cm_M_heat l D ca am f2 H.size) (cwV 2 hts (jd_gVL tb_676 tb_677 tb_678 tb_47 tb_679) rfl rfl rfl ⟨rfl, by decide, by decide, rfl⟩ ⟨Nat.le_of_ble_eq_true rfl, Nat.le_of_ble_eq_true rfl⟩) ⟨jd_blind nWc, va_recv hK (jd_Pl hPm) (ci := 6) (q0 := 0) rfl rfl, jd_pre (av := [.ref (am 0), .int a1, .int a2]) (jd_Pl hPm) hK (jd_Dl hDm) (fun U h => nWm h hN)⟩ rfl rfl hl.1 rfl (lv_room (Nat.le_of_ble_eq_true rfl)) d_law_175 ⟨(by show cells + 1 + 0 ≤ 601024; omega), (by show slots + 6 + 0 ≤ 7293034; omega)⟩) (fun H locs hP1 hD1 hS => ?_)
    have hP := jd_Pp wL_M.symm hP1
    have hD := jd_Dp wL_M.symm hD1
    refine lv_aload_n hx hb d_law_178 rfl (lv_at hl 3 rfl) ?_
    have hPm := jd_Pp wL_M hP
    have hDm := jd_Dp wL_M hD
    refine jd_fri (w1 := wM ca am nM JM) hPm hDm hS hA rfl (va_runV (As := []) (rest := []) cx (cm_M_thrown l D ca am f3 H.size) (cwV 0 hts (jd_gVL tb_672 tb_673 tb_674 tb_47 tb_675) rfl rfl rfl ⟨rfl, by decide, by decide, rfl⟩ ⟨Nat.le_of_ble_eq_true rfl, Nat.le_of_ble_eq_true rfl⟩) ⟨jd_blind nWc, va_recv hK (jd_Pl hPm) (ci := 6) (q0 := 0) rfl rfl, jd_pre (av := [.ref (am 0)]) (jd_Pl hPm) hK (jd_Dl hDm) (fun U h => nWm h hN)⟩ rfl rfl hl.1 rfl (lv_room (Nat.le_of_ble_eq_true rfl)) d_law_179 ⟨(by show cells + 1 + 0 ≤ 601024; omega), (by show slots + 6 + 0 ≤ 7293034; omega)⟩) (fun H locs hP1 hD1 hS => ?_)
    have hP := jd_Pp wL_M.symm hP1
    have hD := jd_Dp wL_M.symm hD1
    refine lv_iload hx hb d_law_182 (lv_at hl 0 rfl) ?_
    refine lv_icmp_eq (tgt := 189) hx hb d_law_184 rfl (fun _ => ?_) (fun h => absurd rfl h)
    refine lv_goto (tgt := 1175) hx hb d_law_189 rfl ?_
    exact kk adh pr I J Ih Jh nM JM O H locs ls _ _ hR2 ⟨hP, hD, hS⟩ (lv_sub hl [1, 2, 3, 4, 5] rfl) (by omega) (by omega)
  by_cases hpz : ∃ h, h < 12 ∧ a1 = nI h ∧ pr h = true
  · obtain ⟨h, hh, hp0, hp⟩ := hpz
    obtain ⟨kI, kJ, nM, f1, f2, f3, hR2⟩ := hok.2.1 pr I J Ih Jh IM JM O hR a1 a2 hft h hh hp0 hp
    refine lv_aload_n hx hb d_law_144 rfl (lv_at hl 1 rfl) ?_
    refine lv_aload_n hx hb d_law_145 rfl (lv_at hl 0 rfl) ?_
    refine lv_iload hx hb d_law_146 (lv_at hl 4 rfl) ?_
    refine lv_iconst (v := 1) hx hb d_law_148 (by decide) ?_
    refine lv_iadd hx hb d_law_149 ?_
    refine jd_sld hx hb hX hbl hbA hS hin1 ha1 d_law_150 ?_
    refine lv_aload_n hx hb d_law_151 rfl (lv_at hl 0 rfl) ?_
    refine lv_iload hx hb d_law_152 (lv_at hl 4 rfl) ?_
    refine lv_iconst (v := 2) hx hb d_law_154 (by decide) ?_
    refine lv_iadd hx hb d_law_155 ?_
    refine jd_sld hx hb hX hbl hbA hS hin2 ha2 d_law_156 ?_
    have hPc := jd_Pp (wL_C (O := O) hh hp) hP
    have hDc := jd_Dp (wL_C (O := O) hh hp) hD
    refine jd_fri (w1 := wC ca (adC ad (adh h)) (hsOf pr adh) kI kJ) hPc hDc hS hA rfl (jd_runSW (As := [.ref (ad 15), .int a1, .int a2]) (rest := []) cx (cm_W_heat l D ca (adC ad (adh h)) (hsOf pr adh) (hs_some hh hp0 hp) f1 H.size) (jd_gWL (List.mem_of_getElem? (i := 455) (by decide +kernel)) (by decide +kernel)) rfl rfl rfl ⟨Nat.le_of_ble_eq_true rfl, Nat.le_of_ble_eq_true rfl⟩ (hts _ (TB_in _ tb_420)) (hts _ (TB_in _ tb_421)) (hts _ (TB_in _ tb_42)) ⟨by decide, by decide, rfl⟩ ⟨jd_blind nWc, jd_pre (av := [.ref (adC ad (adh h) 15), .int a1, .int a2]) (jd_Pl hPc) hK (jd_Dl hDc) (fun U h => nWm h hN)⟩ rfl rfl hl.1 rfl (lv_room (Nat.le_of_ble_eq_true rfl)) d_law_157 ⟨(by show cells + 0 ≤ 601024; omega), (by show slots + 0 ≤ 7293034; omega)⟩) (fun H locs hP1 hD1 hS => ?_)
    have hP := jd_Pp (wL_C' hh hp) hP1
    have hD := jd_Dp (wL_C' hh hp) hD1
    refine lv_istore hx hb d_law_160 hl (by decide) (lv' := (5, .int 0) :: lvL b ad am i) rfl (fun ls hl => ?_)
    refine lv_aload_n hx hb d_law_162 rfl (lv_at hl 3 rfl) ?_
    refine lv_aload_n hx hb d_law_163 rfl (lv_at hl 1 rfl) ?_
    refine lv_iload hx hb d_law_164 (lv_at hl 5 rfl) ?_
    refine lv_iconst (v := 1) hx hb d_law_166 (by decide) ?_
    refine lv_iadd hx hb d_law_167 ?_
    refine jd_sld hx hb hX hbl hbA hS hin1 ha1 d_law_168 ?_
    refine lv_aload_n hx hb d_law_169 rfl (lv_at hl 1 rfl) ?_
    refine lv_iload hx hb d_law_170 (lv_at hl 5 rfl) ?_
    refine lv_iconst (v := 2) hx hb d_law_172 (by decide) ?_
    refine lv_iadd hx hb d_law_173 ?_
    refine jd_sld hx hb hX hbl hbA hS hin2 ha2 d_law_174 ?_
    have hPm := jd_Pp wL_M hP
    have hDm := jd_Dp wL_M hD
    refine jd_frv (w1 := wM ca am nM JM) hPm hDm hS hA rfl (va_runV (As := [.int a1, .int a2]) (rest := []) cx (cm_M_heat l D ca am f2 H.size) (cwV 2 hts (jd_gVL tb_676 tb_677 tb_678 tb_47 tb_679) rfl rfl rfl ⟨rfl, by decide, by decide, rfl⟩ ⟨Nat.le_of_ble_eq_true rfl, Nat.le_of_ble_eq_true rfl⟩) ⟨jd_blind nWc, va_recv hK (jd_Pl hPm) (ci := 6) (q0 := 0) rfl rfl, jd_pre (av := [.ref (am 0), .int a1, .int a2]) (jd_Pl hPm) hK (jd_Dl hDm) (fun U h => nWm h hN)⟩ rfl rfl hl.1 rfl (lv_room (Nat.le_of_ble_eq_true rfl)) d_law_175 ⟨(by show cells + 0 ≤ 601024; omega), (by show slots + 0 ≤ 7293034; omega)⟩) (fun H locs hP1 hD1 hS => ?_)
    have hP := jd_Pp wL_M.symm hP1
    have hD := jd_Dp wL_M.symm hD1
    refine lv_aload_n hx hb d_law_178 rfl (lv_at hl 3 rfl) ?_
    have hPm := jd_Pp wL_M hP
    have hDm := jd_Dp wL_M hD
    refine jd_fri (w1 := wM ca am nM JM) hPm hDm hS hA rfl (va_runV (As := []) (rest := []) cx (cm_M_thrown l D ca am f3 H.size) (cwV 0 hts (jd_gVL tb_672 tb_673 tb_674 tb_47 tb_675) rfl rfl rfl ⟨rfl, by decide, by decide, rfl⟩ ⟨Nat.le_of_ble_eq_true rfl, Nat.le_of_ble_eq_true rfl⟩) ⟨jd_blind nWc, va_recv hK (jd_Pl hPm) (ci := 6) (q0 := 0) rfl rfl, jd_pre (av := [.ref (am 0)]) (jd_Pl hPm) hK (jd_Dl hDm) (fun U h => nWm h hN)⟩ rfl rfl hl.1 rfl (lv_room (Nat.le_of_ble_eq_true rfl)) d_law_179 ⟨(by show cells + 0 ≤ 601024; omega), (by show slots + 0 ≤ 7293034; omega)⟩) (fun H locs hP1 hD1 hS => ?_)
    have hP := jd_Pp wL_M.symm hP1
    have hD := jd_Dp wL_M.symm hD1
    refine lv_iload hx hb d_law_182 (lv_at hl 0 rfl) ?_
    refine lv_icmp_eq (tgt := 189) hx hb d_law_184 rfl (fun _ => ?_) (fun h => absurd rfl h)
    refine lv_goto (tgt := 1175) hx hb d_law_189 rfl ?_
    exact kk adh pr kI kJ (upN Ih h kI) (upN Jh h kJ) nM JM O H locs ls _ _ hR2 ⟨hP, hD, hS⟩ (lv_sub hl [1, 2, 3, 4, 5] rfl) (by omega) (by omega)
  · have hp : ∀ h, h < 12 → a1 = nI h → pr h = false := fun h h1 h2 => by cases hq : pr h with | false => rfl | true => exact absurd ⟨h, h1, h2, hq⟩ hpz
    obtain ⟨h, kI, kJ, nM, hh, hp0, f1, f2, f3, hR2⟩ := hok.2.2 pr I J Ih Jh IM JM O hR a1 a2 hft hp
    refine lv_aload_n hx hb d_law_144 rfl (lv_at hl 1 rfl) ?_
    refine lv_aload_n hx hb d_law_145 rfl (lv_at hl 0 rfl) ?_
    refine lv_iload hx hb d_law_146 (lv_at hl 4 rfl) ?_
    refine lv_iconst (v := 1) hx hb d_law_148 (by decide) ?_
    refine lv_iadd hx hb d_law_149 ?_
    refine jd_sld hx hb hX hbl hbA hS hin1 ha1 d_law_150 ?_
    refine lv_aload_n hx hb d_law_151 rfl (lv_at hl 0 rfl) ?_
    refine lv_iload hx hb d_law_152 (lv_at hl 4 rfl) ?_
    refine lv_iconst (v := 2) hx hb d_law_154 (by decide) ?_
    refine lv_iadd hx hb d_law_155 ?_
    refine jd_sld hx hb hX hbl hbA hS hin2 ha2 d_law_156 ?_
    have hPc := hP
    have hDc := hD
    unfold wL at hPc hDc
    refine va_calli (jd_runSW (As := [.ref (ad 15), .int a1, .int a2]) (rest := []) cx (cm_W_heat_n l D ca ad (hsOf pr adh) (hs_none hp) f1 H.size) (jd_gWL (List.mem_of_getElem? (i := 455) (by decide +kernel)) (by decide +kernel)) rfl rfl rfl ⟨Nat.le_of_ble_eq_true rfl, Nat.le_of_ble_eq_true rfl⟩ (hts _ (TB_in _ tb_420)) (hts _ (TB_in _ tb_421)) (hts _ (TB_in _ tb_42)) ⟨by decide, by decide, rfl⟩ ⟨jd_blind nWc, jd_pre (av := [.ref (ad 15), .int a1, .int a2]) (jd_Pl hPc) hK (jd_Dl hDc) (fun U h => nWm h hN)⟩ rfl rfl hl.1 rfl (lv_room (Nat.le_of_ble_eq_true rfl)) d_law_157 ⟨(by show cells + 15 ≤ 601024; omega), (by show slots + 1845 ≤ 7293034; omega)⟩) hS (fun q _ h => jd_free (jd_Dl hDc) hS hA q h) (jd_free (jd_Dl hDc) hS hA) (fun r u t H1 locs1 ht _ hp1 hB _ hk1 hS1 => ?_)
    subst hp1
    subst ht
    obtain ⟨b1, b2, b3, b4⟩ := hB
    obtain ⟨hP1, hD1⟩ := jd_frame hPc hDc hk1 (jd_free (jd_Dl hDc) hS hA) b3 b4
    rw [show a1.toNatClampNeg = h by rw [hp0, nI_clamp (by omega)]] at b2
    have hP := jd_Pp (wL_N' (I0 := I) (J0 := J) hh (hp h hh hp0) b1 b2) hP1
    have hD := jd_Dp (wL_N' (I0 := I) (J0 := J) hh (hp h hh hp0) b1 b2) hD1
    have hS := hS1
    generalize t.heap = H at hP hS ⊢
    generalize locs1 = locs at hS ⊢
    refine lv_istore hx hb d_law_160 hl (by decide) (lv' := (5, .int 0) :: lvL b ad am i) rfl (fun ls hl => ?_)
    refine lv_aload_n hx hb d_law_162 rfl (lv_at hl 3 rfl) ?_
    refine lv_aload_n hx hb d_law_163 rfl (lv_at hl 1 rfl) ?_
    refine lv_iload hx hb d_law_164 (lv_at hl 5 rfl) ?_
    refine lv_iconst (v := 1) hx hb d_law_166 (by decide) ?_
    refine lv_iadd hx hb d_law_167 ?_
    refine jd_sld hx hb hX hbl hbA hS hin1 ha1 d_law_168 ?_
    refine lv_aload_n hx hb d_law_169 rfl (lv_at hl 1 rfl) ?_
    refine lv_iload hx hb d_law_170 (lv_at hl 5 rfl) ?_
    refine lv_iconst (v := 2) hx hb d_law_172 (by decide) ?_
    refine lv_iadd hx hb d_law_173 ?_
    refine jd_sld hx hb hX hbl hbA hS hin2 ha2 d_law_174 ?_
    have hPm := jd_Pp wL_M hP
    have hDm := jd_Dp wL_M hD
    refine jd_frv (w1 := wM ca am nM JM) hPm hDm hS hA rfl (va_runV (As := [.int a1, .int a2]) (rest := []) cx (cm_M_heat l D ca am f2 H.size) (cwV 2 hts (jd_gVL tb_676 tb_677 tb_678 tb_47 tb_679) rfl rfl rfl ⟨rfl, by decide, by decide, rfl⟩ ⟨Nat.le_of_ble_eq_true rfl, Nat.le_of_ble_eq_true rfl⟩) ⟨jd_blind nWc, va_recv hK (jd_Pl hPm) (ci := 6) (q0 := 0) rfl rfl, jd_pre (av := [.ref (am 0), .int a1, .int a2]) (jd_Pl hPm) hK (jd_Dl hDm) (fun U h => nWm h hN)⟩ rfl rfl hl.1 rfl (lv_room (Nat.le_of_ble_eq_true rfl)) d_law_175 ⟨(by show cells + 15 + 0 ≤ 601024; omega), (by show slots + 1845 + 0 ≤ 7293034; omega)⟩) (fun H locs hP1 hD1 hS => ?_)
    have hP := jd_Pp wL_M.symm hP1
    have hD := jd_Dp wL_M.symm hD1
    refine lv_aload_n hx hb d_law_178 rfl (lv_at hl 3 rfl) ?_
    have hPm := jd_Pp wL_M hP
    have hDm := jd_Dp wL_M hD
    refine jd_fri (w1 := wM ca am nM JM) hPm hDm hS hA rfl (va_runV (As := []) (rest := []) cx (cm_M_thrown l D ca am f3 H.size) (cwV 0 hts (jd_gVL tb_672 tb_673 tb_674 tb_47 tb_675) rfl rfl rfl ⟨rfl, by decide, by decide, rfl⟩ ⟨Nat.le_of_ble_eq_true rfl, Nat.le_of_ble_eq_true rfl⟩) ⟨jd_blind nWc, va_recv hK (jd_Pl hPm) (ci := 6) (q0 := 0) rfl rfl, jd_pre (av := [.ref (am 0)]) (jd_Pl hPm) hK (jd_Dl hDm) (fun U h => nWm h hN)⟩ rfl rfl hl.1 rfl (lv_room (Nat.le_of_ble_eq_true rfl)) d_law_179 ⟨(by show cells + 15 + 0 ≤ 601024; omega), (by show slots + 1845 + 0 ≤ 7293034; omega)⟩) (fun H locs hP1 hD1 hS => ?_)
    have hP := jd_Pp wL_M.symm hP1
    have hD := jd_Dp wL_M.symm hD1
    refine lv_iload hx hb d_law_182 (lv_at hl 0 rfl) ?_
    refine lv_icmp_eq (tgt := 189) hx hb d_law_184 rfl (fun _ => ?_) (fun h => absurd rfl h)
    refine lv_goto (tgt := 1175) hx hb d_law_189 rfl ?_
    exact kk (upN adh h u.1) (upN pr h true) kI kJ (upN Ih h kI) (upN Jh h kJ) nM JM O H locs ls _ _ hR2 ⟨hP, hD, hS⟩ (lv_sub hl [1, 2, 3, 4, 5] rfl) (by omega) (by omega)
def Ok_chance (Rel : (Nat → Bool) → IS → JS → (Nat → IS) → (Nat → JS) → IS → JS → (Nat → Int64) → Prop) : Prop := (∀ (pr : Nat → Bool) (I : IS) (J : JS) (Ih : Nat → IS) (Jh : Nat → JS) (IM : IS) (JM : JS) (O : Nat → Int64), Rel pr I J Ih Jh IM JM O → ∀ (p0 : Int64) (p1 : Int64) (p2 : Int32), ft_K_chance p0 p1 p2 = some () → ∃ (r : Int64) (nM : IS), fm_M_chance p0 p1 p2 IM = some (r, nM) ∧ fm_M_thrown nM = some 1 ∧ Rel pr I J Ih Jh nM JM O) ∧ (∀ (pr : Nat → Bool) (I : IS) (J : JS) (Ih : Nat → IS) (Jh : Nat → JS) (IM : IS) (JM : JS) (O : Nat → Int64), Rel pr I J Ih Jh IM JM O → ∀ (p0 : Int64) (p1 : Int64) (p2 : Int32), ft_K_chance p0 p1 p2 ≠ some () → ∃ (kJ : JS) (r : Int64) (nM : IS), fm_W_chance p0 p1 p2 (mO J O) = some (0, kJ) ∧ fm_M_chance p0 p1 p2 IM = some (r, nM) ∧ fm_M_thrown nM = some 0 ∧ kJ 5 (0 : Int32).toNatClampNeg = r ∧ Rel pr I kJ Ih Jh nM JM (kJ 5))
set_option maxHeartbeats 4000000 in
set_option maxRecDepth 100000 in
theorem law_chance {Rel : (Nat → Bool) → IS → JS → (Nat → IS) → (Nat → JS) → IS → JS → (Nat → Int64) → Prop} (hok : Ok_chance Rel) {p : Program} {l : Launch} {e : Env} {s : State} {m : MethodId} {below : List Frame} {meth : Method} {c : Code} {b L : Nat} {xs : Nat → Int32} {D : va_G} {ca : Nat → ClassId} {Q : State → Prop} (C0 : lwC p l s m meth c b L xs D ca) {ad : Nat → Nat} {adh : Nat → Nat → Nat} {am : Nat → Nat} {pr : Nat → Bool} {I : IS} {J : JS} {Ih : Nat → IS} {Jh : Nat → JS} {IM : IS} {JM : JS} {O : Nat → Int64} {H : Heap} {locs : List Loc} {ls : Array Slot} {cells slots : Nat} {i : Int32} (hR : Rel pr I J Ih Jh IM JM O) (hW : lwS D s ca ad adh am pr I J Ih Jh IM JM O H locs) (hl : lv_has ls 8 (lvL b ad am i)) (hin : vp_in (i + 1) L ∧ vp_in (i + 2) L ∧ vp_in (i + 3) L ∧ vp_in (i + 4) L ∧ vp_in (i + 5) L) (hc : cells + 16 ≤ 601024) (hs : slots + 1900 ≤ 7293034) (kk : lwK Rel p l e s m below meth c b D ca ad am i cells slots Q) : W p l e room_1 s m #[Value.ref b] below meth c H locs cells slots Q (F0 m 643 ls []) := by
  obtain ⟨cx, hK, hN, hXF, hfl, hX, hbl⟩ := C0
  have hx := cx.1
  have hb := cx.2.1
  have hown := cx.2.2.2.1
  have hts := cx.2.2.2.2
  obtain ⟨hP, hD, hS⟩ := hW
  have hA : ∀ q, s.heap.size ≤ q → (fun q => s.heap.size ≤ q) q := fun q h => h
  have hbA : ¬ (fun q => s.heap.size ≤ q) b := fun h => absurd h (Nat.not_le.mpr hbl)
  obtain ⟨hin1, hin2, hin3, hin4, hin5⟩ := hin
  generalize ha1 : xs (i + 1).toNatClampNeg = a1
  generalize ha2 : xs (i + 2).toNatClampNeg = a2
  generalize ha3 : xs (i + 3).toNatClampNeg = a3
  generalize ha4 : xs (i + 4).toNatClampNeg = a4
  generalize ha5 : xs (i + 5).toNatClampNeg = a5
  by_cases hfl0 : a5 = 0
  · by_cases hft : ft_K_chance (a1.toInt64 <<< ((32 : Int32).toInt64 &&& 63) ||| a2.toInt64 &&& 4294967295) (a3.toInt64 <<< ((32 : Int32).toInt64 &&& 63) ||| a4.toInt64 &&& 4294967295) 0 = some ()
    · obtain ⟨r, nM, f2, f3, hR2⟩ := hok.1 pr I J Ih Jh IM JM O hR (a1.toInt64 <<< ((32 : Int32).toInt64 &&& 63) ||| a2.toInt64 &&& 4294967295) (a3.toInt64 <<< ((32 : Int32).toInt64 &&& 63) ||| a4.toInt64 &&& 4294967295) 0 hft
      refine lv_aload_n hx hb d_law_643 rfl (lv_at hl 1 rfl) ?_
      refine lv_aload_n hx hb d_law_644 rfl (lv_at hl 0 rfl) ?_
      refine lv_iload hx hb d_law_645 (lv_at hl 4 rfl) ?_
      refine lv_iconst (v := 1) hx hb d_law_647 (by decide) ?_
      refine lv_iadd hx hb d_law_648 ?_
      refine jd_sld hx hb hX hbl hbA hS hin1 ha1 d_law_649 ?_
      refine lv_i2l hx hb d_law_650 rfl ?_
      refine lv_bipush (v := 32) hx hb d_law_651 (by decide) ?_
      refine lv_lshl hx hb d_law_653 rfl ?_
      refine lv_aload_n hx hb d_law_654 rfl (lv_at hl 0 rfl) ?_
      refine lv_iload hx hb d_law_655 (lv_at hl 4 rfl) ?_
      refine lv_iconst (v := 2) hx hb d_law_657 (by decide) ?_
      refine lv_iadd hx hb d_law_658 ?_
      refine jd_sld hx hb hX hbl hbA hS hin2 ha2 d_law_659 ?_
      refine lv_i2l hx hb d_law_660 rfl ?_
      refine lv_ldc2 (v := 4294967295) hx hb hown (hts _ (TB_in _ tb_823)) d_law_661 ?_
      refine lv_land hx hb d_law_664 ?_
      refine lv_lor hx hb d_law_665 ?_
      refine lv_aload_n hx hb d_law_666 rfl (lv_at hl 0 rfl) ?_
      refine lv_iload hx hb d_law_667 (lv_at hl 4 rfl) ?_
      refine lv_iconst (v := 3) hx hb d_law_669 (by decide) ?_
      refine lv_iadd hx hb d_law_670 ?_
      refine jd_sld hx hb hX hbl hbA hS hin3 ha3 d_law_671 ?_
      refine lv_i2l hx hb d_law_672 rfl ?_
      refine lv_bipush (v := 32) hx hb d_law_673 (by decide) ?_
      refine lv_lshl hx hb d_law_675 rfl ?_
      refine lv_aload_n hx hb d_law_676 rfl (lv_at hl 0 rfl) ?_
      refine lv_iload hx hb d_law_677 (lv_at hl 4 rfl) ?_
      refine lv_iconst (v := 4) hx hb d_law_679 (by decide) ?_
      refine lv_iadd hx hb d_law_680 ?_
      refine jd_sld hx hb hX hbl hbA hS hin4 ha4 d_law_681 ?_
      refine lv_i2l hx hb d_law_682 rfl ?_
      refine lv_ldc2 (v := 4294967295) hx hb hown (hts _ (TB_in _ tb_823)) d_law_683 ?_
      refine lv_land hx hb d_law_686 ?_
      refine lv_lor hx hb d_law_687 ?_
      refine lv_aload_n hx hb d_law_688 rfl (lv_at hl 0 rfl) ?_
      refine lv_iload hx hb d_law_689 (lv_at hl 4 rfl) ?_
      refine lv_iconst (v := 5) hx hb d_law_691 (by decide) ?_
      refine lv_iadd hx hb d_law_692 ?_
      refine jd_sld hx hb hX hbl hbA hS hin5 ha5 d_law_693 ?_
      refine lv_if_eq (tgt := 701) hx hb d_law_694 rfl (fun _ => ?_) (fun h => absurd hfl0 h)
      refine lv_iconst (v := 0) hx hb d_law_701 (by decide) ?_
      refine lv_aload_n hx hb d_law_702 rfl (lv_at hl 3 rfl) ?_
      refine va_calli (jd_runSW (As := [.ref (ad 15), .long (a1.toInt64 <<< ((32 : Int32).toInt64 &&& 63) ||| a2.toInt64 &&& 4294967295), .long (a3.toInt64 <<< ((32 : Int32).toInt64 &&& 63) ||| a4.toInt64 &&& 4294967295), .int 0, .ref (ad 26)]) (rest := []) cx (ct_W_chance l hfl D ca (w := wL ca ad adh am pr I J Ih Jh IM JM O) (q0 := 0) rfl (ad 26) hft H.size) (jd_gWL (List.mem_of_getElem? (i := 639) (by decide +kernel)) (by decide +kernel)) rfl rfl rfl ⟨Nat.le_of_ble_eq_true rfl, Nat.le_of_ble_eq_true rfl⟩ (hts _ (TB_in _ tb_581)) (hts _ (TB_in _ tb_582)) (hts _ (TB_in _ tb_42)) ⟨by decide, by decide, rfl⟩ ⟨fun a U g mk q => ⟨q.1, (jd_blind nWc (av := [.ref (ad 15), .long (a1.toInt64 <<< ((32 : Int32).toInt64 &&& 63) ||| a2.toInt64 &&& 4294967295), .long (a3.toInt64 <<< ((32 : Int32).toInt64 &&& 63) ||| a4.toInt64 &&& 4294967295), .int 0, .ref (ad 26)]) a U g mk ⟨q.1, q.2.1⟩).2, q.2.2.call g mk a⟩, fun U hU hW => ⟨rfl, (jd_pre (av := [.ref (ad 15), .long (a1.toInt64 <<< ((32 : Int32).toInt64 &&& 63) ||| a2.toInt64 &&& 4294967295), .long (a3.toInt64 <<< ((32 : Int32).toInt64 &&& 63) ||| a4.toInt64 &&& 4294967295), .int 0, .ref (ad 26)]) hP hK hD (fun U h => nWm h hN) U hU hW).2, hXF.move hW (fun q hq => by rw [hU]; exact hS.2.1 q hq (Nat.not_le.mpr hq))⟩⟩ rfl rfl hl.1 rfl (lv_room (Nat.le_of_ble_eq_true rfl)) d_law_703 ⟨(by show cells + 1 ≤ 601024; omega), (by show slots + 6 ≤ 7293034; omega)⟩) hS (fun q _ h => jd_free hD hS hA q h) (jd_free hD hS hA) (fun r9 u t H1 locs1 ht _ hp hB _ _ hS1 => ?_)
      subst hp
      subst ht
      have hP := hB
      have hS := hS1
      generalize t.heap = H at hP hS ⊢
      generalize locs1 = locs at hS ⊢
      refine lv_istore hx hb d_law_706 hl (by decide) (lv' := (5, .int 1) :: lvL b ad am i) rfl (fun ls hl => ?_)
      refine lv_aload_n hx hb d_law_708 rfl (lv_at hl 3 rfl) ?_
      refine lv_aload_n hx hb d_law_709 rfl (lv_at hl 1 rfl) ?_
      refine lv_iload hx hb d_law_710 (lv_at hl 5 rfl) ?_
      refine lv_iconst (v := 1) hx hb d_law_712 (by decide) ?_
      refine lv_iadd hx hb d_law_713 ?_
      refine jd_sld hx hb hX hbl hbA hS hin1 ha1 d_law_714 ?_
      refine lv_i2l hx hb d_law_715 rfl ?_
      refine lv_bipush (v := 32) hx hb d_law_716 (by decide) ?_
      refine lv_lshl hx hb d_law_718 rfl ?_
      refine lv_aload_n hx hb d_law_719 rfl (lv_at hl 1 rfl) ?_
      refine lv_iload hx hb d_law_720 (lv_at hl 5 rfl) ?_
      refine lv_iconst (v := 2) hx hb d_law_722 (by decide) ?_
      refine lv_iadd hx hb d_law_723 ?_
      refine jd_sld hx hb hX hbl hbA hS hin2 ha2 d_law_724 ?_
      refine lv_i2l hx hb d_law_725 rfl ?_
      refine lv_ldc2 (v := 4294967295) hx hb hown (hts _ (TB_in _ tb_823)) d_law_726 ?_
      refine lv_land hx hb d_law_729 ?_
      refine lv_lor hx hb d_law_730 ?_
      refine lv_aload_n hx hb d_law_731 rfl (lv_at hl 1 rfl) ?_
      refine lv_iload hx hb d_law_732 (lv_at hl 5 rfl) ?_
      refine lv_iconst (v := 3) hx hb d_law_734 (by decide) ?_
      refine lv_iadd hx hb d_law_735 ?_
      refine jd_sld hx hb hX hbl hbA hS hin3 ha3 d_law_736 ?_
      refine lv_i2l hx hb d_law_737 rfl ?_
      refine lv_bipush (v := 32) hx hb d_law_738 (by decide) ?_
      refine lv_lshl hx hb d_law_740 rfl ?_
      refine lv_aload_n hx hb d_law_741 rfl (lv_at hl 1 rfl) ?_
      refine lv_iload hx hb d_law_742 (lv_at hl 5 rfl) ?_
      refine lv_iconst (v := 4) hx hb d_law_744 (by decide) ?_
      refine lv_iadd hx hb d_law_745 ?_
      refine jd_sld hx hb hX hbl hbA hS hin4 ha4 d_law_746 ?_
      refine lv_i2l hx hb d_law_747 rfl ?_
      refine lv_ldc2 (v := 4294967295) hx hb hown (hts _ (TB_in _ tb_823)) d_law_748 ?_
      refine lv_land hx hb d_law_751 ?_
      refine lv_lor hx hb d_law_752 ?_
      refine lv_aload_n hx hb d_law_753 rfl (lv_at hl 1 rfl) ?_
      refine lv_iload hx hb d_law_754 (lv_at hl 5 rfl) ?_
      refine lv_iconst (v := 5) hx hb d_law_756 (by decide) ?_
      refine lv_iadd hx hb d_law_757 ?_
      refine jd_sld hx hb hX hbl hbA hS hin5 ha5 d_law_758 ?_
      refine lv_if_eq (tgt := 766) hx hb d_law_759 rfl (fun _ => ?_) (fun h => absurd hfl0 h)
      refine lv_iconst (v := 0) hx hb d_law_766 (by decide) ?_
      have hPm := jd_Pp wL_M hP
      have hDm := jd_Dp wL_M hD
      refine jd_frl (w1 := wM ca am nM JM) hPm hDm hS hA rfl (va_runV (As := [.long (a1.toInt64 <<< ((32 : Int32).toInt64 &&& 63) ||| a2.toInt64 &&& 4294967295), .long (a3.toInt64 <<< ((32 : Int32).toInt64 &&& 63) ||| a4.toInt64 &&& 4294967295), .int 0]) (rest := []) cx (cm_M_chance l D ca am f2 H.size) (cwV 3 hts (jd_gVL tb_755 tb_756 tb_757 tb_47 tb_758) rfl rfl rfl ⟨rfl, by decide, by decide, rfl⟩ ⟨Nat.le_of_ble_eq_true rfl, Nat.le_of_ble_eq_true rfl⟩) ⟨jd_blind nWc, va_recv hK (jd_Pl hPm) (ci := 6) (q0 := 0) rfl rfl, jd_pre (av := [.ref (am 0), .long (a1.toInt64 <<< ((32 : Int32).toInt64 &&& 63) ||| a2.toInt64 &&& 4294967295), .long (a3.toInt64 <<< ((32 : Int32).toInt64 &&& 63) ||| a4.toInt64 &&& 4294967295), .int 0]) (jd_Pl hPm) hK (jd_Dl hDm) (fun U h => nWm h hN)⟩ rfl rfl hl.1 rfl (lv_room (Nat.le_of_ble_eq_true rfl)) d_law_767 ⟨(by show cells + 1 + 0 ≤ 601024; omega), (by show slots + 6 + 0 ≤ 7293034; omega)⟩) (fun H locs hP1 hD1 hS => ?_)
      have hP := jd_Pp wL_M.symm hP1
      have hD := jd_Dp wL_M.symm hD1
      refine lv_lstore hx hb d_law_770 hl (by decide) (lv' := (6, .long r) :: (5, .int 1) :: lvL b ad am i) rfl (fun ls hl => ?_)
      refine lv_aload_n hx hb d_law_772 rfl (lv_at hl 4 rfl) ?_
      have hPm := jd_Pp wL_M hP
      have hDm := jd_Dp wL_M hD
      refine jd_fri (w1 := wM ca am nM JM) hPm hDm hS hA rfl (va_runV (As := []) (rest := []) cx (cm_M_thrown l D ca am f3 H.size) (cwV 0 hts (jd_gVL tb_672 tb_673 tb_674 tb_47 tb_675) rfl rfl rfl ⟨rfl, by decide, by decide, rfl⟩ ⟨Nat.le_of_ble_eq_true rfl, Nat.le_of_ble_eq_true rfl⟩) ⟨jd_blind nWc, va_recv hK (jd_Pl hPm) (ci := 6) (q0 := 0) rfl rfl, jd_pre (av := [.ref (am 0)]) (jd_Pl hPm) hK (jd_Dl hDm) (fun U h => nWm h hN)⟩ rfl rfl hl.1 rfl (lv_room (Nat.le_of_ble_eq_true rfl)) d_law_773 ⟨(by show cells + 1 + 0 ≤ 601024; omega), (by show slots + 6 + 0 ≤ 7293034; omega)⟩) (fun H locs hP1 hD1 hS => ?_)
      have hP := jd_Pp wL_M.symm hP1
      have hD := jd_Dp wL_M.symm hD1
      refine lv_iload hx hb d_law_776 (lv_at hl 1 rfl) ?_
      refine lv_icmp_eq (tgt := 783) hx hb d_law_778 rfl (fun _ => ?_) (fun h => absurd rfl h)
      refine lv_iload hx hb d_law_783 (lv_at hl 1 rfl) ?_
      refine lv_if_ne (tgt := 799) hx hb d_law_785 rfl (fun _ => ?_) (fun h => absurd h (by decide))
      refine lv_goto (tgt := 1175) hx hb d_law_799 rfl ?_
      exact kk adh pr I J Ih Jh nM JM O H locs ls _ _ hR2 ⟨hP, hD, hS⟩ (lv_sub hl [2, 3, 4, 5, 6] rfl) (by omega) (by omega)
    · obtain ⟨kJ, r, nM, f1, f2, f3, he, hR2⟩ := hok.2 pr I J Ih Jh IM JM O hR (a1.toInt64 <<< ((32 : Int32).toInt64 &&& 63) ||| a2.toInt64 &&& 4294967295) (a3.toInt64 <<< ((32 : Int32).toInt64 &&& 63) ||| a4.toInt64 &&& 4294967295) 0 hft
      refine lv_aload_n hx hb d_law_643 rfl (lv_at hl 1 rfl) ?_
      refine lv_aload_n hx hb d_law_644 rfl (lv_at hl 0 rfl) ?_
      refine lv_iload hx hb d_law_645 (lv_at hl 4 rfl) ?_
      refine lv_iconst (v := 1) hx hb d_law_647 (by decide) ?_
      refine lv_iadd hx hb d_law_648 ?_
      refine jd_sld hx hb hX hbl hbA hS hin1 ha1 d_law_649 ?_
      refine lv_i2l hx hb d_law_650 rfl ?_
      refine lv_bipush (v := 32) hx hb d_law_651 (by decide) ?_
      refine lv_lshl hx hb d_law_653 rfl ?_
      refine lv_aload_n hx hb d_law_654 rfl (lv_at hl 0 rfl) ?_
      refine lv_iload hx hb d_law_655 (lv_at hl 4 rfl) ?_
      refine lv_iconst (v := 2) hx hb d_law_657 (by decide) ?_
      refine lv_iadd hx hb d_law_658 ?_
      refine jd_sld hx hb hX hbl hbA hS hin2 ha2 d_law_659 ?_
      refine lv_i2l hx hb d_law_660 rfl ?_
      refine lv_ldc2 (v := 4294967295) hx hb hown (hts _ (TB_in _ tb_823)) d_law_661 ?_
      refine lv_land hx hb d_law_664 ?_
      refine lv_lor hx hb d_law_665 ?_
      refine lv_aload_n hx hb d_law_666 rfl (lv_at hl 0 rfl) ?_
      refine lv_iload hx hb d_law_667 (lv_at hl 4 rfl) ?_
      refine lv_iconst (v := 3) hx hb d_law_669 (by decide) ?_
      refine lv_iadd hx hb d_law_670 ?_
      refine jd_sld hx hb hX hbl hbA hS hin3 ha3 d_law_671 ?_
      refine lv_i2l hx hb d_law_672 rfl ?_
      refine lv_bipush (v := 32) hx hb d_law_673 (by decide) ?_
      refine lv_lshl hx hb d_law_675 rfl ?_
      refine lv_aload_n hx hb d_law_676 rfl (lv_at hl 0 rfl) ?_
      refine lv_iload hx hb d_law_677 (lv_at hl 4 rfl) ?_
      refine lv_iconst (v := 4) hx hb d_law_679 (by decide) ?_
      refine lv_iadd hx hb d_law_680 ?_
      refine jd_sld hx hb hX hbl hbA hS hin4 ha4 d_law_681 ?_
      refine lv_i2l hx hb d_law_682 rfl ?_
      refine lv_ldc2 (v := 4294967295) hx hb hown (hts _ (TB_in _ tb_823)) d_law_683 ?_
      refine lv_land hx hb d_law_686 ?_
      refine lv_lor hx hb d_law_687 ?_
      refine lv_aload_n hx hb d_law_688 rfl (lv_at hl 0 rfl) ?_
      refine lv_iload hx hb d_law_689 (lv_at hl 4 rfl) ?_
      refine lv_iconst (v := 5) hx hb d_law_691 (by decide) ?_
      refine lv_iadd hx hb d_law_692 ?_
      refine jd_sld hx hb hX hbl hbA hS hin5 ha5 d_law_693 ?_
      refine lv_if_eq (tgt := 701) hx hb d_law_694 rfl (fun _ => ?_) (fun h => absurd hfl0 h)
      refine lv_iconst (v := 0) hx hb d_law_701 (by decide) ?_
      refine lv_aload_n hx hb d_law_702 rfl (lv_at hl 3 rfl) ?_
      have hPc : va_P D cls_all (wDo ca ad (hsOf pr adh) I (mO J O) ++ (wM ca am IM JM ++ wHs ca adh pr Ih Jh (List.range 12))) H := by rw [wDo_eq, List.append_assoc]; exact hP
      have hDc : va_D (fun q => s.heap.size ≤ q) (wDo ca ad (hsOf pr adh) I (mO J O) ++ (wM ca am IM JM ++ wHs ca adh pr Ih Jh (List.range 12))) := by rw [wDo_eq, List.append_assoc]; exact hD
      refine jd_fri (w1 := wDo ca ad (hsOf pr adh) I kJ) hPc hDc hS hA rfl (jd_runSW (As := [.ref (ad 15), .long (a1.toInt64 <<< ((32 : Int32).toInt64 &&& 63) ||| a2.toInt64 &&& 4294967295), .long (a3.toInt64 <<< ((32 : Int32).toInt64 &&& 63) ||| a4.toInt64 &&& 4294967295), .int 0, .ref (ad 26)]) (rest := []) cx (cm_W_chance l D ca ad (hsOf pr adh) f1 H.size) (jd_gWL (List.mem_of_getElem? (i := 639) (by decide +kernel)) (by decide +kernel)) rfl rfl rfl ⟨Nat.le_of_ble_eq_true rfl, Nat.le_of_ble_eq_true rfl⟩ (hts _ (TB_in _ tb_581)) (hts _ (TB_in _ tb_582)) (hts _ (TB_in _ tb_42)) ⟨by decide, by decide, rfl⟩ ⟨jd_blind nWc, jd_pre (av := [.ref (ad 15), .long (a1.toInt64 <<< ((32 : Int32).toInt64 &&& 63) ||| a2.toInt64 &&& 4294967295), .long (a3.toInt64 <<< ((32 : Int32).toInt64 &&& 63) ||| a4.toInt64 &&& 4294967295), .int 0, .ref (ad 26)]) (jd_Pl hPc) hK (jd_Dl hDc) (fun U h => nWm h hN)⟩ rfl rfl hl.1 rfl (lv_room (Nat.le_of_ble_eq_true rfl)) d_law_703 ⟨(by show cells + 0 ≤ 601024; omega), (by show slots + 0 ≤ 7293034; omega)⟩) (fun H locs hP1 hD1 hS => ?_)
      have hP : va_P D cls_all (wL ca ad adh am pr I kJ Ih Jh IM JM (kJ 5)) H := by rw [wDo_eq', List.append_assoc] at hP1; exact hP1
      have hD : va_D (fun q => s.heap.size ≤ q) (wL ca ad adh am pr I kJ Ih Jh IM JM (kJ 5)) := by rw [wDo_eq', List.append_assoc] at hD1; exact hD1
      refine lv_istore hx hb d_law_706 hl (by decide) (lv' := (5, .int 0) :: lvL b ad am i) rfl (fun ls hl => ?_)
      refine lv_aload_n hx hb d_law_708 rfl (lv_at hl 3 rfl) ?_
      refine lv_aload_n hx hb d_law_709 rfl (lv_at hl 1 rfl) ?_
      refine lv_iload hx hb d_law_710 (lv_at hl 5 rfl) ?_
      refine lv_iconst (v := 1) hx hb d_law_712 (by decide) ?_
      refine lv_iadd hx hb d_law_713 ?_
      refine jd_sld hx hb hX hbl hbA hS hin1 ha1 d_law_714 ?_
      refine lv_i2l hx hb d_law_715 rfl ?_
      refine lv_bipush (v := 32) hx hb d_law_716 (by decide) ?_
      refine lv_lshl hx hb d_law_718 rfl ?_
      refine lv_aload_n hx hb d_law_719 rfl (lv_at hl 1 rfl) ?_
      refine lv_iload hx hb d_law_720 (lv_at hl 5 rfl) ?_
      refine lv_iconst (v := 2) hx hb d_law_722 (by decide) ?_
      refine lv_iadd hx hb d_law_723 ?_
      refine jd_sld hx hb hX hbl hbA hS hin2 ha2 d_law_724 ?_
      refine lv_i2l hx hb d_law_725 rfl ?_
      refine lv_ldc2 (v := 4294967295) hx hb hown (hts _ (TB_in _ tb_823)) d_law_726 ?_
      refine lv_land hx hb d_law_729 ?_
      refine lv_lor hx hb d_law_730 ?_
      refine lv_aload_n hx hb d_law_731 rfl (lv_at hl 1 rfl) ?_
      refine lv_iload hx hb d_law_732 (lv_at hl 5 rfl) ?_
      refine lv_iconst (v := 3) hx hb d_law_734 (by decide) ?_
      refine lv_iadd hx hb d_law_735 ?_
      refine jd_sld hx hb hX hbl hbA hS hin3 ha3 d_law_736 ?_
      refine lv_i2l hx hb d_law_737 rfl ?_
      refine lv_bipush (v := 32) hx hb d_law_738 (by decide) ?_
      refine lv_lshl hx hb d_law_740 rfl ?_
      refine lv_aload_n hx hb d_law_741 rfl (lv_at hl 1 rfl) ?_
      refine lv_iload hx hb d_law_742 (lv_at hl 5 rfl) ?_
      refine lv_iconst (v := 4) hx hb d_law_744 (by decide) ?_
      refine lv_iadd hx hb d_law_745 ?_
      refine jd_sld hx hb hX hbl hbA hS hin4 ha4 d_law_746 ?_
      refine lv_i2l hx hb d_law_747 rfl ?_
      refine lv_ldc2 (v := 4294967295) hx hb hown (hts _ (TB_in _ tb_823)) d_law_748 ?_
      refine lv_land hx hb d_law_751 ?_
      refine lv_lor hx hb d_law_752 ?_
      refine lv_aload_n hx hb d_law_753 rfl (lv_at hl 1 rfl) ?_
      refine lv_iload hx hb d_law_754 (lv_at hl 5 rfl) ?_
      refine lv_iconst (v := 5) hx hb d_law_756 (by decide) ?_
      refine lv_iadd hx hb d_law_757 ?_
      refine jd_sld hx hb hX hbl hbA hS hin5 ha5 d_law_758 ?_
      refine lv_if_eq (tgt := 766) hx hb d_law_759 rfl (fun _ => ?_) (fun h => absurd hfl0 h)
      refine lv_iconst (v := 0) hx hb d_law_766 (by decide) ?_
      have hPm := jd_Pp wL_M hP
      have hDm := jd_Dp wL_M hD
      refine jd_frl (w1 := wM ca am nM JM) hPm hDm hS hA rfl (va_runV (As := [.long (a1.toInt64 <<< ((32 : Int32).toInt64 &&& 63) ||| a2.toInt64 &&& 4294967295), .long (a3.toInt64 <<< ((32 : Int32).toInt64 &&& 63) ||| a4.toInt64 &&& 4294967295), .int 0]) (rest := []) cx (cm_M_chance l D ca am f2 H.size) (cwV 3 hts (jd_gVL tb_755 tb_756 tb_757 tb_47 tb_758) rfl rfl rfl ⟨rfl, by decide, by decide, rfl⟩ ⟨Nat.le_of_ble_eq_true rfl, Nat.le_of_ble_eq_true rfl⟩) ⟨jd_blind nWc, va_recv hK (jd_Pl hPm) (ci := 6) (q0 := 0) rfl rfl, jd_pre (av := [.ref (am 0), .long (a1.toInt64 <<< ((32 : Int32).toInt64 &&& 63) ||| a2.toInt64 &&& 4294967295), .long (a3.toInt64 <<< ((32 : Int32).toInt64 &&& 63) ||| a4.toInt64 &&& 4294967295), .int 0]) (jd_Pl hPm) hK (jd_Dl hDm) (fun U h => nWm h hN)⟩ rfl rfl hl.1 rfl (lv_room (Nat.le_of_ble_eq_true rfl)) d_law_767 ⟨(by show cells + 0 ≤ 601024; omega), (by show slots + 0 ≤ 7293034; omega)⟩) (fun H locs hP1 hD1 hS => ?_)
      have hP := jd_Pp wL_M.symm hP1
      have hD := jd_Dp wL_M.symm hD1
      refine lv_lstore hx hb d_law_770 hl (by decide) (lv' := (6, .long r) :: (5, .int 0) :: lvL b ad am i) rfl (fun ls hl => ?_)
      refine lv_aload_n hx hb d_law_772 rfl (lv_at hl 4 rfl) ?_
      have hPm := jd_Pp wL_M hP
      have hDm := jd_Dp wL_M hD
      refine jd_fri (w1 := wM ca am nM JM) hPm hDm hS hA rfl (va_runV (As := []) (rest := []) cx (cm_M_thrown l D ca am f3 H.size) (cwV 0 hts (jd_gVL tb_672 tb_673 tb_674 tb_47 tb_675) rfl rfl rfl ⟨rfl, by decide, by decide, rfl⟩ ⟨Nat.le_of_ble_eq_true rfl, Nat.le_of_ble_eq_true rfl⟩) ⟨jd_blind nWc, va_recv hK (jd_Pl hPm) (ci := 6) (q0 := 0) rfl rfl, jd_pre (av := [.ref (am 0)]) (jd_Pl hPm) hK (jd_Dl hDm) (fun U h => nWm h hN)⟩ rfl rfl hl.1 rfl (lv_room (Nat.le_of_ble_eq_true rfl)) d_law_773 ⟨(by show cells + 0 ≤ 601024; omega), (by show slots + 0 ≤ 7293034; omega)⟩) (fun H locs hP1 hD1 hS => ?_)
      have hP := jd_Pp wL_M.symm hP1
      have hD := jd_Dp wL_M.symm hD1
      refine lv_iload hx hb d_law_776 (lv_at hl 1 rfl) ?_
      refine lv_icmp_eq (tgt := 783) hx hb d_law_778 rfl (fun _ => ?_) (fun h => absurd rfl h)
      refine lv_iload hx hb d_law_783 (lv_at hl 1 rfl) ?_
      refine lv_if_ne (tgt := 799) hx hb d_law_785 rfl (fun h => absurd rfl h) (fun _ => ?_)
      refine lv_aload_n hx hb d_law_788 rfl (lv_at hl 5 rfl) ?_
      refine lv_iconst (v := 0) hx hb d_law_789 (by decide) ?_
      refine va_lald hx hb hK hP 11 3 rfl rfl (inB_in (by decide)) d_law_790 ?_
      rw [he]
      refine lv_lload hx hb d_law_791 (lv_at hl 0 rfl) ?_
      refine W.lcmp hx hb d_law_793 ?_
      refine lv_if_eq (tgt := 799) hx hb d_law_794 rfl (fun _ => ?_) (fun h => absurd (lg_cmp_self _) h)
      refine lv_goto (tgt := 1175) hx hb d_law_799 rfl ?_
      exact kk adh pr I kJ Ih Jh nM JM (kJ 5) H locs ls _ _ hR2 ⟨hP, hD, hS⟩ (lv_sub hl [2, 3, 4, 5, 6] rfl) (by omega) (by omega)
  · by_cases hft : ft_K_chance (a1.toInt64 <<< ((32 : Int32).toInt64 &&& 63) ||| a2.toInt64 &&& 4294967295) (a3.toInt64 <<< ((32 : Int32).toInt64 &&& 63) ||| a4.toInt64 &&& 4294967295) 1 = some ()
    · obtain ⟨r, nM, f2, f3, hR2⟩ := hok.1 pr I J Ih Jh IM JM O hR (a1.toInt64 <<< ((32 : Int32).toInt64 &&& 63) ||| a2.toInt64 &&& 4294967295) (a3.toInt64 <<< ((32 : Int32).toInt64 &&& 63) ||| a4.toInt64 &&& 4294967295) 1 hft
      refine lv_aload_n hx hb d_law_643 rfl (lv_at hl 1 rfl) ?_
      refine lv_aload_n hx hb d_law_644 rfl (lv_at hl 0 rfl) ?_
      refine lv_iload hx hb d_law_645 (lv_at hl 4 rfl) ?_
      refine lv_iconst (v := 1) hx hb d_law_647 (by decide) ?_
      refine lv_iadd hx hb d_law_648 ?_
      refine jd_sld hx hb hX hbl hbA hS hin1 ha1 d_law_649 ?_
      refine lv_i2l hx hb d_law_650 rfl ?_
      refine lv_bipush (v := 32) hx hb d_law_651 (by decide) ?_
      refine lv_lshl hx hb d_law_653 rfl ?_
      refine lv_aload_n hx hb d_law_654 rfl (lv_at hl 0 rfl) ?_
      refine lv_iload hx hb d_law_655 (lv_at hl 4 rfl) ?_
      refine lv_iconst (v := 2) hx hb d_law_657 (by decide) ?_
      refine lv_iadd hx hb d_law_658 ?_
      refine jd_sld hx hb hX hbl hbA hS hin2 ha2 d_law_659 ?_
      refine lv_i2l hx hb d_law_660 rfl ?_
      refine lv_ldc2 (v := 4294967295) hx hb hown (hts _ (TB_in _ tb_823)) d_law_661 ?_
      refine lv_land hx hb d_law_664 ?_
      refine lv_lor hx hb d_law_665 ?_
      refine lv_aload_n hx hb d_law_666 rfl (lv_at hl 0 rfl) ?_
      refine lv_iload hx hb d_law_667 (lv_at hl 4 rfl) ?_
      refine lv_iconst (v := 3) hx hb d_law_669 (by decide) ?_
      refine lv_iadd hx hb d_law_670 ?_
      refine jd_sld hx hb hX hbl hbA hS hin3 ha3 d_law_671 ?_
      refine lv_i2l hx hb d_law_672 rfl ?_
      refine lv_bipush (v := 32) hx hb d_law_673 (by decide) ?_
      refine lv_lshl hx hb d_law_675 rfl ?_
      refine lv_aload_n hx hb d_law_676 rfl (lv_at hl 0 rfl) ?_
      refine lv_iload hx hb d_law_677 (lv_at hl 4 rfl) ?_
      refine lv_iconst (v := 4) hx hb d_law_679 (by decide) ?_
      refine lv_iadd hx hb d_law_680 ?_
      refine jd_sld hx hb hX hbl hbA hS hin4 ha4 d_law_681 ?_
      refine lv_i2l hx hb d_law_682 rfl ?_
      refine lv_ldc2 (v := 4294967295) hx hb hown (hts _ (TB_in _ tb_823)) d_law_683 ?_
      refine lv_land hx hb d_law_686 ?_
      refine lv_lor hx hb d_law_687 ?_
      refine lv_aload_n hx hb d_law_688 rfl (lv_at hl 0 rfl) ?_
      refine lv_iload hx hb d_law_689 (lv_at hl 4 rfl) ?_
      refine lv_iconst (v := 5) hx hb d_law_691 (by decide) ?_
      refine lv_iadd hx hb d_law_692 ?_
      refine jd_sld hx hb hX hbl hbA hS hin5 ha5 d_law_693 ?_
      refine lv_if_eq (tgt := 701) hx hb d_law_694 rfl (fun h => absurd h hfl0) (fun _ => ?_)
      refine lv_iconst (v := 1) hx hb d_law_697 (by decide) ?_
      refine lv_goto (tgt := 702) hx hb d_law_698 rfl ?_
      refine lv_aload_n hx hb d_law_702 rfl (lv_at hl 3 rfl) ?_
      refine va_calli (jd_runSW (As := [.ref (ad 15), .long (a1.toInt64 <<< ((32 : Int32).toInt64 &&& 63) ||| a2.toInt64 &&& 4294967295), .long (a3.toInt64 <<< ((32 : Int32).toInt64 &&& 63) ||| a4.toInt64 &&& 4294967295), .int 1, .ref (ad 26)]) (rest := []) cx (ct_W_chance l hfl D ca (w := wL ca ad adh am pr I J Ih Jh IM JM O) (q0 := 0) rfl (ad 26) hft H.size) (jd_gWL (List.mem_of_getElem? (i := 639) (by decide +kernel)) (by decide +kernel)) rfl rfl rfl ⟨Nat.le_of_ble_eq_true rfl, Nat.le_of_ble_eq_true rfl⟩ (hts _ (TB_in _ tb_581)) (hts _ (TB_in _ tb_582)) (hts _ (TB_in _ tb_42)) ⟨by decide, by decide, rfl⟩ ⟨fun a U g mk q => ⟨q.1, (jd_blind nWc (av := [.ref (ad 15), .long (a1.toInt64 <<< ((32 : Int32).toInt64 &&& 63) ||| a2.toInt64 &&& 4294967295), .long (a3.toInt64 <<< ((32 : Int32).toInt64 &&& 63) ||| a4.toInt64 &&& 4294967295), .int 1, .ref (ad 26)]) a U g mk ⟨q.1, q.2.1⟩).2, q.2.2.call g mk a⟩, fun U hU hW => ⟨rfl, (jd_pre (av := [.ref (ad 15), .long (a1.toInt64 <<< ((32 : Int32).toInt64 &&& 63) ||| a2.toInt64 &&& 4294967295), .long (a3.toInt64 <<< ((32 : Int32).toInt64 &&& 63) ||| a4.toInt64 &&& 4294967295), .int 1, .ref (ad 26)]) hP hK hD (fun U h => nWm h hN) U hU hW).2, hXF.move hW (fun q hq => by rw [hU]; exact hS.2.1 q hq (Nat.not_le.mpr hq))⟩⟩ rfl rfl hl.1 rfl (lv_room (Nat.le_of_ble_eq_true rfl)) d_law_703 ⟨(by show cells + 1 ≤ 601024; omega), (by show slots + 6 ≤ 7293034; omega)⟩) hS (fun q _ h => jd_free hD hS hA q h) (jd_free hD hS hA) (fun r9 u t H1 locs1 ht _ hp hB _ _ hS1 => ?_)
      subst hp
      subst ht
      have hP := hB
      have hS := hS1
      generalize t.heap = H at hP hS ⊢
      generalize locs1 = locs at hS ⊢
      refine lv_istore hx hb d_law_706 hl (by decide) (lv' := (5, .int 1) :: lvL b ad am i) rfl (fun ls hl => ?_)
      refine lv_aload_n hx hb d_law_708 rfl (lv_at hl 3 rfl) ?_
      refine lv_aload_n hx hb d_law_709 rfl (lv_at hl 1 rfl) ?_
      refine lv_iload hx hb d_law_710 (lv_at hl 5 rfl) ?_
      refine lv_iconst (v := 1) hx hb d_law_712 (by decide) ?_
      refine lv_iadd hx hb d_law_713 ?_
      refine jd_sld hx hb hX hbl hbA hS hin1 ha1 d_law_714 ?_
      refine lv_i2l hx hb d_law_715 rfl ?_
      refine lv_bipush (v := 32) hx hb d_law_716 (by decide) ?_
      refine lv_lshl hx hb d_law_718 rfl ?_
      refine lv_aload_n hx hb d_law_719 rfl (lv_at hl 1 rfl) ?_
      refine lv_iload hx hb d_law_720 (lv_at hl 5 rfl) ?_
      refine lv_iconst (v := 2) hx hb d_law_722 (by decide) ?_
      refine lv_iadd hx hb d_law_723 ?_
      refine jd_sld hx hb hX hbl hbA hS hin2 ha2 d_law_724 ?_
      refine lv_i2l hx hb d_law_725 rfl ?_
      refine lv_ldc2 (v := 4294967295) hx hb hown (hts _ (TB_in _ tb_823)) d_law_726 ?_
      refine lv_land hx hb d_law_729 ?_
      refine lv_lor hx hb d_law_730 ?_
      refine lv_aload_n hx hb d_law_731 rfl (lv_at hl 1 rfl) ?_
      refine lv_iload hx hb d_law_732 (lv_at hl 5 rfl) ?_
      refine lv_iconst (v := 3) hx hb d_law_734 (by decide) ?_
      refine lv_iadd hx hb d_law_735 ?_
      refine jd_sld hx hb hX hbl hbA hS hin3 ha3 d_law_736 ?_
      refine lv_i2l hx hb d_law_737 rfl ?_
      refine lv_bipush (v := 32) hx hb d_law_738 (by decide) ?_
      refine lv_lshl hx hb d_law_740 rfl ?_
      refine lv_aload_n hx hb d_law_741 rfl (lv_at hl 1 rfl) ?_
      refine lv_iload hx hb d_law_742 (lv_at hl 5 rfl) ?_
      refine lv_iconst (v := 4) hx hb d_law_744 (by decide) ?_
      refine lv_iadd hx hb d_law_745 ?_
      refine jd_sld hx hb hX hbl hbA hS hin4 ha4 d_law_746 ?_
      refine lv_i2l hx hb d_law_747 rfl ?_
      refine lv_ldc2 (v := 4294967295) hx hb hown (hts _ (TB_in _ tb_823)) d_law_748 ?_
      refine lv_land hx hb d_law_751 ?_
      refine lv_lor hx hb d_law_752 ?_
      refine lv_aload_n hx hb d_law_753 rfl (lv_at hl 1 rfl) ?_
      refine lv_iload hx hb d_law_754 (lv_at hl 5 rfl) ?_
      refine lv_iconst (v := 5) hx hb d_law_756 (by decide) ?_
      refine lv_iadd hx hb d_law_757 ?_
      refine jd_sld hx hb hX hbl hbA hS hin5 ha5 d_law_758 ?_
      refine lv_if_eq (tgt := 766) hx hb d_law_759 rfl (fun h => absurd h hfl0) (fun _ => ?_)
      refine lv_iconst (v := 1) hx hb d_law_762 (by decide) ?_
      refine lv_goto (tgt := 767) hx hb d_law_763 rfl ?_
      have hPm := jd_Pp wL_M hP
      have hDm := jd_Dp wL_M hD
      refine jd_frl (w1 := wM ca am nM JM) hPm hDm hS hA rfl (va_runV (As := [.long (a1.toInt64 <<< ((32 : Int32).toInt64 &&& 63) ||| a2.toInt64 &&& 4294967295), .long (a3.toInt64 <<< ((32 : Int32).toInt64 &&& 63) ||| a4.toInt64 &&& 4294967295), .int 1]) (rest := []) cx (cm_M_chance l D ca am f2 H.size) (cwV 3 hts (jd_gVL tb_755 tb_756 tb_757 tb_47 tb_758) rfl rfl rfl ⟨rfl, by decide, by decide, rfl⟩ ⟨Nat.le_of_ble_eq_true rfl, Nat.le_of_ble_eq_true rfl⟩) ⟨jd_blind nWc, va_recv hK (jd_Pl hPm) (ci := 6) (q0 := 0) rfl rfl, jd_pre (av := [.ref (am 0), .long (a1.toInt64 <<< ((32 : Int32).toInt64 &&& 63) ||| a2.toInt64 &&& 4294967295), .long (a3.toInt64 <<< ((32 : Int32).toInt64 &&& 63) ||| a4.toInt64 &&& 4294967295), .int 1]) (jd_Pl hPm) hK (jd_Dl hDm) (fun U h => nWm h hN)⟩ rfl rfl hl.1 rfl (lv_room (Nat.le_of_ble_eq_true rfl)) d_law_767 ⟨(by show cells + 1 + 0 ≤ 601024; omega), (by show slots + 6 + 0 ≤ 7293034; omega)⟩) (fun H locs hP1 hD1 hS => ?_)
      have hP := jd_Pp wL_M.symm hP1
      have hD := jd_Dp wL_M.symm hD1
      refine lv_lstore hx hb d_law_770 hl (by decide) (lv' := (6, .long r) :: (5, .int 1) :: lvL b ad am i) rfl (fun ls hl => ?_)
      refine lv_aload_n hx hb d_law_772 rfl (lv_at hl 4 rfl) ?_
      have hPm := jd_Pp wL_M hP
      have hDm := jd_Dp wL_M hD
      refine jd_fri (w1 := wM ca am nM JM) hPm hDm hS hA rfl (va_runV (As := []) (rest := []) cx (cm_M_thrown l D ca am f3 H.size) (cwV 0 hts (jd_gVL tb_672 tb_673 tb_674 tb_47 tb_675) rfl rfl rfl ⟨rfl, by decide, by decide, rfl⟩ ⟨Nat.le_of_ble_eq_true rfl, Nat.le_of_ble_eq_true rfl⟩) ⟨jd_blind nWc, va_recv hK (jd_Pl hPm) (ci := 6) (q0 := 0) rfl rfl, jd_pre (av := [.ref (am 0)]) (jd_Pl hPm) hK (jd_Dl hDm) (fun U h => nWm h hN)⟩ rfl rfl hl.1 rfl (lv_room (Nat.le_of_ble_eq_true rfl)) d_law_773 ⟨(by show cells + 1 + 0 ≤ 601024; omega), (by show slots + 6 + 0 ≤ 7293034; omega)⟩) (fun H locs hP1 hD1 hS => ?_)
      have hP := jd_Pp wL_M.symm hP1
      have hD := jd_Dp wL_M.symm hD1
      refine lv_iload hx hb d_law_776 (lv_at hl 1 rfl) ?_
      refine lv_icmp_eq (tgt := 783) hx hb d_law_778 rfl (fun _ => ?_) (fun h => absurd rfl h)
      refine lv_iload hx hb d_law_783 (lv_at hl 1 rfl) ?_
      refine lv_if_ne (tgt := 799) hx hb d_law_785 rfl (fun _ => ?_) (fun h => absurd h (by decide))
      refine lv_goto (tgt := 1175) hx hb d_law_799 rfl ?_
      exact kk adh pr I J Ih Jh nM JM O H locs ls _ _ hR2 ⟨hP, hD, hS⟩ (lv_sub hl [2, 3, 4, 5, 6] rfl) (by omega) (by omega)
    · obtain ⟨kJ, r, nM, f1, f2, f3, he, hR2⟩ := hok.2 pr I J Ih Jh IM JM O hR (a1.toInt64 <<< ((32 : Int32).toInt64 &&& 63) ||| a2.toInt64 &&& 4294967295) (a3.toInt64 <<< ((32 : Int32).toInt64 &&& 63) ||| a4.toInt64 &&& 4294967295) 1 hft
      refine lv_aload_n hx hb d_law_643 rfl (lv_at hl 1 rfl) ?_
      refine lv_aload_n hx hb d_law_644 rfl (lv_at hl 0 rfl) ?_
      refine lv_iload hx hb d_law_645 (lv_at hl 4 rfl) ?_
      refine lv_iconst (v := 1) hx hb d_law_647 (by decide) ?_
      refine lv_iadd hx hb d_law_648 ?_
      refine jd_sld hx hb hX hbl hbA hS hin1 ha1 d_law_649 ?_
      refine lv_i2l hx hb d_law_650 rfl ?_
      refine lv_bipush (v := 32) hx hb d_law_651 (by decide) ?_
      refine lv_lshl hx hb d_law_653 rfl ?_
      refine lv_aload_n hx hb d_law_654 rfl (lv_at hl 0 rfl) ?_
      refine lv_iload hx hb d_law_655 (lv_at hl 4 rfl) ?_
      refine lv_iconst (v := 2) hx hb d_law_657 (by decide) ?_
      refine lv_iadd hx hb d_law_658 ?_
      refine jd_sld hx hb hX hbl hbA hS hin2 ha2 d_law_659 ?_
      refine lv_i2l hx hb d_law_660 rfl ?_
      refine lv_ldc2 (v := 4294967295) hx hb hown (hts _ (TB_in _ tb_823)) d_law_661 ?_
      refine lv_land hx hb d_law_664 ?_
      refine lv_lor hx hb d_law_665 ?_
      refine lv_aload_n hx hb d_law_666 rfl (lv_at hl 0 rfl) ?_
      refine lv_iload hx hb d_law_667 (lv_at hl 4 rfl) ?_
      refine lv_iconst (v := 3) hx hb d_law_669 (by decide) ?_
      refine lv_iadd hx hb d_law_670 ?_
      refine jd_sld hx hb hX hbl hbA hS hin3 ha3 d_law_671 ?_
      refine lv_i2l hx hb d_law_672 rfl ?_
      refine lv_bipush (v := 32) hx hb d_law_673 (by decide) ?_
      refine lv_lshl hx hb d_law_675 rfl ?_
      refine lv_aload_n hx hb d_law_676 rfl (lv_at hl 0 rfl) ?_
      refine lv_iload hx hb d_law_677 (lv_at hl 4 rfl) ?_
      refine lv_iconst (v := 4) hx hb d_law_679 (by decide) ?_
      refine lv_iadd hx hb d_law_680 ?_
      refine jd_sld hx hb hX hbl hbA hS hin4 ha4 d_law_681 ?_
      refine lv_i2l hx hb d_law_682 rfl ?_
      refine lv_ldc2 (v := 4294967295) hx hb hown (hts _ (TB_in _ tb_823)) d_law_683 ?_
      refine lv_land hx hb d_law_686 ?_
      refine lv_lor hx hb d_law_687 ?_
      refine lv_aload_n hx hb d_law_688 rfl (lv_at hl 0 rfl) ?_
      refine lv_iload hx hb d_law_689 (lv_at hl 4 rfl) ?_
      refine lv_iconst (v := 5) hx hb d_law_691 (by decide) ?_
      refine lv_iadd hx hb d_law_692 ?_
      refine jd_sld hx hb hX hbl hbA hS hin5 ha5 d_law_693 ?_
      refine lv_if_eq (tgt := 701) hx hb d_law_694 rfl (fun h => absurd h hfl0) (fun _ => ?_)
      refine lv_iconst (v := 1) hx hb d_law_697 (by decide) ?_
      refine lv_goto (tgt := 702) hx hb d_law_698 rfl ?_
      refine lv_aload_n hx hb d_law_702 rfl (lv_at hl 3 rfl) ?_
      have hPc : va_P D cls_all (wDo ca ad (hsOf pr adh) I (mO J O) ++ (wM ca am IM JM ++ wHs ca adh pr Ih Jh (List.range 12))) H := by rw [wDo_eq, List.append_assoc]; exact hP
      have hDc : va_D (fun q => s.heap.size ≤ q) (wDo ca ad (hsOf pr adh) I (mO J O) ++ (wM ca am IM JM ++ wHs ca adh pr Ih Jh (List.range 12))) := by rw [wDo_eq, List.append_assoc]; exact hD
      refine jd_fri (w1 := wDo ca ad (hsOf pr adh) I kJ) hPc hDc hS hA rfl (jd_runSW (As := [.ref (ad 15), .long (a1.toInt64 <<< ((32 : Int32).toInt64 &&& 63) ||| a2.toInt64 &&& 4294967295), .long (a3.toInt64 <<< ((32 : Int32).toInt64 &&& 63) ||| a4.toInt64 &&& 4294967295), .int 1, .ref (ad 26)]) (rest := []) cx (cm_W_chance l D ca ad (hsOf pr adh) f1 H.size) (jd_gWL (List.mem_of_getElem? (i := 639) (by decide +kernel)) (by decide +kernel)) rfl rfl rfl ⟨Nat.le_of_ble_eq_true rfl, Nat.le_of_ble_eq_true rfl⟩ (hts _ (TB_in _ tb_581)) (hts _ (TB_in _ tb_582)) (hts _ (TB_in _ tb_42)) ⟨by decide, by decide, rfl⟩ ⟨jd_blind nWc, jd_pre (av := [.ref (ad 15), .long (a1.toInt64 <<< ((32 : Int32).toInt64 &&& 63) ||| a2.toInt64 &&& 4294967295), .long (a3.toInt64 <<< ((32 : Int32).toInt64 &&& 63) ||| a4.toInt64 &&& 4294967295), .int 1, .ref (ad 26)]) (jd_Pl hPc) hK (jd_Dl hDc) (fun U h => nWm h hN)⟩ rfl rfl hl.1 rfl (lv_room (Nat.le_of_ble_eq_true rfl)) d_law_703 ⟨(by show cells + 0 ≤ 601024; omega), (by show slots + 0 ≤ 7293034; omega)⟩) (fun H locs hP1 hD1 hS => ?_)
      have hP : va_P D cls_all (wL ca ad adh am pr I kJ Ih Jh IM JM (kJ 5)) H := by rw [wDo_eq', List.append_assoc] at hP1; exact hP1
      have hD : va_D (fun q => s.heap.size ≤ q) (wL ca ad adh am pr I kJ Ih Jh IM JM (kJ 5)) := by rw [wDo_eq', List.append_assoc] at hD1; exact hD1
      refine lv_istore hx hb d_law_706 hl (by decide) (lv' := (5, .int 0) :: lvL b ad am i) rfl (fun ls hl => ?_)
      refine lv_aload_n hx hb d_law_708 rfl (lv_at hl 3 rfl) ?_
      refine lv_aload_n hx hb d_law_709 rfl (lv_at hl 1 rfl) ?_
      refine lv_iload hx hb d_law_710 (lv_at hl 5 rfl) ?_
      refine lv_iconst (v := 1) hx hb d_law_712 (by decide) ?_
      refine lv_iadd hx hb d_law_713 ?_
      refine jd_sld hx hb hX hbl hbA hS hin1 ha1 d_law_714 ?_
      refine lv_i2l hx hb d_law_715 rfl ?_
      refine lv_bipush (v := 32) hx hb d_law_716 (by decide) ?_
      refine lv_lshl hx hb d_law_718 rfl ?_
      refine lv_aload_n hx hb d_law_719 rfl (lv_at hl 1 rfl) ?_
      refine lv_iload hx hb d_law_720 (lv_at hl 5 rfl) ?_
      refine lv_iconst (v := 2) hx hb d_law_722 (by decide) ?_
      refine lv_iadd hx hb d_law_723 ?_
      refine jd_sld hx hb hX hbl hbA hS hin2 ha2 d_law_724 ?_
      refine lv_i2l hx hb d_law_725 rfl ?_
      refine lv_ldc2 (v := 4294967295) hx hb hown (hts _ (TB_in _ tb_823)) d_law_726 ?_
      refine lv_land hx hb d_law_729 ?_
      refine lv_lor hx hb d_law_730 ?_
      refine lv_aload_n hx hb d_law_731 rfl (lv_at hl 1 rfl) ?_
      refine lv_iload hx hb d_law_732 (lv_at hl 5 rfl) ?_
      refine lv_iconst (v := 3) hx hb d_law_734 (by decide) ?_
      refine lv_iadd hx hb d_law_735 ?_
      refine jd_sld hx hb hX hbl hbA hS hin3 ha3 d_law_736 ?_
      refine lv_i2l hx hb d_law_737 rfl ?_
      refine lv_bipush (v := 32) hx hb d_law_738 (by decide) ?_
      refine lv_lshl hx hb d_law_740 rfl ?_
      refine lv_aload_n hx hb d_law_741 rfl (lv_at hl 1 rfl) ?_
      refine lv_iload hx hb d_law_742 (lv_at hl 5 rfl) ?_
      refine lv_iconst (v := 4) hx hb d_law_744 (by decide) ?_
      refine lv_iadd hx hb d_law_745 ?_
      refine jd_sld hx hb hX hbl hbA hS hin4 ha4 d_law_746 ?_
      refine lv_i2l hx hb d_law_747 rfl ?_
      refine lv_ldc2 (v := 4294967295) hx hb hown (hts _ (TB_in _ tb_823)) d_law_748 ?_
      refine lv_land hx hb d_law_751 ?_
      refine lv_lor hx hb d_law_752 ?_
      refine lv_aload_n hx hb d_law_753 rfl (lv_at hl 1 rfl) ?_
      refine lv_iload hx hb d_law_754 (lv_at hl 5 rfl) ?_
      refine lv_iconst (v := 5) hx hb d_law_756 (by decide) ?_
      refine lv_iadd hx hb d_law_757 ?_
      refine jd_sld hx hb hX hbl hbA hS hin5 ha5 d_law_758 ?_
      refine lv_if_eq (tgt := 766) hx hb d_law_759 rfl (fun h => absurd h hfl0) (fun _ => ?_)
      refine lv_iconst (v := 1) hx hb d_law_762 (by decide) ?_
      refine lv_goto (tgt := 767) hx hb d_law_763 rfl ?_
      have hPm := jd_Pp wL_M hP
      have hDm := jd_Dp wL_M hD
      refine jd_frl (w1 := wM ca am nM JM) hPm hDm hS hA rfl (va_runV (As := [.long (a1.toInt64 <<< ((32 : Int32).toInt64 &&& 63) ||| a2.toInt64 &&& 4294967295), .long (a3.toInt64 <<< ((32 : Int32).toInt64 &&& 63) ||| a4.toInt64 &&& 4294967295), .int 1]) (rest := []) cx (cm_M_chance l D ca am f2 H.size) (cwV 3 hts (jd_gVL tb_755 tb_756 tb_757 tb_47 tb_758) rfl rfl rfl ⟨rfl, by decide, by decide, rfl⟩ ⟨Nat.le_of_ble_eq_true rfl, Nat.le_of_ble_eq_true rfl⟩) ⟨jd_blind nWc, va_recv hK (jd_Pl hPm) (ci := 6) (q0 := 0) rfl rfl, jd_pre (av := [.ref (am 0), .long (a1.toInt64 <<< ((32 : Int32).toInt64 &&& 63) ||| a2.toInt64 &&& 4294967295), .long (a3.toInt64 <<< ((32 : Int32).toInt64 &&& 63) ||| a4.toInt64 &&& 4294967295), .int 1]) (jd_Pl hPm) hK (jd_Dl hDm) (fun U h => nWm h hN)⟩ rfl rfl hl.1 rfl (lv_room (Nat.le_of_ble_eq_true rfl)) d_law_767 ⟨(by show cells + 0 ≤ 601024; omega), (by show slots + 0 ≤ 7293034; omega)⟩) (fun H locs hP1 hD1 hS => ?_)
      have hP := jd_Pp wL_M.symm hP1
      have hD := jd_Dp wL_M.symm hD1
      refine lv_lstore hx hb d_law_770 hl (by decide) (lv' := (6, .long r) :: (5, .int 0) :: lvL b ad am i) rfl (fun ls hl => ?_)
      refine lv_aload_n hx hb d_law_772 rfl (lv_at hl 4 rfl) ?_
      have hPm := jd_Pp wL_M hP
      have hDm := jd_Dp wL_M hD
      refine jd_fri (w1 := wM ca am nM JM) hPm hDm hS hA rfl (va_runV (As := []) (rest := []) cx (cm_M_thrown l D ca am f3 H.size) (cwV 0 hts (jd_gVL tb_672 tb_673 tb_674 tb_47 tb_675) rfl rfl rfl ⟨rfl, by decide, by decide, rfl⟩ ⟨Nat.le_of_ble_eq_true rfl, Nat.le_of_ble_eq_true rfl⟩) ⟨jd_blind nWc, va_recv hK (jd_Pl hPm) (ci := 6) (q0 := 0) rfl rfl, jd_pre (av := [.ref (am 0)]) (jd_Pl hPm) hK (jd_Dl hDm) (fun U h => nWm h hN)⟩ rfl rfl hl.1 rfl (lv_room (Nat.le_of_ble_eq_true rfl)) d_law_773 ⟨(by show cells + 0 ≤ 601024; omega), (by show slots + 0 ≤ 7293034; omega)⟩) (fun H locs hP1 hD1 hS => ?_)
      have hP := jd_Pp wL_M.symm hP1
      have hD := jd_Dp wL_M.symm hD1
      refine lv_iload hx hb d_law_776 (lv_at hl 1 rfl) ?_
      refine lv_icmp_eq (tgt := 783) hx hb d_law_778 rfl (fun _ => ?_) (fun h => absurd rfl h)
      refine lv_iload hx hb d_law_783 (lv_at hl 1 rfl) ?_
      refine lv_if_ne (tgt := 799) hx hb d_law_785 rfl (fun h => absurd rfl h) (fun _ => ?_)
      refine lv_aload_n hx hb d_law_788 rfl (lv_at hl 5 rfl) ?_
      refine lv_iconst (v := 0) hx hb d_law_789 (by decide) ?_
      refine va_lald hx hb hK hP 11 3 rfl rfl (inB_in (by decide)) d_law_790 ?_
      rw [he]
      refine lv_lload hx hb d_law_791 (lv_at hl 0 rfl) ?_
      refine W.lcmp hx hb d_law_793 ?_
      refine lv_if_eq (tgt := 799) hx hb d_law_794 rfl (fun _ => ?_) (fun h => absurd (lg_cmp_self _) h)
      refine lv_goto (tgt := 1175) hx hb d_law_799 rfl ?_
      exact kk adh pr I kJ Ih Jh nM JM (kJ 5) H locs ls _ _ hR2 ⟨hP, hD, hS⟩ (lv_sub hl [2, 3, 4, 5, 6] rfl) (by omega) (by omega)
def Ok_give (Rel : (Nat → Bool) → IS → JS → (Nat → IS) → (Nat → JS) → IS → JS → (Nat → Int64) → Prop) : Prop := (∀ (pr : Nat → Bool) (I : IS) (J : JS) (Ih : Nat → IS) (Jh : Nat → JS) (IM : IS) (JM : JS) (O : Nat → Int64), Rel pr I J Ih Jh IM JM O → ∀ (p0 : Int32) (p1 : Int32), ft_K_give p0 p1 = some () → ∃ (r : Int32) (nM : IS), fm_M_give p0 p1 IM = some (r, nM) ∧ fm_M_thrown nM = some 1 ∧ Rel pr I J Ih Jh nM JM O) ∧ (∀ (pr : Nat → Bool) (I : IS) (J : JS) (Ih : Nat → IS) (Jh : Nat → JS) (IM : IS) (JM : JS) (O : Nat → Int64), Rel pr I J Ih Jh IM JM O → ∀ (p0 : Int32) (p1 : Int32), ft_K_give p0 p1 ≠ some () → ∃ (kI : IS) (kJ : JS) (r : Int32) (nM : IS), fm_W_give p0 p1 I (mO J O) = some (0, kI, kJ) ∧ fm_M_give p0 p1 IM = some (r, nM) ∧ fm_M_thrown nM = some 0 ∧ kJ 5 (0 : Int32).toNatClampNeg = r.toInt64 ∧ Rel pr kI kJ Ih Jh nM JM (kJ 5))
set_option maxHeartbeats 4000000 in
set_option maxRecDepth 100000 in
theorem law_give {Rel : (Nat → Bool) → IS → JS → (Nat → IS) → (Nat → JS) → IS → JS → (Nat → Int64) → Prop} (hok : Ok_give Rel) {p : Program} {l : Launch} {e : Env} {s : State} {m : MethodId} {below : List Frame} {meth : Method} {c : Code} {b L : Nat} {xs : Nat → Int32} {D : va_G} {ca : Nat → ClassId} {Q : State → Prop} (C0 : lwC p l s m meth c b L xs D ca) {ad : Nat → Nat} {adh : Nat → Nat → Nat} {am : Nat → Nat} {pr : Nat → Bool} {I : IS} {J : JS} {Ih : Nat → IS} {Jh : Nat → JS} {IM : IS} {JM : JS} {O : Nat → Int64} {H : Heap} {locs : List Loc} {ls : Array Slot} {cells slots : Nat} {i : Int32} (hR : Rel pr I J Ih Jh IM JM O) (hW : lwS D s ca ad adh am pr I J Ih Jh IM JM O H locs) (hl : lv_has ls 8 (lvL b ad am i)) (hin : vp_in (i + 1) L ∧ vp_in (i + 2) L ∧ vp_in (i + 3) L ∧ vp_in (i + 4) L ∧ vp_in (i + 5) L) (hc : cells + 16 ≤ 601024) (hs : slots + 1900 ≤ 7293034) (kk : lwK Rel p l e s m below meth c b D ca ad am i cells slots Q) : W p l e room_1 s m #[Value.ref b] below meth c H locs cells slots Q (F0 m 883 ls []) := by
  obtain ⟨cx, hK, hN, hXF, hfl, hX, hbl⟩ := C0
  have hx := cx.1
  have hb := cx.2.1
  have hown := cx.2.2.2.1
  have hts := cx.2.2.2.2
  obtain ⟨hP, hD, hS⟩ := hW
  have hA : ∀ q, s.heap.size ≤ q → (fun q => s.heap.size ≤ q) q := fun q h => h
  have hbA : ¬ (fun q => s.heap.size ≤ q) b := fun h => absurd h (Nat.not_le.mpr hbl)
  obtain ⟨hin1, hin2, hin3, hin4, hin5⟩ := hin
  generalize ha1 : xs (i + 1).toNatClampNeg = a1
  generalize ha2 : xs (i + 2).toNatClampNeg = a2
  generalize ha3 : xs (i + 3).toNatClampNeg = a3
  generalize ha4 : xs (i + 4).toNatClampNeg = a4
  generalize ha5 : xs (i + 5).toNatClampNeg = a5
  by_cases hft : ft_K_give a1 a2 = some ()
  · obtain ⟨r, nM, f2, f3, hR2⟩ := hok.1 pr I J Ih Jh IM JM O hR a1 a2 hft
    refine lv_aload_n hx hb d_law_883 rfl (lv_at hl 1 rfl) ?_
    refine lv_aload_n hx hb d_law_884 rfl (lv_at hl 0 rfl) ?_
    refine lv_iload hx hb d_law_885 (lv_at hl 4 rfl) ?_
    refine lv_iconst (v := 1) hx hb d_law_887 (by decide) ?_
    refine lv_iadd hx hb d_law_888 ?_
    refine jd_sld hx hb hX hbl hbA hS hin1 ha1 d_law_889 ?_
    refine lv_aload_n hx hb d_law_890 rfl (lv_at hl 0 rfl) ?_
    refine lv_iload hx hb d_law_891 (lv_at hl 4 rfl) ?_
    refine lv_iconst (v := 2) hx hb d_law_893 (by decide) ?_
    refine lv_iadd hx hb d_law_894 ?_
    refine jd_sld hx hb hX hbl hbA hS hin2 ha2 d_law_895 ?_
    refine lv_aload_n hx hb d_law_896 rfl (lv_at hl 3 rfl) ?_
    refine va_calli (jd_runSW (As := [.ref (ad 15), .int a1, .int a2, .ref (ad 26)]) (rest := []) cx (ct_W_give l hfl D ca (w := wL ca ad adh am pr I J Ih Jh IM JM O) (q0 := 0) rfl (ad 26) hft H.size) (jd_gWL (List.mem_of_getElem? (i := 647) (by decide +kernel)) (by decide +kernel)) rfl rfl rfl ⟨Nat.le_of_ble_eq_true rfl, Nat.le_of_ble_eq_true rfl⟩ (hts _ (TB_in _ tb_587)) (hts _ (TB_in _ tb_588)) (hts _ (TB_in _ tb_42)) ⟨by decide, by decide, rfl⟩ ⟨fun a U g mk q => ⟨q.1, (jd_blind nWc (av := [.ref (ad 15), .int a1, .int a2, .ref (ad 26)]) a U g mk ⟨q.1, q.2.1⟩).2, q.2.2.call g mk a⟩, fun U hU hW => ⟨rfl, (jd_pre (av := [.ref (ad 15), .int a1, .int a2, .ref (ad 26)]) hP hK hD (fun U h => nWm h hN) U hU hW).2, hXF.move hW (fun q hq => by rw [hU]; exact hS.2.1 q hq (Nat.not_le.mpr hq))⟩⟩ rfl rfl hl.1 rfl (lv_room (Nat.le_of_ble_eq_true rfl)) d_law_897 ⟨(by show cells + 1 ≤ 601024; omega), (by show slots + 6 ≤ 7293034; omega)⟩) hS (fun q _ h => jd_free hD hS hA q h) (jd_free hD hS hA) (fun r9 u t H1 locs1 ht _ hp hB _ _ hS1 => ?_)
    subst hp
    subst ht
    have hP := hB
    have hS := hS1
    generalize t.heap = H at hP hS ⊢
    generalize locs1 = locs at hS ⊢
    refine lv_istore hx hb d_law_900 hl (by decide) (lv' := (5, .int 1) :: lvL b ad am i) rfl (fun ls hl => ?_)
    refine lv_aload_n hx hb d_law_902 rfl (lv_at hl 3 rfl) ?_
    refine lv_aload_n hx hb d_law_903 rfl (lv_at hl 1 rfl) ?_
    refine lv_iload hx hb d_law_904 (lv_at hl 5 rfl) ?_
    refine lv_iconst (v := 1) hx hb d_law_906 (by decide) ?_
    refine lv_iadd hx hb d_law_907 ?_
    refine jd_sld hx hb hX hbl hbA hS hin1 ha1 d_law_908 ?_
    refine lv_aload_n hx hb d_law_909 rfl (lv_at hl 1 rfl) ?_
    refine lv_iload hx hb d_law_910 (lv_at hl 5 rfl) ?_
    refine lv_iconst (v := 2) hx hb d_law_912 (by decide) ?_
    refine lv_iadd hx hb d_law_913 ?_
    refine jd_sld hx hb hX hbl hbA hS hin2 ha2 d_law_914 ?_
    have hPm := jd_Pp wL_M hP
    have hDm := jd_Dp wL_M hD
    refine jd_fri (w1 := wM ca am nM JM) hPm hDm hS hA rfl (va_runV (As := [.int a1, .int a2]) (rest := []) cx (cm_M_give l D ca am f2 H.size) (cwV 2 hts (jd_gVL tb_763 tb_764 tb_765 tb_47 tb_766) rfl rfl rfl ⟨rfl, by decide, by decide, rfl⟩ ⟨Nat.le_of_ble_eq_true rfl, Nat.le_of_ble_eq_true rfl⟩) ⟨jd_blind nWc, va_recv hK (jd_Pl hPm) (ci := 6) (q0 := 0) rfl rfl, jd_pre (av := [.ref (am 0), .int a1, .int a2]) (jd_Pl hPm) hK (jd_Dl hDm) (fun U h => nWm h hN)⟩ rfl rfl hl.1 rfl (lv_room (Nat.le_of_ble_eq_true rfl)) d_law_915 ⟨(by show cells + 1 + 0 ≤ 601024; omega), (by show slots + 6 + 0 ≤ 7293034; omega)⟩) (fun H locs hP1 hD1 hS => ?_)
    have hP := jd_Pp wL_M.symm hP1
    have hD := jd_Dp wL_M.symm hD1
    refine lv_istore hx hb d_law_918 hl (by decide) (lv' := (6, .int r) :: (5, .int 1) :: lvL b ad am i) rfl (fun ls hl => ?_)
    refine lv_aload_n hx hb d_law_920 rfl (lv_at hl 4 rfl) ?_
    have hPm := jd_Pp wL_M hP
    have hDm := jd_Dp wL_M hD
    refine jd_fri (w1 := wM ca am nM JM) hPm hDm hS hA rfl (va_runV (As := []) (rest := []) cx (cm_M_thrown l D ca am f3 H.size) (cwV 0 hts (jd_gVL tb_672 tb_673 tb_674 tb_47 tb_675) rfl rfl rfl ⟨rfl, by decide, by decide, rfl⟩ ⟨Nat.le_of_ble_eq_true rfl, Nat.le_of_ble_eq_true rfl⟩) ⟨jd_blind nWc, va_recv hK (jd_Pl hPm) (ci := 6) (q0 := 0) rfl rfl, jd_pre (av := [.ref (am 0)]) (jd_Pl hPm) hK (jd_Dl hDm) (fun U h => nWm h hN)⟩ rfl rfl hl.1 rfl (lv_room (Nat.le_of_ble_eq_true rfl)) d_law_921 ⟨(by show cells + 1 + 0 ≤ 601024; omega), (by show slots + 6 + 0 ≤ 7293034; omega)⟩) (fun H locs hP1 hD1 hS => ?_)
    have hP := jd_Pp wL_M.symm hP1
    have hD := jd_Dp wL_M.symm hD1
    refine lv_iload hx hb d_law_924 (lv_at hl 1 rfl) ?_
    refine lv_icmp_eq (tgt := 931) hx hb d_law_926 rfl (fun _ => ?_) (fun h => absurd rfl h)
    refine lv_iload hx hb d_law_931 (lv_at hl 1 rfl) ?_
    refine lv_if_ne (tgt := 948) hx hb d_law_933 rfl (fun _ => ?_) (fun h => absurd h (by decide))
    refine lv_goto (tgt := 1175) hx hb d_law_948 rfl ?_
    exact kk adh pr I J Ih Jh nM JM O H locs ls _ _ hR2 ⟨hP, hD, hS⟩ (lv_sub hl [2, 3, 4, 5, 6] rfl) (by omega) (by omega)
  · obtain ⟨kI, kJ, r, nM, f1, f2, f3, he, hR2⟩ := hok.2 pr I J Ih Jh IM JM O hR a1 a2 hft
    refine lv_aload_n hx hb d_law_883 rfl (lv_at hl 1 rfl) ?_
    refine lv_aload_n hx hb d_law_884 rfl (lv_at hl 0 rfl) ?_
    refine lv_iload hx hb d_law_885 (lv_at hl 4 rfl) ?_
    refine lv_iconst (v := 1) hx hb d_law_887 (by decide) ?_
    refine lv_iadd hx hb d_law_888 ?_
    refine jd_sld hx hb hX hbl hbA hS hin1 ha1 d_law_889 ?_
    refine lv_aload_n hx hb d_law_890 rfl (lv_at hl 0 rfl) ?_
    refine lv_iload hx hb d_law_891 (lv_at hl 4 rfl) ?_
    refine lv_iconst (v := 2) hx hb d_law_893 (by decide) ?_
    refine lv_iadd hx hb d_law_894 ?_
    refine jd_sld hx hb hX hbl hbA hS hin2 ha2 d_law_895 ?_
    refine lv_aload_n hx hb d_law_896 rfl (lv_at hl 3 rfl) ?_
    have hPc : va_P D cls_all (wDo ca ad (hsOf pr adh) I (mO J O) ++ (wM ca am IM JM ++ wHs ca adh pr Ih Jh (List.range 12))) H := by rw [wDo_eq, List.append_assoc]; exact hP
    have hDc : va_D (fun q => s.heap.size ≤ q) (wDo ca ad (hsOf pr adh) I (mO J O) ++ (wM ca am IM JM ++ wHs ca adh pr Ih Jh (List.range 12))) := by rw [wDo_eq, List.append_assoc]; exact hD
    refine jd_fri (w1 := wDo ca ad (hsOf pr adh) kI kJ) hPc hDc hS hA rfl (jd_runSW (As := [.ref (ad 15), .int a1, .int a2, .ref (ad 26)]) (rest := []) cx (cm_W_give l D ca ad (hsOf pr adh) f1 H.size) (jd_gWL (List.mem_of_getElem? (i := 647) (by decide +kernel)) (by decide +kernel)) rfl rfl rfl ⟨Nat.le_of_ble_eq_true rfl, Nat.le_of_ble_eq_true rfl⟩ (hts _ (TB_in _ tb_587)) (hts _ (TB_in _ tb_588)) (hts _ (TB_in _ tb_42)) ⟨by decide, by decide, rfl⟩ ⟨jd_blind nWc, jd_pre (av := [.ref (ad 15), .int a1, .int a2, .ref (ad 26)]) (jd_Pl hPc) hK (jd_Dl hDc) (fun U h => nWm h hN)⟩ rfl rfl hl.1 rfl (lv_room (Nat.le_of_ble_eq_true rfl)) d_law_897 ⟨(by show cells + 0 ≤ 601024; omega), (by show slots + 0 ≤ 7293034; omega)⟩) (fun H locs hP1 hD1 hS => ?_)
    have hP : va_P D cls_all (wL ca ad adh am pr kI kJ Ih Jh IM JM (kJ 5)) H := by rw [wDo_eq', List.append_assoc] at hP1; exact hP1
    have hD : va_D (fun q => s.heap.size ≤ q) (wL ca ad adh am pr kI kJ Ih Jh IM JM (kJ 5)) := by rw [wDo_eq', List.append_assoc] at hD1; exact hD1
    refine lv_istore hx hb d_law_900 hl (by decide) (lv' := (5, .int 0) :: lvL b ad am i) rfl (fun ls hl => ?_)
    refine lv_aload_n hx hb d_law_902 rfl (lv_at hl 3 rfl) ?_
    refine lv_aload_n hx hb d_law_903 rfl (lv_at hl 1 rfl) ?_
    refine lv_iload hx hb d_law_904 (lv_at hl 5 rfl) ?_
    refine lv_iconst (v := 1) hx hb d_law_906 (by decide) ?_
    refine lv_iadd hx hb d_law_907 ?_
    refine jd_sld hx hb hX hbl hbA hS hin1 ha1 d_law_908 ?_
    refine lv_aload_n hx hb d_law_909 rfl (lv_at hl 1 rfl) ?_
    refine lv_iload hx hb d_law_910 (lv_at hl 5 rfl) ?_
    refine lv_iconst (v := 2) hx hb d_law_912 (by decide) ?_
    refine lv_iadd hx hb d_law_913 ?_
    refine jd_sld hx hb hX hbl hbA hS hin2 ha2 d_law_914 ?_
    have hPm := jd_Pp wL_M hP
    have hDm := jd_Dp wL_M hD
    refine jd_fri (w1 := wM ca am nM JM) hPm hDm hS hA rfl (va_runV (As := [.int a1, .int a2]) (rest := []) cx (cm_M_give l D ca am f2 H.size) (cwV 2 hts (jd_gVL tb_763 tb_764 tb_765 tb_47 tb_766) rfl rfl rfl ⟨rfl, by decide, by decide, rfl⟩ ⟨Nat.le_of_ble_eq_true rfl, Nat.le_of_ble_eq_true rfl⟩) ⟨jd_blind nWc, va_recv hK (jd_Pl hPm) (ci := 6) (q0 := 0) rfl rfl, jd_pre (av := [.ref (am 0), .int a1, .int a2]) (jd_Pl hPm) hK (jd_Dl hDm) (fun U h => nWm h hN)⟩ rfl rfl hl.1 rfl (lv_room (Nat.le_of_ble_eq_true rfl)) d_law_915 ⟨(by show cells + 0 ≤ 601024; omega), (by show slots + 0 ≤ 7293034; omega)⟩) (fun H locs hP1 hD1 hS => ?_)
    have hP := jd_Pp wL_M.symm hP1
    have hD := jd_Dp wL_M.symm hD1
    refine lv_istore hx hb d_law_918 hl (by decide) (lv' := (6, .int r) :: (5, .int 0) :: lvL b ad am i) rfl (fun ls hl => ?_)
    refine lv_aload_n hx hb d_law_920 rfl (lv_at hl 4 rfl) ?_
    have hPm := jd_Pp wL_M hP
    have hDm := jd_Dp wL_M hD
    refine jd_fri (w1 := wM ca am nM JM) hPm hDm hS hA rfl (va_runV (As := []) (rest := []) cx (cm_M_thrown l D ca am f3 H.size) (cwV 0 hts (jd_gVL tb_672 tb_673 tb_674 tb_47 tb_675) rfl rfl rfl ⟨rfl, by decide, by decide, rfl⟩ ⟨Nat.le_of_ble_eq_true rfl, Nat.le_of_ble_eq_true rfl⟩) ⟨jd_blind nWc, va_recv hK (jd_Pl hPm) (ci := 6) (q0 := 0) rfl rfl, jd_pre (av := [.ref (am 0)]) (jd_Pl hPm) hK (jd_Dl hDm) (fun U h => nWm h hN)⟩ rfl rfl hl.1 rfl (lv_room (Nat.le_of_ble_eq_true rfl)) d_law_921 ⟨(by show cells + 0 ≤ 601024; omega), (by show slots + 0 ≤ 7293034; omega)⟩) (fun H locs hP1 hD1 hS => ?_)
    have hP := jd_Pp wL_M.symm hP1
    have hD := jd_Dp wL_M.symm hD1
    refine lv_iload hx hb d_law_924 (lv_at hl 1 rfl) ?_
    refine lv_icmp_eq (tgt := 931) hx hb d_law_926 rfl (fun _ => ?_) (fun h => absurd rfl h)
    refine lv_iload hx hb d_law_931 (lv_at hl 1 rfl) ?_
    refine lv_if_ne (tgt := 948) hx hb d_law_933 rfl (fun h => absurd rfl h) (fun _ => ?_)
    refine lv_aload_n hx hb d_law_936 rfl (lv_at hl 5 rfl) ?_
    refine lv_iconst (v := 0) hx hb d_law_937 (by decide) ?_
    refine va_lald hx hb hK hP 11 3 rfl rfl (inB_in (by decide)) d_law_938 ?_
    rw [he]
    refine lv_iload hx hb d_law_939 (lv_at hl 0 rfl) ?_
    refine lv_i2l hx hb d_law_941 rfl ?_
    refine W.lcmp hx hb d_law_942 ?_
    refine lv_if_eq (tgt := 948) hx hb d_law_943 rfl (fun _ => ?_) (fun h => absurd (lg_cmp_self _) h)
    refine lv_goto (tgt := 1175) hx hb d_law_948 rfl ?_
    exact kk adh pr kI kJ Ih Jh nM JM (kJ 5) H locs ls _ _ hR2 ⟨hP, hD, hS⟩ (lv_sub hl [2, 3, 4, 5, 6] rfl) (by omega) (by omega)
