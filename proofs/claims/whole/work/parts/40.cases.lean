/-! The law's own road -/
theorem jd_gVL {own C : String} {idx : Nat} {y : MethodName} {c2 : Cond} (h1 : Cond.methodLink own idx y ∈ TB) (h2 : Cond.instanceMethod y ∈ TB) (h3 : Cond.selects C y y ∈ TB) (h4 : Cond.initialized C ∈ TB) (h5 : c2 ∈ TB) : GoodIn lw_tbl (wsV own idx C y (c2 :: TB)) := fun w hw => by
  have h := jd_gV (c := c2) h1 h2 h3 h4 h5 w hw
  refine ⟨?_, h.2⟩
  rcases List.mem_cons.mp h.1 with q | q
  · rw [q]; exact TB_in _ h5
  · exact TB_in _ q
def R_W : String := "JuryDeskLaw"
/-- what stays through the law -/
def lwC (p : Program) (l : Launch) (s : State) (m : MethodId) (meth : Method) (c : Code) (b L : Nat) (xs : Nat → Int32) (D : va_G) (ca : Nat → ClassId) : Prop :=
  CallFix p m c code 8 s #[Value.ref b] lw_tbl R_W ∧ va_K D cls_all (tysC ca) s ∧ NN s ∧ XF s ∧ l.flags = flags0 ∧ va_X b L xs s s.heap ∧ b < s.heap.size
/-- the heap holds the law's world -/
def lwS (D : va_G) (s : State) (ca : Nat → ClassId) (ad : Nat → Nat) (adh : Nat → Nat → Nat) (am : Nat → Nat) (pr : Nat → Bool) (I : IS) (J : JS) (Ih : Nat → IS) (Jh : Nat → JS) (IM : IS) (JM : JS) (O : Nat → Int64) (H : Heap) (locs : List Loc) : Prop :=
  va_P D cls_all (wL ca ad adh am pr I J Ih Jh IM JM O) H ∧ va_D (fun q => s.heap.size ≤ q) (wL ca ad adh am pr I J Ih Jh IM JM O) ∧ va_S (fun q => s.heap.size ≤ q) s.heap H locs
abbrev lvL (b : Nat) (ad am : Nat → Nat) (i : Int32) : List (Nat × Value) := [(0, .ref b), (1, .ref (ad 15)), (2, .ref (am 0)), (3, .ref (ad 26)), (4, .int i)]
/-- the road behind a case -/
def lwK (Rel : (Nat → Bool) → IS → JS → (Nat → IS) → (Nat → JS) → IS → JS → (Nat → Int64) → Prop) (p : Program) (l : Launch) (e : Env) (s : State) (m : MethodId) (below : List Frame) (meth : Method) (c : Code) (b : Nat) (D : va_G) (ca : Nat → ClassId) (ad : Nat → Nat) (am : Nat → Nat) (i : Int32) (cells slots : Nat) (Q : State → Prop) : Prop :=
  ∀ (adh : Nat → Nat → Nat) (pr : Nat → Bool) (I : IS) (J : JS) (Ih : Nat → IS) (Jh : Nat → JS) (IM : IS) (JM : JS) (O : Nat → Int64) (H : Heap) (locs : List Loc) (ls : Array Slot) (cells' slots' : Nat), Rel pr I J Ih Jh IM JM O → lwS D s ca ad adh am pr I J Ih Jh IM JM O H locs → lv_has ls 8 (lvL b ad am i) → cells' ≤ cells + 16 → slots' ≤ slots + 1900 → W p l e room_1 s m #[Value.ref b] below meth c H locs cells' slots' Q (F0 m 1175 ls [])
theorem lg_cmp_self (x : Int64) : lg_cmp x x = 0 := by simp [lg_cmp]
theorem hs_some {pr : Nat → Bool} {adh : Nat → Nat → Nat} {ad : Nat → Nat} {h : Nat} {x : Int32} (hh : h < 12) (hx : x = nI h) (hp : pr h = true) : hsOf pr adh x.toNatClampNeg = some (adC ad (adh h) 0) := by
  rw [hx, nI_clamp (by omega)]
  show cond (pr h) _ _ = _
  rw [hp]
  rfl
theorem hs_none {pr : Nat → Bool} {adh : Nat → Nat → Nat} {x : Int32} (hn : ∀ h, h < 12 → x = nI h → pr h = false) : vp_in x 12 → hsOf pr adh x.toNatClampNeg = none := by
  intro h
  obtain ⟨j, hj, rfl⟩ := vp_in_of h (by decide)
  rw [nI_clamp (by omega)]
  show cond (pr j) _ _ = _
  rw [hn j hj rfl]
  rfl
section LSL
variable {p : Program} {l : Launch} {e : Env} {R : Room} {s : State} {m : MethodId} {args : Array Value} {below : List Frame} {meth : Method} {c : Code} {H : Heap} {locs : List Loc} {cells slots : Nat} {Q : State → Prop} {pc : Nat} {ls : Array Slot} {rest : List Value} {A : Nat → Prop} {H0 : Heap} {cc : ByteArray}
theorem jd_sld (hexec : p.tables.exec = Jvm.exec) (hb : c.code = cc) {b L : Nat} {xs : Nat → Int32} (hX : va_X b L xs s H0) (hbl : b < H0.size) (hbA : ¬ A b) (hS : va_S A H0 H locs) {i y : Int32} (hin : vp_in i L) (he : xs i.toNatClampNeg = y) (hdg : decode cc pc = .ok (.iaload, 1))
    (kk : W p l e R s m args below meth c H locs cells slots Q (F0 m (pc + 1) ls (.int y :: rest))) : W p l e R s m args below meth c H locs cells slots Q (F0 m pc ls (.int i :: .ref b :: rest)) := va_sld hexec hb hX hbl hbA hS hin hdg (by rw [he]; exact kk)
end LSL
def Ok_better (Rel : (Nat → Bool) → IS → JS → (Nat → IS) → (Nat → JS) → IS → JS → (Nat → Int64) → Prop) : Prop := (∀ (pr : Nat → Bool) (I : IS) (J : JS) (Ih : Nat → IS) (Jh : Nat → JS) (IM : IS) (JM : JS) (O : Nat → Int64), Rel pr I J Ih Jh IM JM O → ∀ (p0 : Int32) (p1 : Int32) (p2 : Int32) (h : Nat), h < 12 → p0 = nI h → pr h = true → ∃ (r : Int32), ∃ (kI : IS), ∃ (kJ : JS), ∃ (nI : IS), fm_K_better p0 p1 p2 (mI (Ih h) I) (mJ (Jh h) J) = some (r, kI, kJ) ∧ fm_M_better p0 p1 p2 IM = some (r, nI) ∧ Rel pr kI kJ (upN Ih h kI) (upN Jh h kJ) nI JM O) ∧ (∀ (pr : Nat → Bool) (I : IS) (J : JS) (Ih : Nat → IS) (Jh : Nat → JS) (IM : IS) (JM : JS) (O : Nat → Int64), Rel pr I J Ih Jh IM JM O → ∀ (p0 : Int32) (p1 : Int32) (p2 : Int32) , (∀ h, h < 12 → p0 = nI h → pr h = false) → ∃ (r : Int32), ∃ (nI : IS), fm_K_better_n p0 p1 p2 = some r ∧ fm_M_better p0 p1 p2 IM = some (r, nI) ∧ Rel pr I J Ih Jh nI JM O)
set_option maxHeartbeats 4000000 in
set_option maxRecDepth 100000 in
theorem law_better {Rel : (Nat → Bool) → IS → JS → (Nat → IS) → (Nat → JS) → IS → JS → (Nat → Int64) → Prop} (hok : Ok_better Rel) {p : Program} {l : Launch} {e : Env} {s : State} {m : MethodId} {below : List Frame} {meth : Method} {c : Code} {b L : Nat} {xs : Nat → Int32} {D : va_G} {ca : Nat → ClassId} {Q : State → Prop} (C0 : lwC p l s m meth c b L xs D ca) {ad : Nat → Nat} {adh : Nat → Nat → Nat} {am : Nat → Nat} {pr : Nat → Bool} {I : IS} {J : JS} {Ih : Nat → IS} {Jh : Nat → JS} {IM : IS} {JM : JS} {O : Nat → Int64} {H : Heap} {locs : List Loc} {ls : Array Slot} {cells slots : Nat} {i : Int32} (hR : Rel pr I J Ih Jh IM JM O) (hW : lwS D s ca ad adh am pr I J Ih Jh IM JM O H locs) (hl : lv_has ls 8 (lvL b ad am i)) (hin : vp_in (i + 1) L ∧ vp_in (i + 2) L ∧ vp_in (i + 3) L ∧ vp_in (i + 4) L ∧ vp_in (i + 5) L) (hc : cells + 16 ≤ 601024) (hs : slots + 1900 ≤ 7293034) (kk : lwK Rel p l e s m below meth c b D ca ad am i cells slots Q) : W p l e room_1 s m #[Value.ref b] below meth c H locs cells slots Q (F0 m 192 ls []) := by
  obtain ⟨cx, hK, hN, hXF, hfl, hX, hbl⟩ := C0
  have hx := cx.1
  have hb := cx.2.1
  have hown := cx.2.2.2.1
  have hts := cx.2.2.2.2
  obtain ⟨hP, hD, hS⟩ := hW
  have hA : ∀ q, s.heap.size ≤ q → (fun q => s.heap.size ≤ q) q := fun q h => h
  have hbA : ¬ (fun q => s.heap.size ≤ q) b := fun h => absurd h (Nat.not_le.mpr hbl)
  obtain ⟨hin1, hin2, hin3, hin4, hin5⟩ := hin
  generalize ha1 : xs (i + 1).toNatClampNeg = a1
  generalize ha2 : xs (i + 2).toNatClampNeg = a2
  generalize ha3 : xs (i + 3).toNatClampNeg = a3
  generalize ha4 : xs (i + 4).toNatClampNeg = a4
  generalize ha5 : xs (i + 5).toNatClampNeg = a5
  by_cases hpz : ∃ h, h < 12 ∧ a1 = nI h ∧ pr h = true
  · obtain ⟨h, hh, hp0, hp⟩ := hpz
    obtain ⟨r, kI, kJ, nI, f1, f2, hR2⟩ := hok.1 pr I J Ih Jh IM JM O hR a1 a2 a3 h hh hp0 hp
    refine lv_aload_n hx hb d_law_192 rfl (lv_at hl 1 rfl) ?_
    refine lv_aload_n hx hb d_law_193 rfl (lv_at hl 0 rfl) ?_
    refine lv_iload hx hb d_law_194 (lv_at hl 4 rfl) ?_
    refine lv_iconst (v := 1) hx hb d_law_196 (by decide) ?_
    refine lv_iadd hx hb d_law_197 ?_
    refine jd_sld hx hb hX hbl hbA hS hin1 ha1 d_law_198 ?_
    refine lv_aload_n hx hb d_law_199 rfl (lv_at hl 0 rfl) ?_
    refine lv_iload hx hb d_law_200 (lv_at hl 4 rfl) ?_
    refine lv_iconst (v := 2) hx hb d_law_202 (by decide) ?_
    refine lv_iadd hx hb d_law_203 ?_
    refine jd_sld hx hb hX hbl hbA hS hin2 ha2 d_law_204 ?_
    refine lv_aload_n hx hb d_law_205 rfl (lv_at hl 0 rfl) ?_
    refine lv_iload hx hb d_law_206 (lv_at hl 4 rfl) ?_
    refine lv_iconst (v := 3) hx hb d_law_208 (by decide) ?_
    refine lv_iadd hx hb d_law_209 ?_
    refine jd_sld hx hb hX hbl hbA hS hin3 ha3 d_law_210 ?_
    have hPc := jd_Pp (wL_C (O := O) hh hp) hP
    have hDc := jd_Dp (wL_C (O := O) hh hp) hD
    refine jd_fri (w1 := wC ca (adC ad (adh h)) (hsOf pr adh) kI kJ) hPc hDc hS hA rfl (va_runV (As := [.int a1, .int a2, .int a3]) (rest := []) cx (cm_K_better l D ca (adC ad (adh h)) (hsOf pr adh) (hs_some hh hp0 hp) f1 H.size) (cwV 3 hts (jd_gVL tb_120 tb_121 tb_122 tb_43 tb_123) rfl rfl rfl ⟨rfl, by decide, by decide, rfl⟩ ⟨Nat.le_of_ble_eq_true rfl, Nat.le_of_ble_eq_true rfl⟩) ⟨jd_blind nWc, va_recv hK (jd_Pl hPc) (ci := 3) (q0 := 15) rfl rfl, jd_pre (av := [.ref (adC ad (adh h) 15), .int a1, .int a2, .int a3]) (jd_Pl hPc) hK (jd_Dl hDc) (fun U h => nWm h hN)⟩ rfl rfl hl.1 rfl (lv_room (Nat.le_of_ble_eq_true rfl)) d_law_211 ⟨(by show cells + 0 ≤ 601024; omega), (by show slots + 0 ≤ 7293034; omega)⟩) (fun H locs hP1 hD1 hS => ?_)
    have hP := jd_Pp (wL_C' hh hp) hP1
    have hD := jd_Dp (wL_C' hh hp) hD1
    refine lv_aload_n hx hb d_law_214 rfl (lv_at hl 2 rfl) ?_
    refine lv_aload_n hx hb d_law_215 rfl (lv_at hl 0 rfl) ?_
    refine lv_iload hx hb d_law_216 (lv_at hl 4 rfl) ?_
    refine lv_iconst (v := 1) hx hb d_law_218 (by decide) ?_
    refine lv_iadd hx hb d_law_219 ?_
    refine jd_sld hx hb hX hbl hbA hS hin1 ha1 d_law_220 ?_
    refine lv_aload_n hx hb d_law_221 rfl (lv_at hl 0 rfl) ?_
    refine lv_iload hx hb d_law_222 (lv_at hl 4 rfl) ?_
    refine lv_iconst (v := 2) hx hb d_law_224 (by decide) ?_
    refine lv_iadd hx hb d_law_225 ?_
    refine jd_sld hx hb hX hbl hbA hS hin2 ha2 d_law_226 ?_
    refine lv_aload_n hx hb d_law_227 rfl (lv_at hl 0 rfl) ?_
    refine lv_iload hx hb d_law_228 (lv_at hl 4 rfl) ?_
    refine lv_iconst (v := 3) hx hb d_law_230 (by decide) ?_
    refine lv_iadd hx hb d_law_231 ?_
    refine jd_sld hx hb hX hbl hbA hS hin3 ha3 d_law_232 ?_
    have hPm := jd_Pp (wL_M (O := O)) hP
    have hDm := jd_Dp (wL_M (O := O)) hD
    refine jd_fri (w1 := wM ca am nI JM) hPm hDm hS hA rfl (va_runV (As := [.int a1, .int a2, .int a3]) (rest := [.int r]) cx (cm_M_better l D ca am f2 H.size) (cwV 3 hts (jd_gVL tb_680 tb_681 tb_682 tb_47 tb_683) rfl rfl rfl ⟨rfl, by decide, by decide, rfl⟩ ⟨Nat.le_of_ble_eq_true rfl, Nat.le_of_ble_eq_true rfl⟩) ⟨jd_blind nWc, va_recv hK (jd_Pl hPm) (ci := 6) (q0 := 0) rfl rfl, jd_pre (av := [.ref (am 0), .int a1, .int a2, .int a3]) (jd_Pl hPm) hK (jd_Dl hDm) (fun U h => nWm h hN)⟩ rfl rfl hl.1 rfl (lv_room (Nat.le_of_ble_eq_true rfl)) d_law_233 ⟨(by show cells + 0 ≤ 601024; omega), (by show slots + 0 ≤ 7293034; omega)⟩) (fun H locs hP1 hD1 hS => ?_)
    have hP := jd_Pp (wL_M (IM := nI) (JM := JM) (O := O)).symm hP1
    have hD := jd_Dp (wL_M (IM := nI) (JM := JM) (O := O)).symm hD1
    refine lv_icmp_eq (tgt := 1175) hx hb d_law_236 rfl (fun _ => ?_) (fun h => absurd rfl h)
    exact kk adh pr kI kJ (upN Ih h kI) (upN Jh h kJ) nI JM O H locs ls cells slots hR2 ⟨hP, hD, hS⟩ hl (by omega) (by omega)
  · have hp : ∀ h, h < 12 → a1 = nI h → pr h = false := fun h h1 h2 => by cases hq : pr h with | false => rfl | true => exact absurd ⟨h, h1, h2, hq⟩ hpz
    obtain ⟨r, nI, f1, f2, hR2⟩ := hok.2 pr I J Ih Jh IM JM O hR a1 a2 a3 hp
    refine lv_aload_n hx hb d_law_192 rfl (lv_at hl 1 rfl) ?_
    refine lv_aload_n hx hb d_law_193 rfl (lv_at hl 0 rfl) ?_
    refine lv_iload hx hb d_law_194 (lv_at hl 4 rfl) ?_
    refine lv_iconst (v := 1) hx hb d_law_196 (by decide) ?_
    refine lv_iadd hx hb d_law_197 ?_
    refine jd_sld hx hb hX hbl hbA hS hin1 ha1 d_law_198 ?_
    refine lv_aload_n hx hb d_law_199 rfl (lv_at hl 0 rfl) ?_
    refine lv_iload hx hb d_law_200 (lv_at hl 4 rfl) ?_
    refine lv_iconst (v := 2) hx hb d_law_202 (by decide) ?_
    refine lv_iadd hx hb d_law_203 ?_
    refine jd_sld hx hb hX hbl hbA hS hin2 ha2 d_law_204 ?_
    refine lv_aload_n hx hb d_law_205 rfl (lv_at hl 0 rfl) ?_
    refine lv_iload hx hb d_law_206 (lv_at hl 4 rfl) ?_
    refine lv_iconst (v := 3) hx hb d_law_208 (by decide) ?_
    refine lv_iadd hx hb d_law_209 ?_
    refine jd_sld hx hb hX hbl hbA hS hin3 ha3 d_law_210 ?_
    have hPc := hP
    have hDc := hD
    unfold wL at hPc hDc
    refine jd_fri (w1 := wD ca ad (hsOf pr adh) I J) hPc hDc hS hA rfl (va_runV (As := [.int a1, .int a2, .int a3]) (rest := []) cx (cm_K_better_n l D ca ad (hsOf pr adh) (hs_none hp) f1 H.size) (cwV 3 hts (jd_gVL tb_120 tb_121 tb_122 tb_43 tb_123) rfl rfl rfl ⟨rfl, by decide, by decide, rfl⟩ ⟨Nat.le_of_ble_eq_true rfl, Nat.le_of_ble_eq_true rfl⟩) ⟨jd_blind nWc, va_recv hK (jd_Pl hPc) (ci := 3) (q0 := 0) rfl rfl, jd_pre (av := [.ref (ad 15), .int a1, .int a2, .int a3]) (jd_Pl hPc) hK (jd_Dl hDc) (fun U h => nWm h hN)⟩ rfl rfl hl.1 rfl (lv_room (Nat.le_of_ble_eq_true rfl)) d_law_211 ⟨(by show cells + 0 ≤ 601024; omega), (by show slots + 0 ≤ 7293034; omega)⟩) (fun H locs hP1 hD1 hS => ?_)
    have hP : va_P D cls_all (wL ca ad adh am pr I J Ih Jh IM JM O) H := hP1
    have hD : va_D _ (wL ca ad adh am pr I J Ih Jh IM JM O) := hD1
    refine lv_aload_n hx hb d_law_214 rfl (lv_at hl 2 rfl) ?_
    refine lv_aload_n hx hb d_law_215 rfl (lv_at hl 0 rfl) ?_
    refine lv_iload hx hb d_law_216 (lv_at hl 4 rfl) ?_
    refine lv_iconst (v := 1) hx hb d_law_218 (by decide) ?_
    refine lv_iadd hx hb d_law_219 ?_
    refine jd_sld hx hb hX hbl hbA hS hin1 ha1 d_law_220 ?_
    refine lv_aload_n hx hb d_law_221 rfl (lv_at hl 0 rfl) ?_
    refine lv_iload hx hb d_law_222 (lv_at hl 4 rfl) ?_
    refine lv_iconst (v := 2) hx hb d_law_224 (by decide) ?_
    refine lv_iadd hx hb d_law_225 ?_
    refine jd_sld hx hb hX hbl hbA hS hin2 ha2 d_law_226 ?_
    refine lv_aload_n hx hb d_law_227 rfl (lv_at hl 0 rfl) ?_
    refine lv_iload hx hb d_law_228 (lv_at hl 4 rfl) ?_
    refine lv_iconst (v := 3) hx hb d_law_230 (by decide) ?_
    refine lv_iadd hx hb d_law_231 ?_
    refine jd_sld hx hb hX hbl hbA hS hin3 ha3 d_law_232 ?_
    have hPm := jd_Pp (wL_M (O := O)) hP
    have hDm := jd_Dp (wL_M (O := O)) hD
    refine jd_fri (w1 := wM ca am nI JM) hPm hDm hS hA rfl (va_runV (As := [.int a1, .int a2, .int a3]) (rest := [.int r]) cx (cm_M_better l D ca am f2 H.size) (cwV 3 hts (jd_gVL tb_680 tb_681 tb_682 tb_47 tb_683) rfl rfl rfl ⟨rfl, by decide, by decide, rfl⟩ ⟨Nat.le_of_ble_eq_true rfl, Nat.le_of_ble_eq_true rfl⟩) ⟨jd_blind nWc, va_recv hK (jd_Pl hPm) (ci := 6) (q0 := 0) rfl rfl, jd_pre (av := [.ref (am 0), .int a1, .int a2, .int a3]) (jd_Pl hPm) hK (jd_Dl hDm) (fun U h => nWm h hN)⟩ rfl rfl hl.1 rfl (lv_room (Nat.le_of_ble_eq_true rfl)) d_law_233 ⟨(by show cells + 0 ≤ 601024; omega), (by show slots + 0 ≤ 7293034; omega)⟩) (fun H locs hP1 hD1 hS => ?_)
    have hP := jd_Pp (wL_M (IM := nI) (JM := JM) (O := O)).symm hP1
    have hD := jd_Dp (wL_M (IM := nI) (JM := JM) (O := O)).symm hD1
    refine lv_icmp_eq (tgt := 1175) hx hb d_law_236 rfl (fun _ => ?_) (fun h => absurd rfl h)
    exact kk adh pr I J Ih Jh nI JM O H locs ls cells slots hR2 ⟨hP, hD, hS⟩ hl (by omega) (by omega)
def Ok_whyLast (Rel : (Nat → Bool) → IS → JS → (Nat → IS) → (Nat → JS) → IS → JS → (Nat → Int64) → Prop) : Prop := (∀ (pr : Nat → Bool) (I : IS) (J : JS) (Ih : Nat → IS) (Jh : Nat → JS) (IM : IS) (JM : JS) (O : Nat → Int64), Rel pr I J Ih Jh IM JM O → ∀ (_ : Unit), ∃ (r : Int32), ∃ (nI : IS), fm_K_whyLast I = some r ∧ fm_M_whyLast IM = some (r, nI) ∧ Rel pr I J Ih Jh nI JM O)
set_option maxHeartbeats 4000000 in
set_option maxRecDepth 100000 in
theorem law_whyLast {Rel : (Nat → Bool) → IS → JS → (Nat → IS) → (Nat → JS) → IS → JS → (Nat → Int64) → Prop} (hok : Ok_whyLast Rel) {p : Program} {l : Launch} {e : Env} {s : State} {m : MethodId} {below : List Frame} {meth : Method} {c : Code} {b L : Nat} {xs : Nat → Int32} {D : va_G} {ca : Nat → ClassId} {Q : State → Prop} (C0 : lwC p l s m meth c b L xs D ca) {ad : Nat → Nat} {adh : Nat → Nat → Nat} {am : Nat → Nat} {pr : Nat → Bool} {I : IS} {J : JS} {Ih : Nat → IS} {Jh : Nat → JS} {IM : IS} {JM : JS} {O : Nat → Int64} {H : Heap} {locs : List Loc} {ls : Array Slot} {cells slots : Nat} {i : Int32} (hR : Rel pr I J Ih Jh IM JM O) (hW : lwS D s ca ad adh am pr I J Ih Jh IM JM O H locs) (hl : lv_has ls 8 (lvL b ad am i)) (hin : vp_in (i + 1) L ∧ vp_in (i + 2) L ∧ vp_in (i + 3) L ∧ vp_in (i + 4) L ∧ vp_in (i + 5) L) (hc : cells + 16 ≤ 601024) (hs : slots + 1900 ≤ 7293034) (kk : lwK Rel p l e s m below meth c b D ca ad am i cells slots Q) : W p l e room_1 s m #[Value.ref b] below meth c H locs cells slots Q (F0 m 241 ls []) := by
  obtain ⟨cx, hK, hN, hXF, hfl, hX, hbl⟩ := C0
  have hx := cx.1
  have hb := cx.2.1
  have hown := cx.2.2.2.1
  have hts := cx.2.2.2.2
  obtain ⟨hP, hD, hS⟩ := hW
  have hA : ∀ q, s.heap.size ≤ q → (fun q => s.heap.size ≤ q) q := fun q h => h
  have hbA : ¬ (fun q => s.heap.size ≤ q) b := fun h => absurd h (Nat.not_le.mpr hbl)
  obtain ⟨hin1, hin2, hin3, hin4, hin5⟩ := hin
  generalize ha1 : xs (i + 1).toNatClampNeg = a1
  generalize ha2 : xs (i + 2).toNatClampNeg = a2
  generalize ha3 : xs (i + 3).toNatClampNeg = a3
  generalize ha4 : xs (i + 4).toNatClampNeg = a4
  generalize ha5 : xs (i + 5).toNatClampNeg = a5
  obtain ⟨r, nI, f1, f2, hR2⟩ := hok pr I J Ih Jh IM JM O hR ()
  refine lv_aload_n hx hb d_law_241 rfl (lv_at hl 1 rfl) ?_
  have hPc := hP
  have hDc := hD
  unfold wL at hPc hDc
  refine jd_fri (w1 := wD ca ad (hsOf pr adh) I J) hPc hDc hS hA rfl (va_runV (As := []) (rest := []) cx (cm_K_whyLast l D ca ad (hsOf pr adh) f1 H.size) (cwV 0 hts (jd_gVL tb_176 tb_177 tb_178 tb_43 tb_179) rfl rfl rfl ⟨rfl, by decide, by decide, rfl⟩ ⟨Nat.le_of_ble_eq_true rfl, Nat.le_of_ble_eq_true rfl⟩) ⟨jd_blind nWc, va_recv hK (jd_Pl hPc) (ci := 3) (q0 := 0) rfl rfl, jd_pre (av := [.ref (ad 15)]) (jd_Pl hPc) hK (jd_Dl hDc) (fun U h => nWm h hN)⟩ rfl rfl hl.1 rfl (lv_room (Nat.le_of_ble_eq_true rfl)) d_law_242 ⟨(by show cells + 0 ≤ 601024; omega), (by show slots + 0 ≤ 7293034; omega)⟩) (fun H locs hP1 hD1 hS => ?_)
  have hP : va_P D cls_all (wL ca ad adh am pr I J Ih Jh IM JM O) H := hP1
  have hD : va_D _ (wL ca ad adh am pr I J Ih Jh IM JM O) := hD1
  refine lv_aload_n hx hb d_law_245 rfl (lv_at hl 2 rfl) ?_
  have hPm := jd_Pp (wL_M (O := O)) hP
  have hDm := jd_Dp (wL_M (O := O)) hD
  refine jd_fri (w1 := wM ca am nI JM) hPm hDm hS hA rfl (va_runV (As := []) (rest := [.int r]) cx (cm_M_whyLast l D ca am f2 H.size) (cwV 0 hts (jd_gVL tb_696 tb_697 tb_698 tb_47 tb_699) rfl rfl rfl ⟨rfl, by decide, by decide, rfl⟩ ⟨Nat.le_of_ble_eq_true rfl, Nat.le_of_ble_eq_true rfl⟩) ⟨jd_blind nWc, va_recv hK (jd_Pl hPm) (ci := 6) (q0 := 0) rfl rfl, jd_pre (av := [.ref (am 0)]) (jd_Pl hPm) hK (jd_Dl hDm) (fun U h => nWm h hN)⟩ rfl rfl hl.1 rfl (lv_room (Nat.le_of_ble_eq_true rfl)) d_law_246 ⟨(by show cells + 0 ≤ 601024; omega), (by show slots + 0 ≤ 7293034; omega)⟩) (fun H locs hP1 hD1 hS => ?_)
  have hP := jd_Pp (wL_M (IM := nI) (JM := JM) (O := O)).symm hP1
  have hD := jd_Dp (wL_M (IM := nI) (JM := JM) (O := O)).symm hD1
  refine lv_icmp_eq (tgt := 1175) hx hb d_law_249 rfl (fun _ => ?_) (fun h => absurd rfl h)
  exact kk adh pr I J Ih Jh nI JM O H locs ls cells slots hR2 ⟨hP, hD, hS⟩ hl (by omega) (by omega)
def Ok_why (Rel : (Nat → Bool) → IS → JS → (Nat → IS) → (Nat → JS) → IS → JS → (Nat → Int64) → Prop) : Prop := (∀ (pr : Nat → Bool) (I : IS) (J : JS) (Ih : Nat → IS) (Jh : Nat → JS) (IM : IS) (JM : JS) (O : Nat → Int64), Rel pr I J Ih Jh IM JM O → ∀ (p0 : Int32) , ∃ (r : Int32), ∃ (nI : IS), fm_K_why p0 I = some r ∧ fm_M_why p0 IM = some (r, nI) ∧ Rel pr I J Ih Jh nI JM O)
set_option maxHeartbeats 4000000 in
set_option maxRecDepth 100000 in
theorem law_why {Rel : (Nat → Bool) → IS → JS → (Nat → IS) → (Nat → JS) → IS → JS → (Nat → Int64) → Prop} (hok : Ok_why Rel) {p : Program} {l : Launch} {e : Env} {s : State} {m : MethodId} {below : List Frame} {meth : Method} {c : Code} {b L : Nat} {xs : Nat → Int32} {D : va_G} {ca : Nat → ClassId} {Q : State → Prop} (C0 : lwC p l s m meth c b L xs D ca) {ad : Nat → Nat} {adh : Nat → Nat → Nat} {am : Nat → Nat} {pr : Nat → Bool} {I : IS} {J : JS} {Ih : Nat → IS} {Jh : Nat → JS} {IM : IS} {JM : JS} {O : Nat → Int64} {H : Heap} {locs : List Loc} {ls : Array Slot} {cells slots : Nat} {i : Int32} (hR : Rel pr I J Ih Jh IM JM O) (hW : lwS D s ca ad adh am pr I J Ih Jh IM JM O H locs) (hl : lv_has ls 8 (lvL b ad am i)) (hin : vp_in (i + 1) L ∧ vp_in (i + 2) L ∧ vp_in (i + 3) L ∧ vp_in (i + 4) L ∧ vp_in (i + 5) L) (hc : cells + 16 ≤ 601024) (hs : slots + 1900 ≤ 7293034) (kk : lwK Rel p l e s m below meth c b D ca ad am i cells slots Q) : W p l e room_1 s m #[Value.ref b] below meth c H locs cells slots Q (F0 m 254 ls []) := by
  obtain ⟨cx, hK, hN, hXF, hfl, hX, hbl⟩ := C0
  have hx := cx.1
  have hb := cx.2.1
  have hown := cx.2.2.2.1
  have hts := cx.2.2.2.2
  obtain ⟨hP, hD, hS⟩ := hW
  have hA : ∀ q, s.heap.size ≤ q → (fun q => s.heap.size ≤ q) q := fun q h => h
  have hbA : ¬ (fun q => s.heap.size ≤ q) b := fun h => absurd h (Nat.not_le.mpr hbl)
  obtain ⟨hin1, hin2, hin3, hin4, hin5⟩ := hin
  generalize ha1 : xs (i + 1).toNatClampNeg = a1
  generalize ha2 : xs (i + 2).toNatClampNeg = a2
  generalize ha3 : xs (i + 3).toNatClampNeg = a3
  generalize ha4 : xs (i + 4).toNatClampNeg = a4
  generalize ha5 : xs (i + 5).toNatClampNeg = a5
  obtain ⟨r, nI, f1, f2, hR2⟩ := hok pr I J Ih Jh IM JM O hR a1
  refine lv_aload_n hx hb d_law_254 rfl (lv_at hl 1 rfl) ?_
  refine lv_aload_n hx hb d_law_255 rfl (lv_at hl 0 rfl) ?_
  refine lv_iload hx hb d_law_256 (lv_at hl 4 rfl) ?_
  refine lv_iconst (v := 1) hx hb d_law_258 (by decide) ?_
  refine lv_iadd hx hb d_law_259 ?_
  refine jd_sld hx hb hX hbl hbA hS hin1 ha1 d_law_260 ?_
  have hPc := hP
  have hDc := hD
  unfold wL at hPc hDc
  refine jd_fri (w1 := wD ca ad (hsOf pr adh) I J) hPc hDc hS hA rfl (va_runV (As := [.int a1]) (rest := []) cx (cm_K_why l D ca ad (hsOf pr adh) f1 H.size) (cwV 1 hts (jd_gVL tb_180 tb_181 tb_182 tb_43 tb_183) rfl rfl rfl ⟨rfl, by decide, by decide, rfl⟩ ⟨Nat.le_of_ble_eq_true rfl, Nat.le_of_ble_eq_true rfl⟩) ⟨jd_blind nWc, va_recv hK (jd_Pl hPc) (ci := 3) (q0 := 0) rfl rfl, jd_pre (av := [.ref (ad 15), .int a1]) (jd_Pl hPc) hK (jd_Dl hDc) (fun U h => nWm h hN)⟩ rfl rfl hl.1 rfl (lv_room (Nat.le_of_ble_eq_true rfl)) d_law_261 ⟨(by show cells + 0 ≤ 601024; omega), (by show slots + 0 ≤ 7293034; omega)⟩) (fun H locs hP1 hD1 hS => ?_)
  have hP : va_P D cls_all (wL ca ad adh am pr I J Ih Jh IM JM O) H := hP1
  have hD : va_D _ (wL ca ad adh am pr I J Ih Jh IM JM O) := hD1
  refine lv_aload_n hx hb d_law_264 rfl (lv_at hl 2 rfl) ?_
  refine lv_aload_n hx hb d_law_265 rfl (lv_at hl 0 rfl) ?_
  refine lv_iload hx hb d_law_266 (lv_at hl 4 rfl) ?_
  refine lv_iconst (v := 1) hx hb d_law_268 (by decide) ?_
  refine lv_iadd hx hb d_law_269 ?_
  refine jd_sld hx hb hX hbl hbA hS hin1 ha1 d_law_270 ?_
  have hPm := jd_Pp (wL_M (O := O)) hP
  have hDm := jd_Dp (wL_M (O := O)) hD
  refine jd_fri (w1 := wM ca am nI JM) hPm hDm hS hA rfl (va_runV (As := [.int a1]) (rest := [.int r]) cx (cm_M_why l D ca am f2 H.size) (cwV 1 hts (jd_gVL tb_700 tb_701 tb_702 tb_47 tb_703) rfl rfl rfl ⟨rfl, by decide, by decide, rfl⟩ ⟨Nat.le_of_ble_eq_true rfl, Nat.le_of_ble_eq_true rfl⟩) ⟨jd_blind nWc, va_recv hK (jd_Pl hPm) (ci := 6) (q0 := 0) rfl rfl, jd_pre (av := [.ref (am 0), .int a1]) (jd_Pl hPm) hK (jd_Dl hDm) (fun U h => nWm h hN)⟩ rfl rfl hl.1 rfl (lv_room (Nat.le_of_ble_eq_true rfl)) d_law_271 ⟨(by show cells + 0 ≤ 601024; omega), (by show slots + 0 ≤ 7293034; omega)⟩) (fun H locs hP1 hD1 hS => ?_)
  have hP := jd_Pp (wL_M (IM := nI) (JM := JM) (O := O)).symm hP1
  have hD := jd_Dp (wL_M (IM := nI) (JM := JM) (O := O)).symm hD1
  refine lv_icmp_eq (tgt := 1175) hx hb d_law_274 rfl (fun _ => ?_) (fun h => absurd rfl h)
  exact kk adh pr I J Ih Jh nI JM O H locs ls cells slots hR2 ⟨hP, hD, hS⟩ hl (by omega) (by omega)
def Ok_withdraw (Rel : (Nat → Bool) → IS → JS → (Nat → IS) → (Nat → JS) → IS → JS → (Nat → Int64) → Prop) : Prop := (∀ (pr : Nat → Bool) (I : IS) (J : JS) (Ih : Nat → IS) (Jh : Nat → JS) (IM : IS) (JM : JS) (O : Nat → Int64), Rel pr I J Ih Jh IM JM O → ∀ (p0 : Int32) (p1 : Int32) (h : Nat), h < 12 → p0 = nI h → pr h = true → ∃ (r : Int32), ∃ (kI : IS), ∃ (kJ : JS), ∃ (nI : IS), fm_K_withdraw p0 p1 (mI (Ih h) I) (mJ (Jh h) J) = some (r, kI, kJ) ∧ fm_M_withdraw p0 p1 IM = some (r, nI) ∧ Rel pr kI kJ (upN Ih h kI) (upN Jh h kJ) nI JM O) ∧ (∀ (pr : Nat → Bool) (I : IS) (J : JS) (Ih : Nat → IS) (Jh : Nat → JS) (IM : IS) (JM : JS) (O : Nat → Int64), Rel pr I J Ih Jh IM JM O → ∀ (p0 : Int32) (p1 : Int32) , (∀ h, h < 12 → p0 = nI h → pr h = false) → ∃ (r : Int32), ∃ (nI : IS), fm_K_withdraw_n p0 p1 = some r ∧ fm_M_withdraw p0 p1 IM = some (r, nI) ∧ Rel pr I J Ih Jh nI JM O)
set_option maxHeartbeats 4000000 in
set_option maxRecDepth 100000 in
theorem law_withdraw {Rel : (Nat → Bool) → IS → JS → (Nat → IS) → (Nat → JS) → IS → JS → (Nat → Int64) → Prop} (hok : Ok_withdraw Rel) {p : Program} {l : Launch} {e : Env} {s : State} {m : MethodId} {below : List Frame} {meth : Method} {c : Code} {b L : Nat} {xs : Nat → Int32} {D : va_G} {ca : Nat → ClassId} {Q : State → Prop} (C0 : lwC p l s m meth c b L xs D ca) {ad : Nat → Nat} {adh : Nat → Nat → Nat} {am : Nat → Nat} {pr : Nat → Bool} {I : IS} {J : JS} {Ih : Nat → IS} {Jh : Nat → JS} {IM : IS} {JM : JS} {O : Nat → Int64} {H : Heap} {locs : List Loc} {ls : Array Slot} {cells slots : Nat} {i : Int32} (hR : Rel pr I J Ih Jh IM JM O) (hW : lwS D s ca ad adh am pr I J Ih Jh IM JM O H locs) (hl : lv_has ls 8 (lvL b ad am i)) (hin : vp_in (i + 1) L ∧ vp_in (i + 2) L ∧ vp_in (i + 3) L ∧ vp_in (i + 4) L ∧ vp_in (i + 5) L) (hc : cells + 16 ≤ 601024) (hs : slots + 1900 ≤ 7293034) (kk : lwK Rel p l e s m below meth c b D ca ad am i cells slots Q) : W p l e room_1 s m #[Value.ref b] below meth c H locs cells slots Q (F0 m 279 ls []) := by
  obtain ⟨cx, hK, hN, hXF, hfl, hX, hbl⟩ := C0
  have hx := cx.1
  have hb := cx.2.1
  have hown := cx.2.2.2.1
  have hts := cx.2.2.2.2
  obtain ⟨hP, hD, hS⟩ := hW
  have hA : ∀ q, s.heap.size ≤ q → (fun q => s.heap.size ≤ q) q := fun q h => h
  have hbA : ¬ (fun q => s.heap.size ≤ q) b := fun h => absurd h (Nat.not_le.mpr hbl)
  obtain ⟨hin1, hin2, hin3, hin4, hin5⟩ := hin
  generalize ha1 : xs (i + 1).toNatClampNeg = a1
  generalize ha2 : xs (i + 2).toNatClampNeg = a2
  generalize ha3 : xs (i + 3).toNatClampNeg = a3
  generalize ha4 : xs (i + 4).toNatClampNeg = a4
  generalize ha5 : xs (i + 5).toNatClampNeg = a5
  by_cases hpz : ∃ h, h < 12 ∧ a1 = nI h ∧ pr h = true
  · obtain ⟨h, hh, hp0, hp⟩ := hpz
    obtain ⟨r, kI, kJ, nI, f1, f2, hR2⟩ := hok.1 pr I J Ih Jh IM JM O hR a1 a2 h hh hp0 hp
    refine lv_aload_n hx hb d_law_279 rfl (lv_at hl 1 rfl) ?_
    refine lv_aload_n hx hb d_law_280 rfl (lv_at hl 0 rfl) ?_
    refine lv_iload hx hb d_law_281 (lv_at hl 4 rfl) ?_
    refine lv_iconst (v := 1) hx hb d_law_283 (by decide) ?_
    refine lv_iadd hx hb d_law_284 ?_
    refine jd_sld hx hb hX hbl hbA hS hin1 ha1 d_law_285 ?_
    refine lv_aload_n hx hb d_law_286 rfl (lv_at hl 0 rfl) ?_
    refine lv_iload hx hb d_law_287 (lv_at hl 4 rfl) ?_
    refine lv_iconst (v := 2) hx hb d_law_289 (by decide) ?_
    refine lv_iadd hx hb d_law_290 ?_
    refine jd_sld hx hb hX hbl hbA hS hin2 ha2 d_law_291 ?_
    have hPc := jd_Pp (wL_C (O := O) hh hp) hP
    have hDc := jd_Dp (wL_C (O := O) hh hp) hD
    refine jd_fri (w1 := wC ca (adC ad (adh h)) (hsOf pr adh) kI kJ) hPc hDc hS hA rfl (va_runV (As := [.int a1, .int a2]) (rest := []) cx (cm_K_withdraw l D ca (adC ad (adh h)) (hsOf pr adh) (hs_some hh hp0 hp) f1 H.size) (cwV 2 hts (jd_gVL tb_184 tb_185 tb_186 tb_43 tb_187) rfl rfl rfl ⟨rfl, by decide, by decide, rfl⟩ ⟨Nat.le_of_ble_eq_true rfl, Nat.le_of_ble_eq_true rfl⟩) ⟨jd_blind nWc, va_recv hK (jd_Pl hPc) (ci := 3) (q0 := 15) rfl rfl, jd_pre (av := [.ref (adC ad (adh h) 15), .int a1, .int a2]) (jd_Pl hPc) hK (jd_Dl hDc) (fun U h => nWm h hN)⟩ rfl rfl hl.1 rfl (lv_room (Nat.le_of_ble_eq_true rfl)) d_law_292 ⟨(by show cells + 0 ≤ 601024; omega), (by show slots + 0 ≤ 7293034; omega)⟩) (fun H locs hP1 hD1 hS => ?_)
    have hP := jd_Pp (wL_C' hh hp) hP1
    have hD := jd_Dp (wL_C' hh hp) hD1
    refine lv_aload_n hx hb d_law_295 rfl (lv_at hl 2 rfl) ?_
    refine lv_aload_n hx hb d_law_296 rfl (lv_at hl 0 rfl) ?_
    refine lv_iload hx hb d_law_297 (lv_at hl 4 rfl) ?_
    refine lv_iconst (v := 1) hx hb d_law_299 (by decide) ?_
    refine lv_iadd hx hb d_law_300 ?_
    refine jd_sld hx hb hX hbl hbA hS hin1 ha1 d_law_301 ?_
    refine lv_aload_n hx hb d_law_302 rfl (lv_at hl 0 rfl) ?_
    refine lv_iload hx hb d_law_303 (lv_at hl 4 rfl) ?_
    refine lv_iconst (v := 2) hx hb d_law_305 (by decide) ?_
    refine lv_iadd hx hb d_law_306 ?_
    refine jd_sld hx hb hX hbl hbA hS hin2 ha2 d_law_307 ?_
    have hPm := jd_Pp (wL_M (O := O)) hP
    have hDm := jd_Dp (wL_M (O := O)) hD
    refine jd_fri (w1 := wM ca am nI JM) hPm hDm hS hA rfl (va_runV (As := [.int a1, .int a2]) (rest := [.int r]) cx (cm_M_withdraw l D ca am f2 H.size) (cwV 2 hts (jd_gVL tb_704 tb_705 tb_706 tb_47 tb_707) rfl rfl rfl ⟨rfl, by decide, by decide, rfl⟩ ⟨Nat.le_of_ble_eq_true rfl, Nat.le_of_ble_eq_true rfl⟩) ⟨jd_blind nWc, va_recv hK (jd_Pl hPm) (ci := 6) (q0 := 0) rfl rfl, jd_pre (av := [.ref (am 0), .int a1, .int a2]) (jd_Pl hPm) hK (jd_Dl hDm) (fun U h => nWm h hN)⟩ rfl rfl hl.1 rfl (lv_room (Nat.le_of_ble_eq_true rfl)) d_law_308 ⟨(by show cells + 0 ≤ 601024; omega), (by show slots + 0 ≤ 7293034; omega)⟩) (fun H locs hP1 hD1 hS => ?_)
    have hP := jd_Pp (wL_M (IM := nI) (JM := JM) (O := O)).symm hP1
    have hD := jd_Dp (wL_M (IM := nI) (JM := JM) (O := O)).symm hD1
    refine lv_icmp_eq (tgt := 1175) hx hb d_law_311 rfl (fun _ => ?_) (fun h => absurd rfl h)
    exact kk adh pr kI kJ (upN Ih h kI) (upN Jh h kJ) nI JM O H locs ls cells slots hR2 ⟨hP, hD, hS⟩ hl (by omega) (by omega)
  · have hp : ∀ h, h < 12 → a1 = nI h → pr h = false := fun h h1 h2 => by cases hq : pr h with | false => rfl | true => exact absurd ⟨h, h1, h2, hq⟩ hpz
    obtain ⟨r, nI, f1, f2, hR2⟩ := hok.2 pr I J Ih Jh IM JM O hR a1 a2 hp
    refine lv_aload_n hx hb d_law_279 rfl (lv_at hl 1 rfl) ?_
    refine lv_aload_n hx hb d_law_280 rfl (lv_at hl 0 rfl) ?_
    refine lv_iload hx hb d_law_281 (lv_at hl 4 rfl) ?_
    refine lv_iconst (v := 1) hx hb d_law_283 (by decide) ?_
    refine lv_iadd hx hb d_law_284 ?_
    refine jd_sld hx hb hX hbl hbA hS hin1 ha1 d_law_285 ?_
    refine lv_aload_n hx hb d_law_286 rfl (lv_at hl 0 rfl) ?_
    refine lv_iload hx hb d_law_287 (lv_at hl 4 rfl) ?_
    refine lv_iconst (v := 2) hx hb d_law_289 (by decide) ?_
    refine lv_iadd hx hb d_law_290 ?_
    refine jd_sld hx hb hX hbl hbA hS hin2 ha2 d_law_291 ?_
    have hPc := hP
    have hDc := hD
    unfold wL at hPc hDc
    refine jd_fri (w1 := wD ca ad (hsOf pr adh) I J) hPc hDc hS hA rfl (va_runV (As := [.int a1, .int a2]) (rest := []) cx (cm_K_withdraw_n l D ca ad (hsOf pr adh) (hs_none hp) f1 H.size) (cwV 2 hts (jd_gVL tb_184 tb_185 tb_186 tb_43 tb_187) rfl rfl rfl ⟨rfl, by decide, by decide, rfl⟩ ⟨Nat.le_of_ble_eq_true rfl, Nat.le_of_ble_eq_true rfl⟩) ⟨jd_blind nWc, va_recv hK (jd_Pl hPc) (ci := 3) (q0 := 0) rfl rfl, jd_pre (av := [.ref (ad 15), .int a1, .int a2]) (jd_Pl hPc) hK (jd_Dl hDc) (fun U h => nWm h hN)⟩ rfl rfl hl.1 rfl (lv_room (Nat.le_of_ble_eq_true rfl)) d_law_292 ⟨(by show cells + 0 ≤ 601024; omega), (by show slots + 0 ≤ 7293034; omega)⟩) (fun H locs hP1 hD1 hS => ?_)
    have hP : va_P D cls_all (wL ca ad adh am pr I J Ih Jh IM JM O) H := hP1
    have hD : va_D _ (wL ca ad adh am pr I J Ih Jh IM JM O) := hD1
    refine lv_aload_n hx hb d_law_295 rfl (lv_at hl 2 rfl) ?_
    refine lv_aload_n hx hb d_law_296 rfl (lv_at hl 0 rfl) ?_
    refine lv_iload hx hb d_law_297 (lv_at hl 4 rfl) ?_
    refine lv_iconst (v := 1) hx hb d_law_299 (by decide) ?_
    refine lv_iadd hx hb d_law_300 ?_
    refine jd_sld hx hb hX hbl hbA hS hin1 ha1 d_law_301 ?_
    refine lv_aload_n hx hb d_law_302 rfl (lv_at hl 0 rfl) ?_
    refine lv_iload hx hb d_law_303 (lv_at hl 4 rfl) ?_
    refine lv_iconst (v := 2) hx hb d_law_305 (by decide) ?_
    refine lv_iadd hx hb d_law_306 ?_
    refine jd_sld hx hb hX hbl hbA hS hin2 ha2 d_law_307 ?_
    have hPm := jd_Pp (wL_M (O := O)) hP
    have hDm := jd_Dp (wL_M (O := O)) hD
    refine jd_fri (w1 := wM ca am nI JM) hPm hDm hS hA rfl (va_runV (As := [.int a1, .int a2]) (rest := [.int r]) cx (cm_M_withdraw l D ca am f2 H.size) (cwV 2 hts (jd_gVL tb_704 tb_705 tb_706 tb_47 tb_707) rfl rfl rfl ⟨rfl, by decide, by decide, rfl⟩ ⟨Nat.le_of_ble_eq_true rfl, Nat.le_of_ble_eq_true rfl⟩) ⟨jd_blind nWc, va_recv hK (jd_Pl hPm) (ci := 6) (q0 := 0) rfl rfl, jd_pre (av := [.ref (am 0), .int a1, .int a2]) (jd_Pl hPm) hK (jd_Dl hDm) (fun U h => nWm h hN)⟩ rfl rfl hl.1 rfl (lv_room (Nat.le_of_ble_eq_true rfl)) d_law_308 ⟨(by show cells + 0 ≤ 601024; omega), (by show slots + 0 ≤ 7293034; omega)⟩) (fun H locs hP1 hD1 hS => ?_)
    have hP := jd_Pp (wL_M (IM := nI) (JM := JM) (O := O)).symm hP1
    have hD := jd_Dp (wL_M (IM := nI) (JM := JM) (O := O)).symm hD1
    refine lv_icmp_eq (tgt := 1175) hx hb d_law_311 rfl (fun _ => ?_) (fun h => absurd rfl h)
    exact kk adh pr I J Ih Jh nI JM O H locs ls cells slots hR2 ⟨hP, hD, hS⟩ hl (by omega) (by omega)
def Ok_scratch (Rel : (Nat → Bool) → IS → JS → (Nat → IS) → (Nat → JS) → IS → JS → (Nat → Int64) → Prop) : Prop := (∀ (pr : Nat → Bool) (I : IS) (J : JS) (Ih : Nat → IS) (Jh : Nat → JS) (IM : IS) (JM : JS) (O : Nat → Int64), Rel pr I J Ih Jh IM JM O → ∀ (p0 : Int32) (p1 : Int32) (h : Nat), h < 12 → p0 = nI h → pr h = true → ∃ (r : Int32), ∃ (kI : IS), ∃ (kJ : JS), ∃ (nI : IS), fm_K_scratch p0 p1 (mI (Ih h) I) (mJ (Jh h) J) = some (r, kI, kJ) ∧ fm_M_scratch p0 p1 IM = some (r, nI) ∧ Rel pr kI kJ (upN Ih h kI) (upN Jh h kJ) nI JM O) ∧ (∀ (pr : Nat → Bool) (I : IS) (J : JS) (Ih : Nat → IS) (Jh : Nat → JS) (IM : IS) (JM : JS) (O : Nat → Int64), Rel pr I J Ih Jh IM JM O → ∀ (p0 : Int32) (p1 : Int32) , (∀ h, h < 12 → p0 = nI h → pr h = false) → ∃ (r : Int32), ∃ (nI : IS), fm_K_scratch_n p0 p1 = some r ∧ fm_M_scratch p0 p1 IM = some (r, nI) ∧ Rel pr I J Ih Jh nI JM O)
set_option maxHeartbeats 4000000 in
set_option maxRecDepth 100000 in
theorem law_scratch {Rel : (Nat → Bool) → IS → JS → (Nat → IS) → (Nat → JS) → IS → JS → (Nat → Int64) → Prop} (hok : Ok_scratch Rel) {p : Program} {l : Launch} {e : Env} {s : State} {m : MethodId} {below : List Frame} {meth : Method} {c : Code} {b L : Nat} {xs : Nat → Int32} {D : va_G} {ca : Nat → ClassId} {Q : State → Prop} (C0 : lwC p l s m meth c b L xs D ca) {ad : Nat → Nat} {adh : Nat → Nat → Nat} {am : Nat → Nat} {pr : Nat → Bool} {I : IS} {J : JS} {Ih : Nat → IS} {Jh : Nat → JS} {IM : IS} {JM : JS} {O : Nat → Int64} {H : Heap} {locs : List Loc} {ls : Array Slot} {cells slots : Nat} {i : Int32} (hR : Rel pr I J Ih Jh IM JM O) (hW : lwS D s ca ad adh am pr I J Ih Jh IM JM O H locs) (hl : lv_has ls 8 (lvL b ad am i)) (hin : vp_in (i + 1) L ∧ vp_in (i + 2) L ∧ vp_in (i + 3) L ∧ vp_in (i + 4) L ∧ vp_in (i + 5) L) (hc : cells + 16 ≤ 601024) (hs : slots + 1900 ≤ 7293034) (kk : lwK Rel p l e s m below meth c b D ca ad am i cells slots Q) : W p l e room_1 s m #[Value.ref b] below meth c H locs cells slots Q (F0 m 316 ls []) := by
  obtain ⟨cx, hK, hN, hXF, hfl, hX, hbl⟩ := C0
  have hx := cx.1
  have hb := cx.2.1
  have hown := cx.2.2.2.1
  have hts := cx.2.2.2.2
  obtain ⟨hP, hD, hS⟩ := hW
  have hA : ∀ q, s.heap.size ≤ q → (fun q => s.heap.size ≤ q) q := fun q h => h
  have hbA : ¬ (fun q => s.heap.size ≤ q) b := fun h => absurd h (Nat.not_le.mpr hbl)
  obtain ⟨hin1, hin2, hin3, hin4, hin5⟩ := hin
  generalize ha1 : xs (i + 1).toNatClampNeg = a1
  generalize ha2 : xs (i + 2).toNatClampNeg = a2
  generalize ha3 : xs (i + 3).toNatClampNeg = a3
  generalize ha4 : xs (i + 4).toNatClampNeg = a4
  generalize ha5 : xs (i + 5).toNatClampNeg = a5
  by_cases hpz : ∃ h, h < 12 ∧ a1 = nI h ∧ pr h = true
  · obtain ⟨h, hh, hp0, hp⟩ := hpz
    obtain ⟨r, kI, kJ, nI, f1, f2, hR2⟩ := hok.1 pr I J Ih Jh IM JM O hR a1 a2 h hh hp0 hp
    refine lv_aload_n hx hb d_law_316 rfl (lv_at hl 1 rfl) ?_
    refine lv_aload_n hx hb d_law_317 rfl (lv_at hl 0 rfl) ?_
    refine lv_iload hx hb d_law_318 (lv_at hl 4 rfl) ?_
    refine lv_iconst (v := 1) hx hb d_law_320 (by decide) ?_
    refine lv_iadd hx hb d_law_321 ?_
    refine jd_sld hx hb hX hbl hbA hS hin1 ha1 d_law_322 ?_
    refine lv_aload_n hx hb d_law_323 rfl (lv_at hl 0 rfl) ?_
    refine lv_iload hx hb d_law_324 (lv_at hl 4 rfl) ?_
    refine lv_iconst (v := 2) hx hb d_law_326 (by decide) ?_
    refine lv_iadd hx hb d_law_327 ?_
    refine jd_sld hx hb hX hbl hbA hS hin2 ha2 d_law_328 ?_
    have hPc := jd_Pp (wL_C (O := O) hh hp) hP
    have hDc := jd_Dp (wL_C (O := O) hh hp) hD
    refine jd_fri (w1 := wC ca (adC ad (adh h)) (hsOf pr adh) kI kJ) hPc hDc hS hA rfl (va_runV (As := [.int a1, .int a2]) (rest := []) cx (cm_K_scratch l D ca (adC ad (adh h)) (hsOf pr adh) (hs_some hh hp0 hp) f1 H.size) (cwV 2 hts (jd_gVL tb_192 tb_193 tb_194 tb_43 tb_195) rfl rfl rfl ⟨rfl, by decide, by decide, rfl⟩ ⟨Nat.le_of_ble_eq_true rfl, Nat.le_of_ble_eq_true rfl⟩) ⟨jd_blind nWc, va_recv hK (jd_Pl hPc) (ci := 3) (q0 := 15) rfl rfl, jd_pre (av := [.ref (adC ad (adh h) 15), .int a1, .int a2]) (jd_Pl hPc) hK (jd_Dl hDc) (fun U h => nWm h hN)⟩ rfl rfl hl.1 rfl (lv_room (Nat.le_of_ble_eq_true rfl)) d_law_329 ⟨(by show cells + 0 ≤ 601024; omega), (by show slots + 0 ≤ 7293034; omega)⟩) (fun H locs hP1 hD1 hS => ?_)
    have hP := jd_Pp (wL_C' hh hp) hP1
    have hD := jd_Dp (wL_C' hh hp) hD1
    refine lv_aload_n hx hb d_law_332 rfl (lv_at hl 2 rfl) ?_
    refine lv_aload_n hx hb d_law_333 rfl (lv_at hl 0 rfl) ?_
    refine lv_iload hx hb d_law_334 (lv_at hl 4 rfl) ?_
    refine lv_iconst (v := 1) hx hb d_law_336 (by decide) ?_
    refine lv_iadd hx hb d_law_337 ?_
    refine jd_sld hx hb hX hbl hbA hS hin1 ha1 d_law_338 ?_
    refine lv_aload_n hx hb d_law_339 rfl (lv_at hl 0 rfl) ?_
    refine lv_iload hx hb d_law_340 (lv_at hl 4 rfl) ?_
    refine lv_iconst (v := 2) hx hb d_law_342 (by decide) ?_
    refine lv_iadd hx hb d_law_343 ?_
    refine jd_sld hx hb hX hbl hbA hS hin2 ha2 d_law_344 ?_
    have hPm := jd_Pp (wL_M (O := O)) hP
    have hDm := jd_Dp (wL_M (O := O)) hD
    refine jd_fri (w1 := wM ca am nI JM) hPm hDm hS hA rfl (va_runV (As := [.int a1, .int a2]) (rest := [.int r]) cx (cm_M_scratch l D ca am f2 H.size) (cwV 2 hts (jd_gVL tb_711 tb_712 tb_713 tb_47 tb_714) rfl rfl rfl ⟨rfl, by decide, by decide, rfl⟩ ⟨Nat.le_of_ble_eq_true rfl, Nat.le_of_ble_eq_true rfl⟩) ⟨jd_blind nWc, va_recv hK (jd_Pl hPm) (ci := 6) (q0 := 0) rfl rfl, jd_pre (av := [.ref (am 0), .int a1, .int a2]) (jd_Pl hPm) hK (jd_Dl hDm) (fun U h => nWm h hN)⟩ rfl rfl hl.1 rfl (lv_room (Nat.le_of_ble_eq_true rfl)) d_law_345 ⟨(by show cells + 0 ≤ 601024; omega), (by show slots + 0 ≤ 7293034; omega)⟩) (fun H locs hP1 hD1 hS => ?_)
    have hP := jd_Pp (wL_M (IM := nI) (JM := JM) (O := O)).symm hP1
    have hD := jd_Dp (wL_M (IM := nI) (JM := JM) (O := O)).symm hD1
    refine lv_icmp_eq (tgt := 1175) hx hb d_law_348 rfl (fun _ => ?_) (fun h => absurd rfl h)
    exact kk adh pr kI kJ (upN Ih h kI) (upN Jh h kJ) nI JM O H locs ls cells slots hR2 ⟨hP, hD, hS⟩ hl (by omega) (by omega)
  · have hp : ∀ h, h < 12 → a1 = nI h → pr h = false := fun h h1 h2 => by cases hq : pr h with | false => rfl | true => exact absurd ⟨h, h1, h2, hq⟩ hpz
    obtain ⟨r, nI, f1, f2, hR2⟩ := hok.2 pr I J Ih Jh IM JM O hR a1 a2 hp
    refine lv_aload_n hx hb d_law_316 rfl (lv_at hl 1 rfl) ?_
    refine lv_aload_n hx hb d_law_317 rfl (lv_at hl 0 rfl) ?_
    refine lv_iload hx hb d_law_318 (lv_at hl 4 rfl) ?_
    refine lv_iconst (v := 1) hx hb d_law_320 (by decide) ?_
    refine lv_iadd hx hb d_law_321 ?_
    refine jd_sld hx hb hX hbl hbA hS hin1 ha1 d_law_322 ?_
    refine lv_aload_n hx hb d_law_323 rfl (lv_at hl 0 rfl) ?_
    refine lv_iload hx hb d_law_324 (lv_at hl 4 rfl) ?_
    refine lv_iconst (v := 2) hx hb d_law_326 (by decide) ?_
    refine lv_iadd hx hb d_law_327 ?_
    refine jd_sld hx hb hX hbl hbA hS hin2 ha2 d_law_328 ?_
    have hPc := hP
    have hDc := hD
    unfold wL at hPc hDc
    refine jd_fri (w1 := wD ca ad (hsOf pr adh) I J) hPc hDc hS hA rfl (va_runV (As := [.int a1, .int a2]) (rest := []) cx (cm_K_scratch_n l D ca ad (hsOf pr adh) (hs_none hp) f1 H.size) (cwV 2 hts (jd_gVL tb_192 tb_193 tb_194 tb_43 tb_195) rfl rfl rfl ⟨rfl, by decide, by decide, rfl⟩ ⟨Nat.le_of_ble_eq_true rfl, Nat.le_of_ble_eq_true rfl⟩) ⟨jd_blind nWc, va_recv hK (jd_Pl hPc) (ci := 3) (q0 := 0) rfl rfl, jd_pre (av := [.ref (ad 15), .int a1, .int a2]) (jd_Pl hPc) hK (jd_Dl hDc) (fun U h => nWm h hN)⟩ rfl rfl hl.1 rfl (lv_room (Nat.le_of_ble_eq_true rfl)) d_law_329 ⟨(by show cells + 0 ≤ 601024; omega), (by show slots + 0 ≤ 7293034; omega)⟩) (fun H locs hP1 hD1 hS => ?_)
    have hP : va_P D cls_all (wL ca ad adh am pr I J Ih Jh IM JM O) H := hP1
    have hD : va_D _ (wL ca ad adh am pr I J Ih Jh IM JM O) := hD1
    refine lv_aload_n hx hb d_law_332 rfl (lv_at hl 2 rfl) ?_
    refine lv_aload_n hx hb d_law_333 rfl (lv_at hl 0 rfl) ?_
    refine lv_iload hx hb d_law_334 (lv_at hl 4 rfl) ?_
    refine lv_iconst (v := 1) hx hb d_law_336 (by decide) ?_
    refine lv_iadd hx hb d_law_337 ?_
    refine jd_sld hx hb hX hbl hbA hS hin1 ha1 d_law_338 ?_
    refine lv_aload_n hx hb d_law_339 rfl (lv_at hl 0 rfl) ?_
    refine lv_iload hx hb d_law_340 (lv_at hl 4 rfl) ?_
    refine lv_iconst (v := 2) hx hb d_law_342 (by decide) ?_
    refine lv_iadd hx hb d_law_343 ?_
    refine jd_sld hx hb hX hbl hbA hS hin2 ha2 d_law_344 ?_
    have hPm := jd_Pp (wL_M (O := O)) hP
    have hDm := jd_Dp (wL_M (O := O)) hD
    refine jd_fri (w1 := wM ca am nI JM) hPm hDm hS hA rfl (va_runV (As := [.int a1, .int a2]) (rest := [.int r]) cx (cm_M_scratch l D ca am f2 H.size) (cwV 2 hts (jd_gVL tb_711 tb_712 tb_713 tb_47 tb_714) rfl rfl rfl ⟨rfl, by decide, by decide, rfl⟩ ⟨Nat.le_of_ble_eq_true rfl, Nat.le_of_ble_eq_true rfl⟩) ⟨jd_blind nWc, va_recv hK (jd_Pl hPm) (ci := 6) (q0 := 0) rfl rfl, jd_pre (av := [.ref (am 0), .int a1, .int a2]) (jd_Pl hPm) hK (jd_Dl hDm) (fun U h => nWm h hN)⟩ rfl rfl hl.1 rfl (lv_room (Nat.le_of_ble_eq_true rfl)) d_law_345 ⟨(by show cells + 0 ≤ 601024; omega), (by show slots + 0 ≤ 7293034; omega)⟩) (fun H locs hP1 hD1 hS => ?_)
    have hP := jd_Pp (wL_M (IM := nI) (JM := JM) (O := O)).symm hP1
    have hD := jd_Dp (wL_M (IM := nI) (JM := JM) (O := O)).symm hD1
    refine lv_icmp_eq (tgt := 1175) hx hb d_law_348 rfl (fun _ => ?_) (fun h => absurd rfl h)
    exact kk adh pr I J Ih Jh nI JM O H locs ls cells slots hR2 ⟨hP, hD, hS⟩ hl (by omega) (by omega)
def Ok_settled (Rel : (Nat → Bool) → IS → JS → (Nat → IS) → (Nat → JS) → IS → JS → (Nat → Int64) → Prop) : Prop := (∀ (pr : Nat → Bool) (I : IS) (J : JS) (Ih : Nat → IS) (Jh : Nat → JS) (IM : IS) (JM : JS) (O : Nat → Int64), Rel pr I J Ih Jh IM JM O → ∀ (p0 : Int32) (p1 : Int32) (p2 : Int32) (h : Nat), h < 12 → p0 = nI h → pr h = true → ∃ (r : Int32), ∃ (nI : IS), fm_K_settled p0 p1 p2 (mI (Ih h) I) = some r ∧ fm_M_settled p0 p1 p2 IM = some (r, nI) ∧ Rel pr (mI (Ih h) I) (mJ (Jh h) J) (upN Ih h (mI (Ih h) I)) (upN Jh h (mJ (Jh h) J)) nI JM O) ∧ (∀ (pr : Nat → Bool) (I : IS) (J : JS) (Ih : Nat → IS) (Jh : Nat → JS) (IM : IS) (JM : JS) (O : Nat → Int64), Rel pr I J Ih Jh IM JM O → ∀ (p0 : Int32) (p1 : Int32) (p2 : Int32) , (∀ h, h < 12 → p0 = nI h → pr h = false) → ∃ (r : Int32), ∃ (nI : IS), fm_K_settled_n p0 p1 p2 = some r ∧ fm_M_settled p0 p1 p2 IM = some (r, nI) ∧ Rel pr I J Ih Jh nI JM O)
set_option maxHeartbeats 4000000 in
set_option maxRecDepth 100000 in
theorem law_settled {Rel : (Nat → Bool) → IS → JS → (Nat → IS) → (Nat → JS) → IS → JS → (Nat → Int64) → Prop} (hok : Ok_settled Rel) {p : Program} {l : Launch} {e : Env} {s : State} {m : MethodId} {below : List Frame} {meth : Method} {c : Code} {b L : Nat} {xs : Nat → Int32} {D : va_G} {ca : Nat → ClassId} {Q : State → Prop} (C0 : lwC p l s m meth c b L xs D ca) {ad : Nat → Nat} {adh : Nat → Nat → Nat} {am : Nat → Nat} {pr : Nat → Bool} {I : IS} {J : JS} {Ih : Nat → IS} {Jh : Nat → JS} {IM : IS} {JM : JS} {O : Nat → Int64} {H : Heap} {locs : List Loc} {ls : Array Slot} {cells slots : Nat} {i : Int32} (hR : Rel pr I J Ih Jh IM JM O) (hW : lwS D s ca ad adh am pr I J Ih Jh IM JM O H locs) (hl : lv_has ls 8 (lvL b ad am i)) (hin : vp_in (i + 1) L ∧ vp_in (i + 2) L ∧ vp_in (i + 3) L ∧ vp_in (i + 4) L ∧ vp_in (i + 5) L) (hc : cells + 16 ≤ 601024) (hs : slots + 1900 ≤ 7293034) (kk : lwK Rel p l e s m below meth c b D ca ad am i cells slots Q) : W p l e room_1 s m #[Value.ref b] below meth c H locs cells slots Q (F0 m 353 ls []) := by
  obtain ⟨cx, hK, hN, hXF, hfl, hX, hbl⟩ := C0
  have hx := cx.1
  have hb := cx.2.1
  have hown := cx.2.2.2.1
  have hts := cx.2.2.2.2
  obtain ⟨hP, hD, hS⟩ := hW
  have hA : ∀ q, s.heap.size ≤ q → (fun q => s.heap.size ≤ q) q := fun q h => h
  have hbA : ¬ (fun q => s.heap.size ≤ q) b := fun h => absurd h (Nat.not_le.mpr hbl)
  obtain ⟨hin1, hin2, hin3, hin4, hin5⟩ := hin
  generalize ha1 : xs (i + 1).toNatClampNeg = a1
  generalize ha2 : xs (i + 2).toNatClampNeg = a2
  generalize ha3 : xs (i + 3).toNatClampNeg = a3
  generalize ha4 : xs (i + 4).toNatClampNeg = a4
  generalize ha5 : xs (i + 5).toNatClampNeg = a5
  by_cases hpz : ∃ h, h < 12 ∧ a1 = nI h ∧ pr h = true
  · obtain ⟨h, hh, hp0, hp⟩ := hpz
    obtain ⟨r, nI, f1, f2, hR2⟩ := hok.1 pr I J Ih Jh IM JM O hR a1 a2 a3 h hh hp0 hp
    refine lv_aload_n hx hb d_law_353 rfl (lv_at hl 1 rfl) ?_
    refine lv_aload_n hx hb d_law_354 rfl (lv_at hl 0 rfl) ?_
    refine lv_iload hx hb d_law_355 (lv_at hl 4 rfl) ?_
    refine lv_iconst (v := 1) hx hb d_law_357 (by decide) ?_
    refine lv_iadd hx hb d_law_358 ?_
    refine jd_sld hx hb hX hbl hbA hS hin1 ha1 d_law_359 ?_
    refine lv_aload_n hx hb d_law_360 rfl (lv_at hl 0 rfl) ?_
    refine lv_iload hx hb d_law_361 (lv_at hl 4 rfl) ?_
    refine lv_iconst (v := 2) hx hb d_law_363 (by decide) ?_
    refine lv_iadd hx hb d_law_364 ?_
    refine jd_sld hx hb hX hbl hbA hS hin2 ha2 d_law_365 ?_
    refine lv_aload_n hx hb d_law_366 rfl (lv_at hl 0 rfl) ?_
    refine lv_iload hx hb d_law_367 (lv_at hl 4 rfl) ?_
    refine lv_iconst (v := 3) hx hb d_law_369 (by decide) ?_
    refine lv_iadd hx hb d_law_370 ?_
    refine jd_sld hx hb hX hbl hbA hS hin3 ha3 d_law_371 ?_
    have hPc := jd_Pp (wL_C (O := O) hh hp) hP
    have hDc := jd_Dp (wL_C (O := O) hh hp) hD
    refine jd_fri (w1 := wC ca (adC ad (adh h)) (hsOf pr adh) (mI (Ih h) I) (mJ (Jh h) J)) hPc hDc hS hA rfl (va_runV (As := [.int a1, .int a2, .int a3]) (rest := []) cx (cm_K_settled l D ca (adC ad (adh h)) (hsOf pr adh) (hs_some hh hp0 hp) f1 H.size) (cwV 3 hts (jd_gVL tb_210 tb_211 tb_212 tb_43 tb_213) rfl rfl rfl ⟨rfl, by decide, by decide, rfl⟩ ⟨Nat.le_of_ble_eq_true rfl, Nat.le_of_ble_eq_true rfl⟩) ⟨jd_blind nWc, va_recv hK (jd_Pl hPc) (ci := 3) (q0 := 15) rfl rfl, jd_pre (av := [.ref (adC ad (adh h) 15), .int a1, .int a2, .int a3]) (jd_Pl hPc) hK (jd_Dl hDc) (fun U h => nWm h hN)⟩ rfl rfl hl.1 rfl (lv_room (Nat.le_of_ble_eq_true rfl)) d_law_372 ⟨(by show cells + 0 ≤ 601024; omega), (by show slots + 0 ≤ 7293034; omega)⟩) (fun H locs hP1 hD1 hS => ?_)
    have hP := jd_Pp (wL_C' hh hp) hP1
    have hD := jd_Dp (wL_C' hh hp) hD1
    refine lv_aload_n hx hb d_law_375 rfl (lv_at hl 2 rfl) ?_
    refine lv_aload_n hx hb d_law_376 rfl (lv_at hl 0 rfl) ?_
    refine lv_iload hx hb d_law_377 (lv_at hl 4 rfl) ?_
    refine lv_iconst (v := 1) hx hb d_law_379 (by decide) ?_
    refine lv_iadd hx hb d_law_380 ?_
    refine jd_sld hx hb hX hbl hbA hS hin1 ha1 d_law_381 ?_
    refine lv_aload_n hx hb d_law_382 rfl (lv_at hl 0 rfl) ?_
    refine lv_iload hx hb d_law_383 (lv_at hl 4 rfl) ?_
    refine lv_iconst (v := 2) hx hb d_law_385 (by decide) ?_
    refine lv_iadd hx hb d_law_386 ?_
    refine jd_sld hx hb hX hbl hbA hS hin2 ha2 d_law_387 ?_
    refine lv_aload_n hx hb d_law_388 rfl (lv_at hl 0 rfl) ?_
    refine lv_iload hx hb d_law_389 (lv_at hl 4 rfl) ?_
    refine lv_iconst (v := 3) hx hb d_law_391 (by decide) ?_
    refine lv_iadd hx hb d_law_392 ?_
    refine jd_sld hx hb hX hbl hbA hS hin3 ha3 d_law_393 ?_
    have hPm := jd_Pp (wL_M (O := O)) hP
    have hDm := jd_Dp (wL_M (O := O)) hD
    refine jd_fri (w1 := wM ca am nI JM) hPm hDm hS hA rfl (va_runV (As := [.int a1, .int a2, .int a3]) (rest := [.int r]) cx (cm_M_settled l D ca am f2 H.size) (cwV 3 hts (jd_gVL tb_718 tb_719 tb_720 tb_47 tb_721) rfl rfl rfl ⟨rfl, by decide, by decide, rfl⟩ ⟨Nat.le_of_ble_eq_true rfl, Nat.le_of_ble_eq_true rfl⟩) ⟨jd_blind nWc, va_recv hK (jd_Pl hPm) (ci := 6) (q0 := 0) rfl rfl, jd_pre (av := [.ref (am 0), .int a1, .int a2, .int a3]) (jd_Pl hPm) hK (jd_Dl hDm) (fun U h => nWm h hN)⟩ rfl rfl hl.1 rfl (lv_room (Nat.le_of_ble_eq_true rfl)) d_law_394 ⟨(by show cells + 0 ≤ 601024; omega), (by show slots + 0 ≤ 7293034; omega)⟩) (fun H locs hP1 hD1 hS => ?_)
    have hP := jd_Pp (wL_M (IM := nI) (JM := JM) (O := O)).symm hP1
    have hD := jd_Dp (wL_M (IM := nI) (JM := JM) (O := O)).symm hD1
    refine lv_icmp_eq (tgt := 1175) hx hb d_law_397 rfl (fun _ => ?_) (fun h => absurd rfl h)
    exact kk adh pr (mI (Ih h) I) (mJ (Jh h) J) (upN Ih h (mI (Ih h) I)) (upN Jh h (mJ (Jh h) J)) nI JM O H locs ls cells slots hR2 ⟨hP, hD, hS⟩ hl (by omega) (by omega)
  · have hp : ∀ h, h < 12 → a1 = nI h → pr h = false := fun h h1 h2 => by cases hq : pr h with | false => rfl | true => exact absurd ⟨h, h1, h2, hq⟩ hpz
    obtain ⟨r, nI, f1, f2, hR2⟩ := hok.2 pr I J Ih Jh IM JM O hR a1 a2 a3 hp
    refine lv_aload_n hx hb d_law_353 rfl (lv_at hl 1 rfl) ?_
    refine lv_aload_n hx hb d_law_354 rfl (lv_at hl 0 rfl) ?_
    refine lv_iload hx hb d_law_355 (lv_at hl 4 rfl) ?_
    refine lv_iconst (v := 1) hx hb d_law_357 (by decide) ?_
    refine lv_iadd hx hb d_law_358 ?_
    refine jd_sld hx hb hX hbl hbA hS hin1 ha1 d_law_359 ?_
    refine lv_aload_n hx hb d_law_360 rfl (lv_at hl 0 rfl) ?_
    refine lv_iload hx hb d_law_361 (lv_at hl 4 rfl) ?_
    refine lv_iconst (v := 2) hx hb d_law_363 (by decide) ?_
    refine lv_iadd hx hb d_law_364 ?_
    refine jd_sld hx hb hX hbl hbA hS hin2 ha2 d_law_365 ?_
    refine lv_aload_n hx hb d_law_366 rfl (lv_at hl 0 rfl) ?_
    refine lv_iload hx hb d_law_367 (lv_at hl 4 rfl) ?_
    refine lv_iconst (v := 3) hx hb d_law_369 (by decide) ?_
    refine lv_iadd hx hb d_law_370 ?_
    refine jd_sld hx hb hX hbl hbA hS hin3 ha3 d_law_371 ?_
    have hPc := hP
    have hDc := hD
    unfold wL at hPc hDc
    refine jd_fri (w1 := wD ca ad (hsOf pr adh) I J) hPc hDc hS hA rfl (va_runV (As := [.int a1, .int a2, .int a3]) (rest := []) cx (cm_K_settled_n l D ca ad (hsOf pr adh) (hs_none hp) f1 H.size) (cwV 3 hts (jd_gVL tb_210 tb_211 tb_212 tb_43 tb_213) rfl rfl rfl ⟨rfl, by decide, by decide, rfl⟩ ⟨Nat.le_of_ble_eq_true rfl, Nat.le_of_ble_eq_true rfl⟩) ⟨jd_blind nWc, va_recv hK (jd_Pl hPc) (ci := 3) (q0 := 0) rfl rfl, jd_pre (av := [.ref (ad 15), .int a1, .int a2, .int a3]) (jd_Pl hPc) hK (jd_Dl hDc) (fun U h => nWm h hN)⟩ rfl rfl hl.1 rfl (lv_room (Nat.le_of_ble_eq_true rfl)) d_law_372 ⟨(by show cells + 0 ≤ 601024; omega), (by show slots + 0 ≤ 7293034; omega)⟩) (fun H locs hP1 hD1 hS => ?_)
    have hP : va_P D cls_all (wL ca ad adh am pr I J Ih Jh IM JM O) H := hP1
    have hD : va_D _ (wL ca ad adh am pr I J Ih Jh IM JM O) := hD1
    refine lv_aload_n hx hb d_law_375 rfl (lv_at hl 2 rfl) ?_
    refine lv_aload_n hx hb d_law_376 rfl (lv_at hl 0 rfl) ?_
    refine lv_iload hx hb d_law_377 (lv_at hl 4 rfl) ?_
    refine lv_iconst (v := 1) hx hb d_law_379 (by decide) ?_
    refine lv_iadd hx hb d_law_380 ?_
    refine jd_sld hx hb hX hbl hbA hS hin1 ha1 d_law_381 ?_
    refine lv_aload_n hx hb d_law_382 rfl (lv_at hl 0 rfl) ?_
    refine lv_iload hx hb d_law_383 (lv_at hl 4 rfl) ?_
    refine lv_iconst (v := 2) hx hb d_law_385 (by decide) ?_
    refine lv_iadd hx hb d_law_386 ?_
    refine jd_sld hx hb hX hbl hbA hS hin2 ha2 d_law_387 ?_
    refine lv_aload_n hx hb d_law_388 rfl (lv_at hl 0 rfl) ?_
    refine lv_iload hx hb d_law_389 (lv_at hl 4 rfl) ?_
    refine lv_iconst (v := 3) hx hb d_law_391 (by decide) ?_
    refine lv_iadd hx hb d_law_392 ?_
    refine jd_sld hx hb hX hbl hbA hS hin3 ha3 d_law_393 ?_
    have hPm := jd_Pp (wL_M (O := O)) hP
    have hDm := jd_Dp (wL_M (O := O)) hD
    refine jd_fri (w1 := wM ca am nI JM) hPm hDm hS hA rfl (va_runV (As := [.int a1, .int a2, .int a3]) (rest := [.int r]) cx (cm_M_settled l D ca am f2 H.size) (cwV 3 hts (jd_gVL tb_718 tb_719 tb_720 tb_47 tb_721) rfl rfl rfl ⟨rfl, by decide, by decide, rfl⟩ ⟨Nat.le_of_ble_eq_true rfl, Nat.le_of_ble_eq_true rfl⟩) ⟨jd_blind nWc, va_recv hK (jd_Pl hPm) (ci := 6) (q0 := 0) rfl rfl, jd_pre (av := [.ref (am 0), .int a1, .int a2, .int a3]) (jd_Pl hPm) hK (jd_Dl hDm) (fun U h => nWm h hN)⟩ rfl rfl hl.1 rfl (lv_room (Nat.le_of_ble_eq_true rfl)) d_law_394 ⟨(by show cells + 0 ≤ 601024; omega), (by show slots + 0 ≤ 7293034; omega)⟩) (fun H locs hP1 hD1 hS => ?_)
    have hP := jd_Pp (wL_M (IM := nI) (JM := JM) (O := O)).symm hP1
    have hD := jd_Dp (wL_M (IM := nI) (JM := JM) (O := O)).symm hD1
    refine lv_icmp_eq (tgt := 1175) hx hb d_law_397 rfl (fun _ => ?_) (fun h => absurd rfl h)
    exact kk adh pr I J Ih Jh nI JM O H locs ls cells slots hR2 ⟨hP, hD, hS⟩ hl (by omega) (by omega)
def Ok_direct (Rel : (Nat → Bool) → IS → JS → (Nat → IS) → (Nat → JS) → IS → JS → (Nat → Int64) → Prop) : Prop := (∀ (pr : Nat → Bool) (I : IS) (J : JS) (Ih : Nat → IS) (Jh : Nat → JS) (IM : IS) (JM : JS) (O : Nat → Int64), Rel pr I J Ih Jh IM JM O → ∀ (p0 : Int32) (p1 : Int32) (p2 : Int32) (h : Nat), h < 12 → p0 = nI h → pr h = true → ∃ (r : Int32), ∃ (nI : IS), fm_K_direct p0 p1 p2 (mI (Ih h) I) = some r ∧ fm_M_direct p0 p1 p2 IM = some (r, nI) ∧ Rel pr (mI (Ih h) I) (mJ (Jh h) J) (upN Ih h (mI (Ih h) I)) (upN Jh h (mJ (Jh h) J)) nI JM O) ∧ (∀ (pr : Nat → Bool) (I : IS) (J : JS) (Ih : Nat → IS) (Jh : Nat → JS) (IM : IS) (JM : JS) (O : Nat → Int64), Rel pr I J Ih Jh IM JM O → ∀ (p0 : Int32) (p1 : Int32) (p2 : Int32) , (∀ h, h < 12 → p0 = nI h → pr h = false) → ∃ (r : Int32), ∃ (nI : IS), fm_K_direct_n p0 p1 p2 = some r ∧ fm_M_direct p0 p1 p2 IM = some (r, nI) ∧ Rel pr I J Ih Jh nI JM O)
set_option maxHeartbeats 4000000 in
set_option maxRecDepth 100000 in
theorem law_direct {Rel : (Nat → Bool) → IS → JS → (Nat → IS) → (Nat → JS) → IS → JS → (Nat → Int64) → Prop} (hok : Ok_direct Rel) {p : Program} {l : Launch} {e : Env} {s : State} {m : MethodId} {below : List Frame} {meth : Method} {c : Code} {b L : Nat} {xs : Nat → Int32} {D : va_G} {ca : Nat → ClassId} {Q : State → Prop} (C0 : lwC p l s m meth c b L xs D ca) {ad : Nat → Nat} {adh : Nat → Nat → Nat} {am : Nat → Nat} {pr : Nat → Bool} {I : IS} {J : JS} {Ih : Nat → IS} {Jh : Nat → JS} {IM : IS} {JM : JS} {O : Nat → Int64} {H : Heap} {locs : List Loc} {ls : Array Slot} {cells slots : Nat} {i : Int32} (hR : Rel pr I J Ih Jh IM JM O) (hW : lwS D s ca ad adh am pr I J Ih Jh IM JM O H locs) (hl : lv_has ls 8 (lvL b ad am i)) (hin : vp_in (i + 1) L ∧ vp_in (i + 2) L ∧ vp_in (i + 3) L ∧ vp_in (i + 4) L ∧ vp_in (i + 5) L) (hc : cells + 16 ≤ 601024) (hs : slots + 1900 ≤ 7293034) (kk : lwK Rel p l e s m below meth c b D ca ad am i cells slots Q) : W p l e room_1 s m #[Value.ref b] below meth c H locs cells slots Q (F0 m 402 ls []) := by
  obtain ⟨cx, hK, hN, hXF, hfl, hX, hbl⟩ := C0
  have hx := cx.1
  have hb := cx.2.1
  have hown := cx.2.2.2.1
  have hts := cx.2.2.2.2
  obtain ⟨hP, hD, hS⟩ := hW
  have hA : ∀ q, s.heap.size ≤ q → (fun q => s.heap.size ≤ q) q := fun q h => h
  have hbA : ¬ (fun q => s.heap.size ≤ q) b := fun h => absurd h (Nat.not_le.mpr hbl)
  obtain ⟨hin1, hin2, hin3, hin4, hin5⟩ := hin
  generalize ha1 : xs (i + 1).toNatClampNeg = a1
  generalize ha2 : xs (i + 2).toNatClampNeg = a2
  generalize ha3 : xs (i + 3).toNatClampNeg = a3
  generalize ha4 : xs (i + 4).toNatClampNeg = a4
  generalize ha5 : xs (i + 5).toNatClampNeg = a5
  by_cases hpz : ∃ h, h < 12 ∧ a1 = nI h ∧ pr h = true
  · obtain ⟨h, hh, hp0, hp⟩ := hpz
    obtain ⟨r, nI, f1, f2, hR2⟩ := hok.1 pr I J Ih Jh IM JM O hR a1 a2 a3 h hh hp0 hp
    refine lv_aload_n hx hb d_law_402 rfl (lv_at hl 1 rfl) ?_
    refine lv_aload_n hx hb d_law_403 rfl (lv_at hl 0 rfl) ?_
    refine lv_iload hx hb d_law_404 (lv_at hl 4 rfl) ?_
    refine lv_iconst (v := 1) hx hb d_law_406 (by decide) ?_
    refine lv_iadd hx hb d_law_407 ?_
    refine jd_sld hx hb hX hbl hbA hS hin1 ha1 d_law_408 ?_
    refine lv_aload_n hx hb d_law_409 rfl (lv_at hl 0 rfl) ?_
    refine lv_iload hx hb d_law_410 (lv_at hl 4 rfl) ?_
    refine lv_iconst (v := 2) hx hb d_law_412 (by decide) ?_
    refine lv_iadd hx hb d_law_413 ?_
    refine jd_sld hx hb hX hbl hbA hS hin2 ha2 d_law_414 ?_
    refine lv_aload_n hx hb d_law_415 rfl (lv_at hl 0 rfl) ?_
    refine lv_iload hx hb d_law_416 (lv_at hl 4 rfl) ?_
    refine lv_iconst (v := 3) hx hb d_law_418 (by decide) ?_
    refine lv_iadd hx hb d_law_419 ?_
    refine jd_sld hx hb hX hbl hbA hS hin3 ha3 d_law_420 ?_
    have hPc := jd_Pp (wL_C (O := O) hh hp) hP
    have hDc := jd_Dp (wL_C (O := O) hh hp) hD
    refine jd_fri (w1 := wC ca (adC ad (adh h)) (hsOf pr adh) (mI (Ih h) I) (mJ (Jh h) J)) hPc hDc hS hA rfl (va_runV (As := [.int a1, .int a2, .int a3]) (rest := []) cx (cm_K_direct l D ca (adC ad (adh h)) (hsOf pr adh) (hs_some hh hp0 hp) f1 H.size) (cwV 3 hts (jd_gVL tb_214 tb_215 tb_216 tb_43 tb_217) rfl rfl rfl ⟨rfl, by decide, by decide, rfl⟩ ⟨Nat.le_of_ble_eq_true rfl, Nat.le_of_ble_eq_true rfl⟩) ⟨jd_blind nWc, va_recv hK (jd_Pl hPc) (ci := 3) (q0 := 15) rfl rfl, jd_pre (av := [.ref (adC ad (adh h) 15), .int a1, .int a2, .int a3]) (jd_Pl hPc) hK (jd_Dl hDc) (fun U h => nWm h hN)⟩ rfl rfl hl.1 rfl (lv_room (Nat.le_of_ble_eq_true rfl)) d_law_421 ⟨(by show cells + 0 ≤ 601024; omega), (by show slots + 0 ≤ 7293034; omega)⟩) (fun H locs hP1 hD1 hS => ?_)
    have hP := jd_Pp (wL_C' hh hp) hP1
    have hD := jd_Dp (wL_C' hh hp) hD1
    refine lv_aload_n hx hb d_law_424 rfl (lv_at hl 2 rfl) ?_
    refine lv_aload_n hx hb d_law_425 rfl (lv_at hl 0 rfl) ?_
    refine lv_iload hx hb d_law_426 (lv_at hl 4 rfl) ?_
    refine lv_iconst (v := 1) hx hb d_law_428 (by decide) ?_
    refine lv_iadd hx hb d_law_429 ?_
    refine jd_sld hx hb hX hbl hbA hS hin1 ha1 d_law_430 ?_
    refine lv_aload_n hx hb d_law_431 rfl (lv_at hl 0 rfl) ?_
    refine lv_iload hx hb d_law_432 (lv_at hl 4 rfl) ?_
    refine lv_iconst (v := 2) hx hb d_law_434 (by decide) ?_
    refine lv_iadd hx hb d_law_435 ?_
    refine jd_sld hx hb hX hbl hbA hS hin2 ha2 d_law_436 ?_
    refine lv_aload_n hx hb d_law_437 rfl (lv_at hl 0 rfl) ?_
    refine lv_iload hx hb d_law_438 (lv_at hl 4 rfl) ?_
    refine lv_iconst (v := 3) hx hb d_law_440 (by decide) ?_
    refine lv_iadd hx hb d_law_441 ?_
    refine jd_sld hx hb hX hbl hbA hS hin3 ha3 d_law_442 ?_
    have hPm := jd_Pp (wL_M (O := O)) hP
    have hDm := jd_Dp (wL_M (O := O)) hD
    refine jd_fri (w1 := wM ca am nI JM) hPm hDm hS hA rfl (va_runV (As := [.int a1, .int a2, .int a3]) (rest := [.int r]) cx (cm_M_direct l D ca am f2 H.size) (cwV 3 hts (jd_gVL tb_722 tb_723 tb_724 tb_47 tb_725) rfl rfl rfl ⟨rfl, by decide, by decide, rfl⟩ ⟨Nat.le_of_ble_eq_true rfl, Nat.le_of_ble_eq_true rfl⟩) ⟨jd_blind nWc, va_recv hK (jd_Pl hPm) (ci := 6) (q0 := 0) rfl rfl, jd_pre (av := [.ref (am 0), .int a1, .int a2, .int a3]) (jd_Pl hPm) hK (jd_Dl hDm) (fun U h => nWm h hN)⟩ rfl rfl hl.1 rfl (lv_room (Nat.le_of_ble_eq_true rfl)) d_law_443 ⟨(by show cells + 0 ≤ 601024; omega), (by show slots + 0 ≤ 7293034; omega)⟩) (fun H locs hP1 hD1 hS => ?_)
    have hP := jd_Pp (wL_M (IM := nI) (JM := JM) (O := O)).symm hP1
    have hD := jd_Dp (wL_M (IM := nI) (JM := JM) (O := O)).symm hD1
    refine lv_icmp_eq (tgt := 1175) hx hb d_law_446 rfl (fun _ => ?_) (fun h => absurd rfl h)
    exact kk adh pr (mI (Ih h) I) (mJ (Jh h) J) (upN Ih h (mI (Ih h) I)) (upN Jh h (mJ (Jh h) J)) nI JM O H locs ls cells slots hR2 ⟨hP, hD, hS⟩ hl (by omega) (by omega)
  · have hp : ∀ h, h < 12 → a1 = nI h → pr h = false := fun h h1 h2 => by cases hq : pr h with | false => rfl | true => exact absurd ⟨h, h1, h2, hq⟩ hpz
    obtain ⟨r, nI, f1, f2, hR2⟩ := hok.2 pr I J Ih Jh IM JM O hR a1 a2 a3 hp
    refine lv_aload_n hx hb d_law_402 rfl (lv_at hl 1 rfl) ?_
    refine lv_aload_n hx hb d_law_403 rfl (lv_at hl 0 rfl) ?_
    refine lv_iload hx hb d_law_404 (lv_at hl 4 rfl) ?_
    refine lv_iconst (v := 1) hx hb d_law_406 (by decide) ?_
    refine lv_iadd hx hb d_law_407 ?_
    refine jd_sld hx hb hX hbl hbA hS hin1 ha1 d_law_408 ?_
    refine lv_aload_n hx hb d_law_409 rfl (lv_at hl 0 rfl) ?_
    refine lv_iload hx hb d_law_410 (lv_at hl 4 rfl) ?_
    refine lv_iconst (v := 2) hx hb d_law_412 (by decide) ?_
    refine lv_iadd hx hb d_law_413 ?_
    refine jd_sld hx hb hX hbl hbA hS hin2 ha2 d_law_414 ?_
    refine lv_aload_n hx hb d_law_415 rfl (lv_at hl 0 rfl) ?_
    refine lv_iload hx hb d_law_416 (lv_at hl 4 rfl) ?_
    refine lv_iconst (v := 3) hx hb d_law_418 (by decide) ?_
    refine lv_iadd hx hb d_law_419 ?_
    refine jd_sld hx hb hX hbl hbA hS hin3 ha3 d_law_420 ?_
    have hPc := hP
    have hDc := hD
    unfold wL at hPc hDc
    refine jd_fri (w1 := wD ca ad (hsOf pr adh) I J) hPc hDc hS hA rfl (va_runV (As := [.int a1, .int a2, .int a3]) (rest := []) cx (cm_K_direct_n l D ca ad (hsOf pr adh) (hs_none hp) f1 H.size) (cwV 3 hts (jd_gVL tb_214 tb_215 tb_216 tb_43 tb_217) rfl rfl rfl ⟨rfl, by decide, by decide, rfl⟩ ⟨Nat.le_of_ble_eq_true rfl, Nat.le_of_ble_eq_true rfl⟩) ⟨jd_blind nWc, va_recv hK (jd_Pl hPc) (ci := 3) (q0 := 0) rfl rfl, jd_pre (av := [.ref (ad 15), .int a1, .int a2, .int a3]) (jd_Pl hPc) hK (jd_Dl hDc) (fun U h => nWm h hN)⟩ rfl rfl hl.1 rfl (lv_room (Nat.le_of_ble_eq_true rfl)) d_law_421 ⟨(by show cells + 0 ≤ 601024; omega), (by show slots + 0 ≤ 7293034; omega)⟩) (fun H locs hP1 hD1 hS => ?_)
    have hP : va_P D cls_all (wL ca ad adh am pr I J Ih Jh IM JM O) H := hP1
    have hD : va_D _ (wL ca ad adh am pr I J Ih Jh IM JM O) := hD1
    refine lv_aload_n hx hb d_law_424 rfl (lv_at hl 2 rfl) ?_
    refine lv_aload_n hx hb d_law_425 rfl (lv_at hl 0 rfl) ?_
    refine lv_iload hx hb d_law_426 (lv_at hl 4 rfl) ?_
    refine lv_iconst (v := 1) hx hb d_law_428 (by decide) ?_
    refine lv_iadd hx hb d_law_429 ?_
    refine jd_sld hx hb hX hbl hbA hS hin1 ha1 d_law_430 ?_
    refine lv_aload_n hx hb d_law_431 rfl (lv_at hl 0 rfl) ?_
    refine lv_iload hx hb d_law_432 (lv_at hl 4 rfl) ?_
    refine lv_iconst (v := 2) hx hb d_law_434 (by decide) ?_
    refine lv_iadd hx hb d_law_435 ?_
    refine jd_sld hx hb hX hbl hbA hS hin2 ha2 d_law_436 ?_
    refine lv_aload_n hx hb d_law_437 rfl (lv_at hl 0 rfl) ?_
    refine lv_iload hx hb d_law_438 (lv_at hl 4 rfl) ?_
    refine lv_iconst (v := 3) hx hb d_law_440 (by decide) ?_
    refine lv_iadd hx hb d_law_441 ?_
    refine jd_sld hx hb hX hbl hbA hS hin3 ha3 d_law_442 ?_
    have hPm := jd_Pp (wL_M (O := O)) hP
    have hDm := jd_Dp (wL_M (O := O)) hD
    refine jd_fri (w1 := wM ca am nI JM) hPm hDm hS hA rfl (va_runV (As := [.int a1, .int a2, .int a3]) (rest := [.int r]) cx (cm_M_direct l D ca am f2 H.size) (cwV 3 hts (jd_gVL tb_722 tb_723 tb_724 tb_47 tb_725) rfl rfl rfl ⟨rfl, by decide, by decide, rfl⟩ ⟨Nat.le_of_ble_eq_true rfl, Nat.le_of_ble_eq_true rfl⟩) ⟨jd_blind nWc, va_recv hK (jd_Pl hPm) (ci := 6) (q0 := 0) rfl rfl, jd_pre (av := [.ref (am 0), .int a1, .int a2, .int a3]) (jd_Pl hPm) hK (jd_Dl hDm) (fun U h => nWm h hN)⟩ rfl rfl hl.1 rfl (lv_room (Nat.le_of_ble_eq_true rfl)) d_law_443 ⟨(by show cells + 0 ≤ 601024; omega), (by show slots + 0 ≤ 7293034; omega)⟩) (fun H locs hP1 hD1 hS => ?_)
    have hP := jd_Pp (wL_M (IM := nI) (JM := JM) (O := O)).symm hP1
    have hD := jd_Dp (wL_M (IM := nI) (JM := JM) (O := O)).symm hD1
    refine lv_icmp_eq (tgt := 1175) hx hb d_law_446 rfl (fun _ => ?_) (fun h => absurd rfl h)
    exact kk adh pr I J Ih Jh nI JM O H locs ls cells slots hR2 ⟨hP, hD, hS⟩ hl (by omega) (by omega)
def Ok_orders (Rel : (Nat → Bool) → IS → JS → (Nat → IS) → (Nat → JS) → IS → JS → (Nat → Int64) → Prop) : Prop := (∀ (pr : Nat → Bool) (I : IS) (J : JS) (Ih : Nat → IS) (Jh : Nat → JS) (IM : IS) (JM : JS) (O : Nat → Int64), Rel pr I J Ih Jh IM JM O → ∀ (p0 : Int32) (h : Nat), h < 12 → p0 = nI h → pr h = true → ∃ (r : Int64), ∃ (kI : IS), ∃ (kJ : JS), ∃ (nI : IS), ∃ (nJ : JS), fm_K_orders p0 (mI (Ih h) I) (mJ (Jh h) J) = some (r, kI, kJ) ∧ fm_M_orders p0 IM JM = some (r, nI, nJ) ∧ Rel pr kI kJ (upN Ih h kI) (upN Jh h kJ) nI nJ O) ∧ (∀ (pr : Nat → Bool) (I : IS) (J : JS) (Ih : Nat → IS) (Jh : Nat → JS) (IM : IS) (JM : JS) (O : Nat → Int64), Rel pr I J Ih Jh IM JM O → ∀ (p0 : Int32) , (∀ h, h < 12 → p0 = nI h → pr h = false) → ∃ (r : Int64), ∃ (nI : IS), ∃ (nJ : JS), fm_K_orders_n p0 = some r ∧ fm_M_orders p0 IM JM = some (r, nI, nJ) ∧ Rel pr I J Ih Jh nI nJ O)
set_option maxHeartbeats 4000000 in
set_option maxRecDepth 100000 in
theorem law_orders {Rel : (Nat → Bool) → IS → JS → (Nat → IS) → (Nat → JS) → IS → JS → (Nat → Int64) → Prop} (hok : Ok_orders Rel) {p : Program} {l : Launch} {e : Env} {s : State} {m : MethodId} {below : List Frame} {meth : Method} {c : Code} {b L : Nat} {xs : Nat → Int32} {D : va_G} {ca : Nat → ClassId} {Q : State → Prop} (C0 : lwC p l s m meth c b L xs D ca) {ad : Nat → Nat} {adh : Nat → Nat → Nat} {am : Nat → Nat} {pr : Nat → Bool} {I : IS} {J : JS} {Ih : Nat → IS} {Jh : Nat → JS} {IM : IS} {JM : JS} {O : Nat → Int64} {H : Heap} {locs : List Loc} {ls : Array Slot} {cells slots : Nat} {i : Int32} (hR : Rel pr I J Ih Jh IM JM O) (hW : lwS D s ca ad adh am pr I J Ih Jh IM JM O H locs) (hl : lv_has ls 8 (lvL b ad am i)) (hin : vp_in (i + 1) L ∧ vp_in (i + 2) L ∧ vp_in (i + 3) L ∧ vp_in (i + 4) L ∧ vp_in (i + 5) L) (hc : cells + 16 ≤ 601024) (hs : slots + 1900 ≤ 7293034) (kk : lwK Rel p l e s m below meth c b D ca ad am i cells slots Q) : W p l e room_1 s m #[Value.ref b] below meth c H locs cells slots Q (F0 m 451 ls []) := by
  obtain ⟨cx, hK, hN, hXF, hfl, hX, hbl⟩ := C0
  have hx := cx.1
  have hb := cx.2.1
  have hown := cx.2.2.2.1
  have hts := cx.2.2.2.2
  obtain ⟨hP, hD, hS⟩ := hW
  have hA : ∀ q, s.heap.size ≤ q → (fun q => s.heap.size ≤ q) q := fun q h => h
  have hbA : ¬ (fun q => s.heap.size ≤ q) b := fun h => absurd h (Nat.not_le.mpr hbl)
  obtain ⟨hin1, hin2, hin3, hin4, hin5⟩ := hin
  generalize ha1 : xs (i + 1).toNatClampNeg = a1
  generalize ha2 : xs (i + 2).toNatClampNeg = a2
  generalize ha3 : xs (i + 3).toNatClampNeg = a3
  generalize ha4 : xs (i + 4).toNatClampNeg = a4
  generalize ha5 : xs (i + 5).toNatClampNeg = a5
  by_cases hpz : ∃ h, h < 12 ∧ a1 = nI h ∧ pr h = true
  · obtain ⟨h, hh, hp0, hp⟩ := hpz
    obtain ⟨r, kI, kJ, nI, nJ, f1, f2, hR2⟩ := hok.1 pr I J Ih Jh IM JM O hR a1 h hh hp0 hp
    refine lv_aload_n hx hb d_law_451 rfl (lv_at hl 1 rfl) ?_
    refine lv_aload_n hx hb d_law_452 rfl (lv_at hl 0 rfl) ?_
    refine lv_iload hx hb d_law_453 (lv_at hl 4 rfl) ?_
    refine lv_iconst (v := 1) hx hb d_law_455 (by decide) ?_
    refine lv_iadd hx hb d_law_456 ?_
    refine jd_sld hx hb hX hbl hbA hS hin1 ha1 d_law_457 ?_
    have hPc := jd_Pp (wL_C (O := O) hh hp) hP
    have hDc := jd_Dp (wL_C (O := O) hh hp) hD
    refine jd_frl (w1 := wC ca (adC ad (adh h)) (hsOf pr adh) kI kJ) hPc hDc hS hA rfl (va_runV (As := [.int a1]) (rest := []) cx (cm_K_orders l D ca (adC ad (adh h)) (hsOf pr adh) (hs_some hh hp0 hp) f1 H.size) (cwV 1 hts (jd_gVL tb_218 tb_219 tb_220 tb_43 tb_221) rfl rfl rfl ⟨rfl, by decide, by decide, rfl⟩ ⟨Nat.le_of_ble_eq_true rfl, Nat.le_of_ble_eq_true rfl⟩) ⟨jd_blind nWc, va_recv hK (jd_Pl hPc) (ci := 3) (q0 := 15) rfl rfl, jd_pre (av := [.ref (adC ad (adh h) 15), .int a1]) (jd_Pl hPc) hK (jd_Dl hDc) (fun U h => nWm h hN)⟩ rfl rfl hl.1 rfl (lv_room (Nat.le_of_ble_eq_true rfl)) d_law_458 ⟨(by show cells + 0 ≤ 601024; omega), (by show slots + 0 ≤ 7293034; omega)⟩) (fun H locs hP1 hD1 hS => ?_)
    have hP := jd_Pp (wL_C' hh hp) hP1
    have hD := jd_Dp (wL_C' hh hp) hD1
    refine lv_aload_n hx hb d_law_461 rfl (lv_at hl 2 rfl) ?_
    refine lv_aload_n hx hb d_law_462 rfl (lv_at hl 0 rfl) ?_
    refine lv_iload hx hb d_law_463 (lv_at hl 4 rfl) ?_
    refine lv_iconst (v := 1) hx hb d_law_465 (by decide) ?_
    refine lv_iadd hx hb d_law_466 ?_
    refine jd_sld hx hb hX hbl hbA hS hin1 ha1 d_law_467 ?_
    have hPm := jd_Pp (wL_M (O := O)) hP
    have hDm := jd_Dp (wL_M (O := O)) hD
    refine jd_frl (w1 := wM ca am nI nJ) hPm hDm hS hA rfl (va_runV (As := [.int a1]) (rest := [.long r]) cx (cm_M_orders l D ca am f2 H.size) (cwV 1 hts (jd_gVL tb_727 tb_728 tb_729 tb_47 tb_730) rfl rfl rfl ⟨rfl, by decide, by decide, rfl⟩ ⟨Nat.le_of_ble_eq_true rfl, Nat.le_of_ble_eq_true rfl⟩) ⟨jd_blind nWc, va_recv hK (jd_Pl hPm) (ci := 6) (q0 := 0) rfl rfl, jd_pre (av := [.ref (am 0), .int a1]) (jd_Pl hPm) hK (jd_Dl hDm) (fun U h => nWm h hN)⟩ rfl rfl hl.1 rfl (lv_room (Nat.le_of_ble_eq_true rfl)) d_law_468 ⟨(by show cells + 0 ≤ 601024; omega), (by show slots + 0 ≤ 7293034; omega)⟩) (fun H locs hP1 hD1 hS => ?_)
    have hP := jd_Pp (wL_M (IM := nI) (JM := nJ) (O := O)).symm hP1
    have hD := jd_Dp (wL_M (IM := nI) (JM := nJ) (O := O)).symm hD1
    refine W.lcmp hx hb d_law_471 ?_
    refine lv_if_eq (tgt := 1175) hx hb d_law_472 rfl (fun _ => ?_) (fun h => absurd (lg_cmp_self _) h)
    exact kk adh pr kI kJ (upN Ih h kI) (upN Jh h kJ) nI nJ O H locs ls cells slots hR2 ⟨hP, hD, hS⟩ hl (by omega) (by omega)
  · have hp : ∀ h, h < 12 → a1 = nI h → pr h = false := fun h h1 h2 => by cases hq : pr h with | false => rfl | true => exact absurd ⟨h, h1, h2, hq⟩ hpz
    obtain ⟨r, nI, nJ, f1, f2, hR2⟩ := hok.2 pr I J Ih Jh IM JM O hR a1 hp
    refine lv_aload_n hx hb d_law_451 rfl (lv_at hl 1 rfl) ?_
    refine lv_aload_n hx hb d_law_452 rfl (lv_at hl 0 rfl) ?_
    refine lv_iload hx hb d_law_453 (lv_at hl 4 rfl) ?_
    refine lv_iconst (v := 1) hx hb d_law_455 (by decide) ?_
    refine lv_iadd hx hb d_law_456 ?_
    refine jd_sld hx hb hX hbl hbA hS hin1 ha1 d_law_457 ?_
    have hPc := hP
    have hDc := hD
    unfold wL at hPc hDc
    refine jd_frl (w1 := wD ca ad (hsOf pr adh) I J) hPc hDc hS hA rfl (va_runV (As := [.int a1]) (rest := []) cx (cm_K_orders_n l D ca ad (hsOf pr adh) (hs_none hp) f1 H.size) (cwV 1 hts (jd_gVL tb_218 tb_219 tb_220 tb_43 tb_221) rfl rfl rfl ⟨rfl, by decide, by decide, rfl⟩ ⟨Nat.le_of_ble_eq_true rfl, Nat.le_of_ble_eq_true rfl⟩) ⟨jd_blind nWc, va_recv hK (jd_Pl hPc) (ci := 3) (q0 := 0) rfl rfl, jd_pre (av := [.ref (ad 15), .int a1]) (jd_Pl hPc) hK (jd_Dl hDc) (fun U h => nWm h hN)⟩ rfl rfl hl.1 rfl (lv_room (Nat.le_of_ble_eq_true rfl)) d_law_458 ⟨(by show cells + 0 ≤ 601024; omega), (by show slots + 0 ≤ 7293034; omega)⟩) (fun H locs hP1 hD1 hS => ?_)
    have hP : va_P D cls_all (wL ca ad adh am pr I J Ih Jh IM JM O) H := hP1
    have hD : va_D _ (wL ca ad adh am pr I J Ih Jh IM JM O) := hD1
    refine lv_aload_n hx hb d_law_461 rfl (lv_at hl 2 rfl) ?_
    refine lv_aload_n hx hb d_law_462 rfl (lv_at hl 0 rfl) ?_
    refine lv_iload hx hb d_law_463 (lv_at hl 4 rfl) ?_
    refine lv_iconst (v := 1) hx hb d_law_465 (by decide) ?_
    refine lv_iadd hx hb d_law_466 ?_
    refine jd_sld hx hb hX hbl hbA hS hin1 ha1 d_law_467 ?_
    have hPm := jd_Pp (wL_M (O := O)) hP
    have hDm := jd_Dp (wL_M (O := O)) hD
    refine jd_frl (w1 := wM ca am nI nJ) hPm hDm hS hA rfl (va_runV (As := [.int a1]) (rest := [.long r]) cx (cm_M_orders l D ca am f2 H.size) (cwV 1 hts (jd_gVL tb_727 tb_728 tb_729 tb_47 tb_730) rfl rfl rfl ⟨rfl, by decide, by decide, rfl⟩ ⟨Nat.le_of_ble_eq_true rfl, Nat.le_of_ble_eq_true rfl⟩) ⟨jd_blind nWc, va_recv hK (jd_Pl hPm) (ci := 6) (q0 := 0) rfl rfl, jd_pre (av := [.ref (am 0), .int a1]) (jd_Pl hPm) hK (jd_Dl hDm) (fun U h => nWm h hN)⟩ rfl rfl hl.1 rfl (lv_room (Nat.le_of_ble_eq_true rfl)) d_law_468 ⟨(by show cells + 0 ≤ 601024; omega), (by show slots + 0 ≤ 7293034; omega)⟩) (fun H locs hP1 hD1 hS => ?_)
    have hP := jd_Pp (wL_M (IM := nI) (JM := nJ) (O := O)).symm hP1
    have hD := jd_Dp (wL_M (IM := nI) (JM := nJ) (O := O)).symm hD1
    refine W.lcmp hx hb d_law_471 ?_
    refine lv_if_eq (tgt := 1175) hx hb d_law_472 rfl (fun _ => ?_) (fun h => absurd (lg_cmp_self _) h)
    exact kk adh pr I J Ih Jh nI nJ O H locs ls cells slots hR2 ⟨hP, hD, hS⟩ hl (by omega) (by omega)
def Ok_atRank (Rel : (Nat → Bool) → IS → JS → (Nat → IS) → (Nat → JS) → IS → JS → (Nat → Int64) → Prop) : Prop := (∀ (pr : Nat → Bool) (I : IS) (J : JS) (Ih : Nat → IS) (Jh : Nat → JS) (IM : IS) (JM : JS) (O : Nat → Int64), Rel pr I J Ih Jh IM JM O → ∀ (p0 : Int32) (p1 : Int32) (p2 : Int32) (h : Nat), h < 12 → p0 = nI h → pr h = true → ∃ (r : Int64), ∃ (kI : IS), ∃ (kJ : JS), ∃ (nI : IS), ∃ (nJ : JS), fm_K_atRank p0 p1 p2 (mI (Ih h) I) (mJ (Jh h) J) = some (r, kI, kJ) ∧ fm_M_atRank p0 p1 p2 IM JM = some (r, nI, nJ) ∧ Rel pr kI kJ (upN Ih h kI) (upN Jh h kJ) nI nJ O) ∧ (∀ (pr : Nat → Bool) (I : IS) (J : JS) (Ih : Nat → IS) (Jh : Nat → JS) (IM : IS) (JM : JS) (O : Nat → Int64), Rel pr I J Ih Jh IM JM O → ∀ (p0 : Int32) (p1 : Int32) (p2 : Int32) , (∀ h, h < 12 → p0 = nI h → pr h = false) → ∃ (r : Int64), ∃ (nI : IS), ∃ (nJ : JS), fm_K_atRank_n p0 p1 p2 = some r ∧ fm_M_atRank p0 p1 p2 IM JM = some (r, nI, nJ) ∧ Rel pr I J Ih Jh nI nJ O)
set_option maxHeartbeats 4000000 in
set_option maxRecDepth 100000 in
theorem law_atRank {Rel : (Nat → Bool) → IS → JS → (Nat → IS) → (Nat → JS) → IS → JS → (Nat → Int64) → Prop} (hok : Ok_atRank Rel) {p : Program} {l : Launch} {e : Env} {s : State} {m : MethodId} {below : List Frame} {meth : Method} {c : Code} {b L : Nat} {xs : Nat → Int32} {D : va_G} {ca : Nat → ClassId} {Q : State → Prop} (C0 : lwC p l s m meth c b L xs D ca) {ad : Nat → Nat} {adh : Nat → Nat → Nat} {am : Nat → Nat} {pr : Nat → Bool} {I : IS} {J : JS} {Ih : Nat → IS} {Jh : Nat → JS} {IM : IS} {JM : JS} {O : Nat → Int64} {H : Heap} {locs : List Loc} {ls : Array Slot} {cells slots : Nat} {i : Int32} (hR : Rel pr I J Ih Jh IM JM O) (hW : lwS D s ca ad adh am pr I J Ih Jh IM JM O H locs) (hl : lv_has ls 8 (lvL b ad am i)) (hin : vp_in (i + 1) L ∧ vp_in (i + 2) L ∧ vp_in (i + 3) L ∧ vp_in (i + 4) L ∧ vp_in (i + 5) L) (hc : cells + 16 ≤ 601024) (hs : slots + 1900 ≤ 7293034) (kk : lwK Rel p l e s m below meth c b D ca ad am i cells slots Q) : W p l e room_1 s m #[Value.ref b] below meth c H locs cells slots Q (F0 m 477 ls []) := by
  obtain ⟨cx, hK, hN, hXF, hfl, hX, hbl⟩ := C0
  have hx := cx.1
  have hb := cx.2.1
  have hown := cx.2.2.2.1
  have hts := cx.2.2.2.2
  obtain ⟨hP, hD, hS⟩ := hW
  have hA : ∀ q, s.heap.size ≤ q → (fun q => s.heap.size ≤ q) q := fun q h => h
  have hbA : ¬ (fun q => s.heap.size ≤ q) b := fun h => absurd h (Nat.not_le.mpr hbl)
  obtain ⟨hin1, hin2, hin3, hin4, hin5⟩ := hin
  generalize ha1 : xs (i + 1).toNatClampNeg = a1
  generalize ha2 : xs (i + 2).toNatClampNeg = a2
  generalize ha3 : xs (i + 3).toNatClampNeg = a3
  generalize ha4 : xs (i + 4).toNatClampNeg = a4
  generalize ha5 : xs (i + 5).toNatClampNeg = a5
  by_cases hpz : ∃ h, h < 12 ∧ a1 = nI h ∧ pr h = true
  · obtain ⟨h, hh, hp0, hp⟩ := hpz
    obtain ⟨r, kI, kJ, nI, nJ, f1, f2, hR2⟩ := hok.1 pr I J Ih Jh IM JM O hR a1 a2 a3 h hh hp0 hp
    refine lv_aload_n hx hb d_law_477 rfl (lv_at hl 1 rfl) ?_
    refine lv_aload_n hx hb d_law_478 rfl (lv_at hl 0 rfl) ?_
    refine lv_iload hx hb d_law_479 (lv_at hl 4 rfl) ?_
    refine lv_iconst (v := 1) hx hb d_law_481 (by decide) ?_
    refine lv_iadd hx hb d_law_482 ?_
    refine jd_sld hx hb hX hbl hbA hS hin1 ha1 d_law_483 ?_
    refine lv_aload_n hx hb d_law_484 rfl (lv_at hl 0 rfl) ?_
    refine lv_iload hx hb d_law_485 (lv_at hl 4 rfl) ?_
    refine lv_iconst (v := 2) hx hb d_law_487 (by decide) ?_
    refine lv_iadd hx hb d_law_488 ?_
    refine jd_sld hx hb hX hbl hbA hS hin2 ha2 d_law_489 ?_
    refine lv_aload_n hx hb d_law_490 rfl (lv_at hl 0 rfl) ?_
    refine lv_iload hx hb d_law_491 (lv_at hl 4 rfl) ?_
    refine lv_iconst (v := 3) hx hb d_law_493 (by decide) ?_
    refine lv_iadd hx hb d_law_494 ?_
    refine jd_sld hx hb hX hbl hbA hS hin3 ha3 d_law_495 ?_
    have hPc := jd_Pp (wL_C (O := O) hh hp) hP
    have hDc := jd_Dp (wL_C (O := O) hh hp) hD
    refine jd_frl (w1 := wC ca (adC ad (adh h)) (hsOf pr adh) kI kJ) hPc hDc hS hA rfl (va_runV (As := [.int a1, .int a2, .int a3]) (rest := []) cx (cm_K_atRank l D ca (adC ad (adh h)) (hsOf pr adh) (hs_some hh hp0 hp) f1 H.size) (cwV 3 hts (jd_gVL tb_265 tb_266 tb_267 tb_43 tb_268) rfl rfl rfl ⟨rfl, by decide, by decide, rfl⟩ ⟨Nat.le_of_ble_eq_true rfl, Nat.le_of_ble_eq_true rfl⟩) ⟨jd_blind nWc, va_recv hK (jd_Pl hPc) (ci := 3) (q0 := 15) rfl rfl, jd_pre (av := [.ref (adC ad (adh h) 15), .int a1, .int a2, .int a3]) (jd_Pl hPc) hK (jd_Dl hDc) (fun U h => nWm h hN)⟩ rfl rfl hl.1 rfl (lv_room (Nat.le_of_ble_eq_true rfl)) d_law_496 ⟨(by show cells + 0 ≤ 601024; omega), (by show slots + 0 ≤ 7293034; omega)⟩) (fun H locs hP1 hD1 hS => ?_)
    have hP := jd_Pp (wL_C' hh hp) hP1
    have hD := jd_Dp (wL_C' hh hp) hD1
    refine lv_aload_n hx hb d_law_499 rfl (lv_at hl 2 rfl) ?_
    refine lv_aload_n hx hb d_law_500 rfl (lv_at hl 0 rfl) ?_
    refine lv_iload hx hb d_law_501 (lv_at hl 4 rfl) ?_
    refine lv_iconst (v := 1) hx hb d_law_503 (by decide) ?_
    refine lv_iadd hx hb d_law_504 ?_
    refine jd_sld hx hb hX hbl hbA hS hin1 ha1 d_law_505 ?_
    refine lv_aload_n hx hb d_law_506 rfl (lv_at hl 0 rfl) ?_
    refine lv_iload hx hb d_law_507 (lv_at hl 4 rfl) ?_
    refine lv_iconst (v := 2) hx hb d_law_509 (by decide) ?_
    refine lv_iadd hx hb d_law_510 ?_
    refine jd_sld hx hb hX hbl hbA hS hin2 ha2 d_law_511 ?_
    refine lv_aload_n hx hb d_law_512 rfl (lv_at hl 0 rfl) ?_
    refine lv_iload hx hb d_law_513 (lv_at hl 4 rfl) ?_
    refine lv_iconst (v := 3) hx hb d_law_515 (by decide) ?_
    refine lv_iadd hx hb d_law_516 ?_
    refine jd_sld hx hb hX hbl hbA hS hin3 ha3 d_law_517 ?_
    have hPm := jd_Pp (wL_M (O := O)) hP
    have hDm := jd_Dp (wL_M (O := O)) hD
    refine jd_frl (w1 := wM ca am nI nJ) hPm hDm hS hA rfl (va_runV (As := [.int a1, .int a2, .int a3]) (rest := [.long r]) cx (cm_M_atRank l D ca am f2 H.size) (cwV 3 hts (jd_gVL tb_737 tb_738 tb_739 tb_47 tb_740) rfl rfl rfl ⟨rfl, by decide, by decide, rfl⟩ ⟨Nat.le_of_ble_eq_true rfl, Nat.le_of_ble_eq_true rfl⟩) ⟨jd_blind nWc, va_recv hK (jd_Pl hPm) (ci := 6) (q0 := 0) rfl rfl, jd_pre (av := [.ref (am 0), .int a1, .int a2, .int a3]) (jd_Pl hPm) hK (jd_Dl hDm) (fun U h => nWm h hN)⟩ rfl rfl hl.1 rfl (lv_room (Nat.le_of_ble_eq_true rfl)) d_law_518 ⟨(by show cells + 0 ≤ 601024; omega), (by show slots + 0 ≤ 7293034; omega)⟩) (fun H locs hP1 hD1 hS => ?_)
    have hP := jd_Pp (wL_M (IM := nI) (JM := nJ) (O := O)).symm hP1
    have hD := jd_Dp (wL_M (IM := nI) (JM := nJ) (O := O)).symm hD1
    refine W.lcmp hx hb d_law_521 ?_
    refine lv_if_eq (tgt := 1175) hx hb d_law_522 rfl (fun _ => ?_) (fun h => absurd (lg_cmp_self _) h)
    exact kk adh pr kI kJ (upN Ih h kI) (upN Jh h kJ) nI nJ O H locs ls cells slots hR2 ⟨hP, hD, hS⟩ hl (by omega) (by omega)
  · have hp : ∀ h, h < 12 → a1 = nI h → pr h = false := fun h h1 h2 => by cases hq : pr h with | false => rfl | true => exact absurd ⟨h, h1, h2, hq⟩ hpz
    obtain ⟨r, nI, nJ, f1, f2, hR2⟩ := hok.2 pr I J Ih Jh IM JM O hR a1 a2 a3 hp
    refine lv_aload_n hx hb d_law_477 rfl (lv_at hl 1 rfl) ?_
    refine lv_aload_n hx hb d_law_478 rfl (lv_at hl 0 rfl) ?_
    refine lv_iload hx hb d_law_479 (lv_at hl 4 rfl) ?_
    refine lv_iconst (v := 1) hx hb d_law_481 (by decide) ?_
    refine lv_iadd hx hb d_law_482 ?_
    refine jd_sld hx hb hX hbl hbA hS hin1 ha1 d_law_483 ?_
    refine lv_aload_n hx hb d_law_484 rfl (lv_at hl 0 rfl) ?_
    refine lv_iload hx hb d_law_485 (lv_at hl 4 rfl) ?_
    refine lv_iconst (v := 2) hx hb d_law_487 (by decide) ?_
    refine lv_iadd hx hb d_law_488 ?_
    refine jd_sld hx hb hX hbl hbA hS hin2 ha2 d_law_489 ?_
    refine lv_aload_n hx hb d_law_490 rfl (lv_at hl 0 rfl) ?_
    refine lv_iload hx hb d_law_491 (lv_at hl 4 rfl) ?_
    refine lv_iconst (v := 3) hx hb d_law_493 (by decide) ?_
    refine lv_iadd hx hb d_law_494 ?_
    refine jd_sld hx hb hX hbl hbA hS hin3 ha3 d_law_495 ?_
    have hPc := hP
    have hDc := hD
    unfold wL at hPc hDc
    refine jd_frl (w1 := wD ca ad (hsOf pr adh) I J) hPc hDc hS hA rfl (va_runV (As := [.int a1, .int a2, .int a3]) (rest := []) cx (cm_K_atRank_n l D ca ad (hsOf pr adh) (hs_none hp) f1 H.size) (cwV 3 hts (jd_gVL tb_265 tb_266 tb_267 tb_43 tb_268) rfl rfl rfl ⟨rfl, by decide, by decide, rfl⟩ ⟨Nat.le_of_ble_eq_true rfl, Nat.le_of_ble_eq_true rfl⟩) ⟨jd_blind nWc, va_recv hK (jd_Pl hPc) (ci := 3) (q0 := 0) rfl rfl, jd_pre (av := [.ref (ad 15), .int a1, .int a2, .int a3]) (jd_Pl hPc) hK (jd_Dl hDc) (fun U h => nWm h hN)⟩ rfl rfl hl.1 rfl (lv_room (Nat.le_of_ble_eq_true rfl)) d_law_496 ⟨(by show cells + 0 ≤ 601024; omega), (by show slots + 0 ≤ 7293034; omega)⟩) (fun H locs hP1 hD1 hS => ?_)
    have hP : va_P D cls_all (wL ca ad adh am pr I J Ih Jh IM JM O) H := hP1
    have hD : va_D _ (wL ca ad adh am pr I J Ih Jh IM JM O) := hD1
    refine lv_aload_n hx hb d_law_499 rfl (lv_at hl 2 rfl) ?_
    refine lv_aload_n hx hb d_law_500 rfl (lv_at hl 0 rfl) ?_
    refine lv_iload hx hb d_law_501 (lv_at hl 4 rfl) ?_
    refine lv_iconst (v := 1) hx hb d_law_503 (by decide) ?_
    refine lv_iadd hx hb d_law_504 ?_
    refine jd_sld hx hb hX hbl hbA hS hin1 ha1 d_law_505 ?_
    refine lv_aload_n hx hb d_law_506 rfl (lv_at hl 0 rfl) ?_
    refine lv_iload hx hb d_law_507 (lv_at hl 4 rfl) ?_
    refine lv_iconst (v := 2) hx hb d_law_509 (by decide) ?_
    refine lv_iadd hx hb d_law_510 ?_
    refine jd_sld hx hb hX hbl hbA hS hin2 ha2 d_law_511 ?_
    refine lv_aload_n hx hb d_law_512 rfl (lv_at hl 0 rfl) ?_
    refine lv_iload hx hb d_law_513 (lv_at hl 4 rfl) ?_
    refine lv_iconst (v := 3) hx hb d_law_515 (by decide) ?_
    refine lv_iadd hx hb d_law_516 ?_
    refine jd_sld hx hb hX hbl hbA hS hin3 ha3 d_law_517 ?_
    have hPm := jd_Pp (wL_M (O := O)) hP
    have hDm := jd_Dp (wL_M (O := O)) hD
    refine jd_frl (w1 := wM ca am nI nJ) hPm hDm hS hA rfl (va_runV (As := [.int a1, .int a2, .int a3]) (rest := [.long r]) cx (cm_M_atRank l D ca am f2 H.size) (cwV 3 hts (jd_gVL tb_737 tb_738 tb_739 tb_47 tb_740) rfl rfl rfl ⟨rfl, by decide, by decide, rfl⟩ ⟨Nat.le_of_ble_eq_true rfl, Nat.le_of_ble_eq_true rfl⟩) ⟨jd_blind nWc, va_recv hK (jd_Pl hPm) (ci := 6) (q0 := 0) rfl rfl, jd_pre (av := [.ref (am 0), .int a1, .int a2, .int a3]) (jd_Pl hPm) hK (jd_Dl hDm) (fun U h => nWm h hN)⟩ rfl rfl hl.1 rfl (lv_room (Nat.le_of_ble_eq_true rfl)) d_law_518 ⟨(by show cells + 0 ≤ 601024; omega), (by show slots + 0 ≤ 7293034; omega)⟩) (fun H locs hP1 hD1 hS => ?_)
    have hP := jd_Pp (wL_M (IM := nI) (JM := nJ) (O := O)).symm hP1
    have hD := jd_Dp (wL_M (IM := nI) (JM := nJ) (O := O)).symm hD1
    refine W.lcmp hx hb d_law_521 ?_
    refine lv_if_eq (tgt := 1175) hx hb d_law_522 rfl (fun _ => ?_) (fun h => absurd (lg_cmp_self _) h)
    exact kk adh pr I J Ih Jh nI nJ O H locs ls cells slots hR2 ⟨hP, hD, hS⟩ hl (by omega) (by omega)
def Ok_before (Rel : (Nat → Bool) → IS → JS → (Nat → IS) → (Nat → JS) → IS → JS → (Nat → Int64) → Prop) : Prop := (∀ (pr : Nat → Bool) (I : IS) (J : JS) (Ih : Nat → IS) (Jh : Nat → JS) (IM : IS) (JM : JS) (O : Nat → Int64), Rel pr I J Ih Jh IM JM O → ∀ (p0 : Int32) (p1 : Int32) (p2 : Int32) (h : Nat), h < 12 → p0 = nI h → pr h = true → ∃ (r : Int64), ∃ (kI : IS), ∃ (kJ : JS), ∃ (nI : IS), ∃ (nJ : JS), fm_K_before p0 p1 p2 (mI (Ih h) I) (mJ (Jh h) J) = some (r, kI, kJ) ∧ fm_M_before p0 p1 p2 IM JM = some (r, nI, nJ) ∧ Rel pr kI kJ (upN Ih h kI) (upN Jh h kJ) nI nJ O) ∧ (∀ (pr : Nat → Bool) (I : IS) (J : JS) (Ih : Nat → IS) (Jh : Nat → JS) (IM : IS) (JM : JS) (O : Nat → Int64), Rel pr I J Ih Jh IM JM O → ∀ (p0 : Int32) (p1 : Int32) (p2 : Int32) , (∀ h, h < 12 → p0 = nI h → pr h = false) → ∃ (r : Int64), ∃ (nI : IS), ∃ (nJ : JS), fm_K_before_n p0 p1 p2 = some r ∧ fm_M_before p0 p1 p2 IM JM = some (r, nI, nJ) ∧ Rel pr I J Ih Jh nI nJ O)
set_option maxHeartbeats 4000000 in
set_option maxRecDepth 100000 in
theorem law_before {Rel : (Nat → Bool) → IS → JS → (Nat → IS) → (Nat → JS) → IS → JS → (Nat → Int64) → Prop} (hok : Ok_before Rel) {p : Program} {l : Launch} {e : Env} {s : State} {m : MethodId} {below : List Frame} {meth : Method} {c : Code} {b L : Nat} {xs : Nat → Int32} {D : va_G} {ca : Nat → ClassId} {Q : State → Prop} (C0 : lwC p l s m meth c b L xs D ca) {ad : Nat → Nat} {adh : Nat → Nat → Nat} {am : Nat → Nat} {pr : Nat → Bool} {I : IS} {J : JS} {Ih : Nat → IS} {Jh : Nat → JS} {IM : IS} {JM : JS} {O : Nat → Int64} {H : Heap} {locs : List Loc} {ls : Array Slot} {cells slots : Nat} {i : Int32} (hR : Rel pr I J Ih Jh IM JM O) (hW : lwS D s ca ad adh am pr I J Ih Jh IM JM O H locs) (hl : lv_has ls 8 (lvL b ad am i)) (hin : vp_in (i + 1) L ∧ vp_in (i + 2) L ∧ vp_in (i + 3) L ∧ vp_in (i + 4) L ∧ vp_in (i + 5) L) (hc : cells + 16 ≤ 601024) (hs : slots + 1900 ≤ 7293034) (kk : lwK Rel p l e s m below meth c b D ca ad am i cells slots Q) : W p l e room_1 s m #[Value.ref b] below meth c H locs cells slots Q (F0 m 527 ls []) := by
  obtain ⟨cx, hK, hN, hXF, hfl, hX, hbl⟩ := C0
  have hx := cx.1
  have hb := cx.2.1
  have hown := cx.2.2.2.1
  have hts := cx.2.2.2.2
  obtain ⟨hP, hD, hS⟩ := hW
  have hA : ∀ q, s.heap.size ≤ q → (fun q => s.heap.size ≤ q) q := fun q h => h
  have hbA : ¬ (fun q => s.heap.size ≤ q) b := fun h => absurd h (Nat.not_le.mpr hbl)
  obtain ⟨hin1, hin2, hin3, hin4, hin5⟩ := hin
  generalize ha1 : xs (i + 1).toNatClampNeg = a1
  generalize ha2 : xs (i + 2).toNatClampNeg = a2
  generalize ha3 : xs (i + 3).toNatClampNeg = a3
  generalize ha4 : xs (i + 4).toNatClampNeg = a4
  generalize ha5 : xs (i + 5).toNatClampNeg = a5
  by_cases hpz : ∃ h, h < 12 ∧ a1 = nI h ∧ pr h = true
  · obtain ⟨h, hh, hp0, hp⟩ := hpz
    obtain ⟨r, kI, kJ, nI, nJ, f1, f2, hR2⟩ := hok.1 pr I J Ih Jh IM JM O hR a1 a2 a3 h hh hp0 hp
    refine lv_aload_n hx hb d_law_527 rfl (lv_at hl 1 rfl) ?_
    refine lv_aload_n hx hb d_law_528 rfl (lv_at hl 0 rfl) ?_
    refine lv_iload hx hb d_law_529 (lv_at hl 4 rfl) ?_
    refine lv_iconst (v := 1) hx hb d_law_531 (by decide) ?_
    refine lv_iadd hx hb d_law_532 ?_
    refine jd_sld hx hb hX hbl hbA hS hin1 ha1 d_law_533 ?_
    refine lv_aload_n hx hb d_law_534 rfl (lv_at hl 0 rfl) ?_
    refine lv_iload hx hb d_law_535 (lv_at hl 4 rfl) ?_
    refine lv_iconst (v := 2) hx hb d_law_537 (by decide) ?_
    refine lv_iadd hx hb d_law_538 ?_
    refine jd_sld hx hb hX hbl hbA hS hin2 ha2 d_law_539 ?_
    refine lv_aload_n hx hb d_law_540 rfl (lv_at hl 0 rfl) ?_
    refine lv_iload hx hb d_law_541 (lv_at hl 4 rfl) ?_
    refine lv_iconst (v := 3) hx hb d_law_543 (by decide) ?_
    refine lv_iadd hx hb d_law_544 ?_
    refine jd_sld hx hb hX hbl hbA hS hin3 ha3 d_law_545 ?_
    have hPc := jd_Pp (wL_C (O := O) hh hp) hP
    have hDc := jd_Dp (wL_C (O := O) hh hp) hD
    refine jd_frl (w1 := wC ca (adC ad (adh h)) (hsOf pr adh) kI kJ) hPc hDc hS hA rfl (va_runV (As := [.int a1, .int a2, .int a3]) (rest := []) cx (cm_K_before l D ca (adC ad (adh h)) (hsOf pr adh) (hs_some hh hp0 hp) f1 H.size) (cwV 3 hts (jd_gVL tb_296 tb_297 tb_298 tb_43 tb_299) rfl rfl rfl ⟨rfl, by decide, by decide, rfl⟩ ⟨Nat.le_of_ble_eq_true rfl, Nat.le_of_ble_eq_true rfl⟩) ⟨jd_blind nWc, va_recv hK (jd_Pl hPc) (ci := 3) (q0 := 15) rfl rfl, jd_pre (av := [.ref (adC ad (adh h) 15), .int a1, .int a2, .int a3]) (jd_Pl hPc) hK (jd_Dl hDc) (fun U h => nWm h hN)⟩ rfl rfl hl.1 rfl (lv_room (Nat.le_of_ble_eq_true rfl)) d_law_546 ⟨(by show cells + 0 ≤ 601024; omega), (by show slots + 0 ≤ 7293034; omega)⟩) (fun H locs hP1 hD1 hS => ?_)
    have hP := jd_Pp (wL_C' hh hp) hP1
    have hD := jd_Dp (wL_C' hh hp) hD1
    refine lv_aload_n hx hb d_law_549 rfl (lv_at hl 2 rfl) ?_
    refine lv_aload_n hx hb d_law_550 rfl (lv_at hl 0 rfl) ?_
    refine lv_iload hx hb d_law_551 (lv_at hl 4 rfl) ?_
    refine lv_iconst (v := 1) hx hb d_law_553 (by decide) ?_
    refine lv_iadd hx hb d_law_554 ?_
    refine jd_sld hx hb hX hbl hbA hS hin1 ha1 d_law_555 ?_
    refine lv_aload_n hx hb d_law_556 rfl (lv_at hl 0 rfl) ?_
    refine lv_iload hx hb d_law_557 (lv_at hl 4 rfl) ?_
    refine lv_iconst (v := 2) hx hb d_law_559 (by decide) ?_
    refine lv_iadd hx hb d_law_560 ?_
    refine jd_sld hx hb hX hbl hbA hS hin2 ha2 d_law_561 ?_
    refine lv_aload_n hx hb d_law_562 rfl (lv_at hl 0 rfl) ?_
    refine lv_iload hx hb d_law_563 (lv_at hl 4 rfl) ?_
    refine lv_iconst (v := 3) hx hb d_law_565 (by decide) ?_
    refine lv_iadd hx hb d_law_566 ?_
    refine jd_sld hx hb hX hbl hbA hS hin3 ha3 d_law_567 ?_
    have hPm := jd_Pp (wL_M (O := O)) hP
    have hDm := jd_Dp (wL_M (O := O)) hD
    refine jd_frl (w1 := wM ca am nI nJ) hPm hDm hS hA rfl (va_runV (As := [.int a1, .int a2, .int a3]) (rest := [.long r]) cx (cm_M_before l D ca am f2 H.size) (cwV 3 hts (jd_gVL tb_744 tb_745 tb_746 tb_47 tb_747) rfl rfl rfl ⟨rfl, by decide, by decide, rfl⟩ ⟨Nat.le_of_ble_eq_true rfl, Nat.le_of_ble_eq_true rfl⟩) ⟨jd_blind nWc, va_recv hK (jd_Pl hPm) (ci := 6) (q0 := 0) rfl rfl, jd_pre (av := [.ref (am 0), .int a1, .int a2, .int a3]) (jd_Pl hPm) hK (jd_Dl hDm) (fun U h => nWm h hN)⟩ rfl rfl hl.1 rfl (lv_room (Nat.le_of_ble_eq_true rfl)) d_law_568 ⟨(by show cells + 0 ≤ 601024; omega), (by show slots + 0 ≤ 7293034; omega)⟩) (fun H locs hP1 hD1 hS => ?_)
    have hP := jd_Pp (wL_M (IM := nI) (JM := nJ) (O := O)).symm hP1
    have hD := jd_Dp (wL_M (IM := nI) (JM := nJ) (O := O)).symm hD1
    refine W.lcmp hx hb d_law_571 ?_
    refine lv_if_eq (tgt := 1175) hx hb d_law_572 rfl (fun _ => ?_) (fun h => absurd (lg_cmp_self _) h)
    exact kk adh pr kI kJ (upN Ih h kI) (upN Jh h kJ) nI nJ O H locs ls cells slots hR2 ⟨hP, hD, hS⟩ hl (by omega) (by omega)
  · have hp : ∀ h, h < 12 → a1 = nI h → pr h = false := fun h h1 h2 => by cases hq : pr h with | false => rfl | true => exact absurd ⟨h, h1, h2, hq⟩ hpz
    obtain ⟨r, nI, nJ, f1, f2, hR2⟩ := hok.2 pr I J Ih Jh IM JM O hR a1 a2 a3 hp
    refine lv_aload_n hx hb d_law_527 rfl (lv_at hl 1 rfl) ?_
    refine lv_aload_n hx hb d_law_528 rfl (lv_at hl 0 rfl) ?_
    refine lv_iload hx hb d_law_529 (lv_at hl 4 rfl) ?_
    refine lv_iconst (v := 1) hx hb d_law_531 (by decide) ?_
    refine lv_iadd hx hb d_law_532 ?_
    refine jd_sld hx hb hX hbl hbA hS hin1 ha1 d_law_533 ?_
    refine lv_aload_n hx hb d_law_534 rfl (lv_at hl 0 rfl) ?_
    refine lv_iload hx hb d_law_535 (lv_at hl 4 rfl) ?_
    refine lv_iconst (v := 2) hx hb d_law_537 (by decide) ?_
    refine lv_iadd hx hb d_law_538 ?_
    refine jd_sld hx hb hX hbl hbA hS hin2 ha2 d_law_539 ?_
    refine lv_aload_n hx hb d_law_540 rfl (lv_at hl 0 rfl) ?_
    refine lv_iload hx hb d_law_541 (lv_at hl 4 rfl) ?_
    refine lv_iconst (v := 3) hx hb d_law_543 (by decide) ?_
    refine lv_iadd hx hb d_law_544 ?_
    refine jd_sld hx hb hX hbl hbA hS hin3 ha3 d_law_545 ?_
    have hPc := hP
    have hDc := hD
    unfold wL at hPc hDc
    refine jd_frl (w1 := wD ca ad (hsOf pr adh) I J) hPc hDc hS hA rfl (va_runV (As := [.int a1, .int a2, .int a3]) (rest := []) cx (cm_K_before_n l D ca ad (hsOf pr adh) (hs_none hp) f1 H.size) (cwV 3 hts (jd_gVL tb_296 tb_297 tb_298 tb_43 tb_299) rfl rfl rfl ⟨rfl, by decide, by decide, rfl⟩ ⟨Nat.le_of_ble_eq_true rfl, Nat.le_of_ble_eq_true rfl⟩) ⟨jd_blind nWc, va_recv hK (jd_Pl hPc) (ci := 3) (q0 := 0) rfl rfl, jd_pre (av := [.ref (ad 15), .int a1, .int a2, .int a3]) (jd_Pl hPc) hK (jd_Dl hDc) (fun U h => nWm h hN)⟩ rfl rfl hl.1 rfl (lv_room (Nat.le_of_ble_eq_true rfl)) d_law_546 ⟨(by show cells + 0 ≤ 601024; omega), (by show slots + 0 ≤ 7293034; omega)⟩) (fun H locs hP1 hD1 hS => ?_)
    have hP : va_P D cls_all (wL ca ad adh am pr I J Ih Jh IM JM O) H := hP1
    have hD : va_D _ (wL ca ad adh am pr I J Ih Jh IM JM O) := hD1
    refine lv_aload_n hx hb d_law_549 rfl (lv_at hl 2 rfl) ?_
    refine lv_aload_n hx hb d_law_550 rfl (lv_at hl 0 rfl) ?_
    refine lv_iload hx hb d_law_551 (lv_at hl 4 rfl) ?_
    refine lv_iconst (v := 1) hx hb d_law_553 (by decide) ?_
    refine lv_iadd hx hb d_law_554 ?_
    refine jd_sld hx hb hX hbl hbA hS hin1 ha1 d_law_555 ?_
    refine lv_aload_n hx hb d_law_556 rfl (lv_at hl 0 rfl) ?_
    refine lv_iload hx hb d_law_557 (lv_at hl 4 rfl) ?_
    refine lv_iconst (v := 2) hx hb d_law_559 (by decide) ?_
    refine lv_iadd hx hb d_law_560 ?_
    refine jd_sld hx hb hX hbl hbA hS hin2 ha2 d_law_561 ?_
    refine lv_aload_n hx hb d_law_562 rfl (lv_at hl 0 rfl) ?_
    refine lv_iload hx hb d_law_563 (lv_at hl 4 rfl) ?_
    refine lv_iconst (v := 3) hx hb d_law_565 (by decide) ?_
    refine lv_iadd hx hb d_law_566 ?_
    refine jd_sld hx hb hX hbl hbA hS hin3 ha3 d_law_567 ?_
    have hPm := jd_Pp (wL_M (O := O)) hP
    have hDm := jd_Dp (wL_M (O := O)) hD
    refine jd_frl (w1 := wM ca am nI nJ) hPm hDm hS hA rfl (va_runV (As := [.int a1, .int a2, .int a3]) (rest := [.long r]) cx (cm_M_before l D ca am f2 H.size) (cwV 3 hts (jd_gVL tb_744 tb_745 tb_746 tb_47 tb_747) rfl rfl rfl ⟨rfl, by decide, by decide, rfl⟩ ⟨Nat.le_of_ble_eq_true rfl, Nat.le_of_ble_eq_true rfl⟩) ⟨jd_blind nWc, va_recv hK (jd_Pl hPm) (ci := 6) (q0 := 0) rfl rfl, jd_pre (av := [.ref (am 0), .int a1, .int a2, .int a3]) (jd_Pl hPm) hK (jd_Dl hDm) (fun U h => nWm h hN)⟩ rfl rfl hl.1 rfl (lv_room (Nat.le_of_ble_eq_true rfl)) d_law_568 ⟨(by show cells + 0 ≤ 601024; omega), (by show slots + 0 ≤ 7293034; omega)⟩) (fun H locs hP1 hD1 hS => ?_)
    have hP := jd_Pp (wL_M (IM := nI) (JM := nJ) (O := O)).symm hP1
    have hD := jd_Dp (wL_M (IM := nI) (JM := nJ) (O := O)).symm hD1
    refine W.lcmp hx hb d_law_571 ?_
    refine lv_if_eq (tgt := 1175) hx hb d_law_572 rfl (fun _ => ?_) (fun h => absurd (lg_cmp_self _) h)
    exact kk adh pr I J Ih Jh nI nJ O H locs ls cells slots hR2 ⟨hP, hD, hS⟩ hl (by omega) (by omega)
def Ok_meanRank (Rel : (Nat → Bool) → IS → JS → (Nat → IS) → (Nat → JS) → IS → JS → (Nat → Int64) → Prop) : Prop := (∀ (pr : Nat → Bool) (I : IS) (J : JS) (Ih : Nat → IS) (Jh : Nat → JS) (IM : IS) (JM : JS) (O : Nat → Int64), Rel pr I J Ih Jh IM JM O → ∀ (p0 : Int32) (p1 : Int32) (p2 : Int32) (h : Nat), h < 12 → p0 = nI h → pr h = true → ∃ (r : Int64), ∃ (kI : IS), ∃ (kJ : JS), ∃ (nI : IS), ∃ (nJ : JS), fm_K_meanRank p0 p1 p2 (mI (Ih h) I) (mJ (Jh h) J) = some (r, kI, kJ) ∧ fm_M_meanRank p0 p1 p2 IM JM = some (r, nI, nJ) ∧ Rel pr kI kJ (upN Ih h kI) (upN Jh h kJ) nI nJ O) ∧ (∀ (pr : Nat → Bool) (I : IS) (J : JS) (Ih : Nat → IS) (Jh : Nat → JS) (IM : IS) (JM : JS) (O : Nat → Int64), Rel pr I J Ih Jh IM JM O → ∀ (p0 : Int32) (p1 : Int32) (p2 : Int32) , (∀ h, h < 12 → p0 = nI h → pr h = false) → ∃ (r : Int64), ∃ (nI : IS), ∃ (nJ : JS), fm_K_meanRank_n p0 p1 p2 = some r ∧ fm_M_meanRank p0 p1 p2 IM JM = some (r, nI, nJ) ∧ Rel pr I J Ih Jh nI nJ O)
set_option maxHeartbeats 4000000 in
set_option maxRecDepth 100000 in
theorem law_meanRank {Rel : (Nat → Bool) → IS → JS → (Nat → IS) → (Nat → JS) → IS → JS → (Nat → Int64) → Prop} (hok : Ok_meanRank Rel) {p : Program} {l : Launch} {e : Env} {s : State} {m : MethodId} {below : List Frame} {meth : Method} {c : Code} {b L : Nat} {xs : Nat → Int32} {D : va_G} {ca : Nat → ClassId} {Q : State → Prop} (C0 : lwC p l s m meth c b L xs D ca) {ad : Nat → Nat} {adh : Nat → Nat → Nat} {am : Nat → Nat} {pr : Nat → Bool} {I : IS} {J : JS} {Ih : Nat → IS} {Jh : Nat → JS} {IM : IS} {JM : JS} {O : Nat → Int64} {H : Heap} {locs : List Loc} {ls : Array Slot} {cells slots : Nat} {i : Int32} (hR : Rel pr I J Ih Jh IM JM O) (hW : lwS D s ca ad adh am pr I J Ih Jh IM JM O H locs) (hl : lv_has ls 8 (lvL b ad am i)) (hin : vp_in (i + 1) L ∧ vp_in (i + 2) L ∧ vp_in (i + 3) L ∧ vp_in (i + 4) L ∧ vp_in (i + 5) L) (hc : cells + 16 ≤ 601024) (hs : slots + 1900 ≤ 7293034) (kk : lwK Rel p l e s m below meth c b D ca ad am i cells slots Q) : W p l e room_1 s m #[Value.ref b] below meth c H locs cells slots Q (F0 m 577 ls []) := by
  obtain ⟨cx, hK, hN, hXF, hfl, hX, hbl⟩ := C0
  have hx := cx.1
  have hb := cx.2.1
  have hown := cx.2.2.2.1
  have hts := cx.2.2.2.2
  obtain ⟨hP, hD, hS⟩ := hW
  have hA : ∀ q, s.heap.size ≤ q → (fun q => s.heap.size ≤ q) q := fun q h => h
  have hbA : ¬ (fun q => s.heap.size ≤ q) b := fun h => absurd h (Nat.not_le.mpr hbl)
  obtain ⟨hin1, hin2, hin3, hin4, hin5⟩ := hin
  generalize ha1 : xs (i + 1).toNatClampNeg = a1
  generalize ha2 : xs (i + 2).toNatClampNeg = a2
  generalize ha3 : xs (i + 3).toNatClampNeg = a3
  generalize ha4 : xs (i + 4).toNatClampNeg = a4
  generalize ha5 : xs (i + 5).toNatClampNeg = a5
  by_cases hfl0 : a3 = 0
  · by_cases hpz : ∃ h, h < 12 ∧ a1 = nI h ∧ pr h = true
    · obtain ⟨h, hh, hp0, hp⟩ := hpz
      obtain ⟨r, kI, kJ, nI, nJ, f1, f2, hR2⟩ := hok.1 pr I J Ih Jh IM JM O hR a1 a2 0 h hh hp0 hp
      refine lv_aload_n hx hb d_law_577 rfl (lv_at hl 1 rfl) ?_
      refine lv_aload_n hx hb d_law_578 rfl (lv_at hl 0 rfl) ?_
      refine lv_iload hx hb d_law_579 (lv_at hl 4 rfl) ?_
      refine lv_iconst (v := 1) hx hb d_law_581 (by decide) ?_
      refine lv_iadd hx hb d_law_582 ?_
      refine jd_sld hx hb hX hbl hbA hS hin1 ha1 d_law_583 ?_
      refine lv_aload_n hx hb d_law_584 rfl (lv_at hl 0 rfl) ?_
      refine lv_iload hx hb d_law_585 (lv_at hl 4 rfl) ?_
      refine lv_iconst (v := 2) hx hb d_law_587 (by decide) ?_
      refine lv_iadd hx hb d_law_588 ?_
      refine jd_sld hx hb hX hbl hbA hS hin2 ha2 d_law_589 ?_
      refine lv_aload_n hx hb d_law_590 rfl (lv_at hl 0 rfl) ?_
      refine lv_iload hx hb d_law_591 (lv_at hl 4 rfl) ?_
      refine lv_iconst (v := 3) hx hb d_law_593 (by decide) ?_
      refine lv_iadd hx hb d_law_594 ?_
      refine jd_sld hx hb hX hbl hbA hS hin3 ha3 d_law_595 ?_
      refine lv_if_eq (tgt := 603) hx hb d_law_596 rfl (fun _ => ?_) (fun h => absurd hfl0 h)
      refine lv_iconst (v := 0) hx hb d_law_603 (by decide) ?_
      have hPc := jd_Pp (wL_C (O := O) hh hp) hP
      have hDc := jd_Dp (wL_C (O := O) hh hp) hD
      refine jd_frl (w1 := wC ca (adC ad (adh h)) (hsOf pr adh) kI kJ) hPc hDc hS hA rfl (va_runV (As := [.int a1, .int a2, .int 0]) (rest := []) cx (cm_K_meanRank l D ca (adC ad (adh h)) (hsOf pr adh) (hs_some hh hp0 hp) f1 H.size) (cwV 3 hts (jd_gVL tb_300 tb_301 tb_302 tb_43 tb_303) rfl rfl rfl ⟨rfl, by decide, by decide, rfl⟩ ⟨Nat.le_of_ble_eq_true rfl, Nat.le_of_ble_eq_true rfl⟩) ⟨jd_blind nWc, va_recv hK (jd_Pl hPc) (ci := 3) (q0 := 15) rfl rfl, jd_pre (av := [.ref (adC ad (adh h) 15), .int a1, .int a2, .int 0]) (jd_Pl hPc) hK (jd_Dl hDc) (fun U h => nWm h hN)⟩ rfl rfl hl.1 rfl (lv_room (Nat.le_of_ble_eq_true rfl)) d_law_604 ⟨(by show cells + 0 ≤ 601024; omega), (by show slots + 0 ≤ 7293034; omega)⟩) (fun H locs hP1 hD1 hS => ?_)
      have hP := jd_Pp (wL_C' hh hp) hP1
      have hD := jd_Dp (wL_C' hh hp) hD1
      refine lv_aload_n hx hb d_law_607 rfl (lv_at hl 2 rfl) ?_
      refine lv_aload_n hx hb d_law_608 rfl (lv_at hl 0 rfl) ?_
      refine lv_iload hx hb d_law_609 (lv_at hl 4 rfl) ?_
      refine lv_iconst (v := 1) hx hb d_law_611 (by decide) ?_
      refine lv_iadd hx hb d_law_612 ?_
      refine jd_sld hx hb hX hbl hbA hS hin1 ha1 d_law_613 ?_
      refine lv_aload_n hx hb d_law_614 rfl (lv_at hl 0 rfl) ?_
      refine lv_iload hx hb d_law_615 (lv_at hl 4 rfl) ?_
      refine lv_iconst (v := 2) hx hb d_law_617 (by decide) ?_
      refine lv_iadd hx hb d_law_618 ?_
      refine jd_sld hx hb hX hbl hbA hS hin2 ha2 d_law_619 ?_
      refine lv_aload_n hx hb d_law_620 rfl (lv_at hl 0 rfl) ?_
      refine lv_iload hx hb d_law_621 (lv_at hl 4 rfl) ?_
      refine lv_iconst (v := 3) hx hb d_law_623 (by decide) ?_
      refine lv_iadd hx hb d_law_624 ?_
      refine jd_sld hx hb hX hbl hbA hS hin3 ha3 d_law_625 ?_
      refine lv_if_eq (tgt := 633) hx hb d_law_626 rfl (fun _ => ?_) (fun h => absurd hfl0 h)
      refine lv_iconst (v := 0) hx hb d_law_633 (by decide) ?_
      have hPm := jd_Pp (wL_M (O := O)) hP
      have hDm := jd_Dp (wL_M (O := O)) hD
      refine jd_frl (w1 := wM ca am nI nJ) hPm hDm hS hA rfl (va_runV (As := [.int a1, .int a2, .int 0]) (rest := [.long r]) cx (cm_M_meanRank l D ca am f2 H.size) (cwV 3 hts (jd_gVL tb_748 tb_749 tb_750 tb_47 tb_751) rfl rfl rfl ⟨rfl, by decide, by decide, rfl⟩ ⟨Nat.le_of_ble_eq_true rfl, Nat.le_of_ble_eq_true rfl⟩) ⟨jd_blind nWc, va_recv hK (jd_Pl hPm) (ci := 6) (q0 := 0) rfl rfl, jd_pre (av := [.ref (am 0), .int a1, .int a2, .int 0]) (jd_Pl hPm) hK (jd_Dl hDm) (fun U h => nWm h hN)⟩ rfl rfl hl.1 rfl (lv_room (Nat.le_of_ble_eq_true rfl)) d_law_634 ⟨(by show cells + 0 ≤ 601024; omega), (by show slots + 0 ≤ 7293034; omega)⟩) (fun H locs hP1 hD1 hS => ?_)
      have hP := jd_Pp (wL_M (IM := nI) (JM := nJ) (O := O)).symm hP1
      have hD := jd_Dp (wL_M (IM := nI) (JM := nJ) (O := O)).symm hD1
      refine W.lcmp hx hb d_law_637 ?_
      refine lv_if_eq (tgt := 1175) hx hb d_law_638 rfl (fun _ => ?_) (fun h => absurd (lg_cmp_self _) h)
      exact kk adh pr kI kJ (upN Ih h kI) (upN Jh h kJ) nI nJ O H locs ls cells slots hR2 ⟨hP, hD, hS⟩ hl (by omega) (by omega)
    · have hp : ∀ h, h < 12 → a1 = nI h → pr h = false := fun h h1 h2 => by cases hq : pr h with | false => rfl | true => exact absurd ⟨h, h1, h2, hq⟩ hpz
      obtain ⟨r, nI, nJ, f1, f2, hR2⟩ := hok.2 pr I J Ih Jh IM JM O hR a1 a2 0 hp
      refine lv_aload_n hx hb d_law_577 rfl (lv_at hl 1 rfl) ?_
      refine lv_aload_n hx hb d_law_578 rfl (lv_at hl 0 rfl) ?_
      refine lv_iload hx hb d_law_579 (lv_at hl 4 rfl) ?_
      refine lv_iconst (v := 1) hx hb d_law_581 (by decide) ?_
      refine lv_iadd hx hb d_law_582 ?_
      refine jd_sld hx hb hX hbl hbA hS hin1 ha1 d_law_583 ?_
      refine lv_aload_n hx hb d_law_584 rfl (lv_at hl 0 rfl) ?_
      refine lv_iload hx hb d_law_585 (lv_at hl 4 rfl) ?_
      refine lv_iconst (v := 2) hx hb d_law_587 (by decide) ?_
      refine lv_iadd hx hb d_law_588 ?_
      refine jd_sld hx hb hX hbl hbA hS hin2 ha2 d_law_589 ?_
      refine lv_aload_n hx hb d_law_590 rfl (lv_at hl 0 rfl) ?_
      refine lv_iload hx hb d_law_591 (lv_at hl 4 rfl) ?_
      refine lv_iconst (v := 3) hx hb d_law_593 (by decide) ?_
      refine lv_iadd hx hb d_law_594 ?_
      refine jd_sld hx hb hX hbl hbA hS hin3 ha3 d_law_595 ?_
      refine lv_if_eq (tgt := 603) hx hb d_law_596 rfl (fun _ => ?_) (fun h => absurd hfl0 h)
      refine lv_iconst (v := 0) hx hb d_law_603 (by decide) ?_
      have hPc := hP
      have hDc := hD
      unfold wL at hPc hDc
      refine jd_frl (w1 := wD ca ad (hsOf pr adh) I J) hPc hDc hS hA rfl (va_runV (As := [.int a1, .int a2, .int 0]) (rest := []) cx (cm_K_meanRank_n l D ca ad (hsOf pr adh) (hs_none hp) f1 H.size) (cwV 3 hts (jd_gVL tb_300 tb_301 tb_302 tb_43 tb_303) rfl rfl rfl ⟨rfl, by decide, by decide, rfl⟩ ⟨Nat.le_of_ble_eq_true rfl, Nat.le_of_ble_eq_true rfl⟩) ⟨jd_blind nWc, va_recv hK (jd_Pl hPc) (ci := 3) (q0 := 0) rfl rfl, jd_pre (av := [.ref (ad 15), .int a1, .int a2, .int 0]) (jd_Pl hPc) hK (jd_Dl hDc) (fun U h => nWm h hN)⟩ rfl rfl hl.1 rfl (lv_room (Nat.le_of_ble_eq_true rfl)) d_law_604 ⟨(by show cells + 0 ≤ 601024; omega), (by show slots + 0 ≤ 7293034; omega)⟩) (fun H locs hP1 hD1 hS => ?_)
      have hP : va_P D cls_all (wL ca ad adh am pr I J Ih Jh IM JM O) H := hP1
      have hD : va_D _ (wL ca ad adh am pr I J Ih Jh IM JM O) := hD1
      refine lv_aload_n hx hb d_law_607 rfl (lv_at hl 2 rfl) ?_
      refine lv_aload_n hx hb d_law_608 rfl (lv_at hl 0 rfl) ?_
      refine lv_iload hx hb d_law_609 (lv_at hl 4 rfl) ?_
      refine lv_iconst (v := 1) hx hb d_law_611 (by decide) ?_
      refine lv_iadd hx hb d_law_612 ?_
      refine jd_sld hx hb hX hbl hbA hS hin1 ha1 d_law_613 ?_
      refine lv_aload_n hx hb d_law_614 rfl (lv_at hl 0 rfl) ?_
      refine lv_iload hx hb d_law_615 (lv_at hl 4 rfl) ?_
      refine lv_iconst (v := 2) hx hb d_law_617 (by decide) ?_
      refine lv_iadd hx hb d_law_618 ?_
      refine jd_sld hx hb hX hbl hbA hS hin2 ha2 d_law_619 ?_
      refine lv_aload_n hx hb d_law_620 rfl (lv_at hl 0 rfl) ?_
      refine lv_iload hx hb d_law_621 (lv_at hl 4 rfl) ?_
      refine lv_iconst (v := 3) hx hb d_law_623 (by decide) ?_
      refine lv_iadd hx hb d_law_624 ?_
      refine jd_sld hx hb hX hbl hbA hS hin3 ha3 d_law_625 ?_
      refine lv_if_eq (tgt := 633) hx hb d_law_626 rfl (fun _ => ?_) (fun h => absurd hfl0 h)
      refine lv_iconst (v := 0) hx hb d_law_633 (by decide) ?_
      have hPm := jd_Pp (wL_M (O := O)) hP
      have hDm := jd_Dp (wL_M (O := O)) hD
      refine jd_frl (w1 := wM ca am nI nJ) hPm hDm hS hA rfl (va_runV (As := [.int a1, .int a2, .int 0]) (rest := [.long r]) cx (cm_M_meanRank l D ca am f2 H.size) (cwV 3 hts (jd_gVL tb_748 tb_749 tb_750 tb_47 tb_751) rfl rfl rfl ⟨rfl, by decide, by decide, rfl⟩ ⟨Nat.le_of_ble_eq_true rfl, Nat.le_of_ble_eq_true rfl⟩) ⟨jd_blind nWc, va_recv hK (jd_Pl hPm) (ci := 6) (q0 := 0) rfl rfl, jd_pre (av := [.ref (am 0), .int a1, .int a2, .int 0]) (jd_Pl hPm) hK (jd_Dl hDm) (fun U h => nWm h hN)⟩ rfl rfl hl.1 rfl (lv_room (Nat.le_of_ble_eq_true rfl)) d_law_634 ⟨(by show cells + 0 ≤ 601024; omega), (by show slots + 0 ≤ 7293034; omega)⟩) (fun H locs hP1 hD1 hS => ?_)
      have hP := jd_Pp (wL_M (IM := nI) (JM := nJ) (O := O)).symm hP1
      have hD := jd_Dp (wL_M (IM := nI) (JM := nJ) (O := O)).symm hD1
      refine W.lcmp hx hb d_law_637 ?_
      refine lv_if_eq (tgt := 1175) hx hb d_law_638 rfl (fun _ => ?_) (fun h => absurd (lg_cmp_self _) h)
      exact kk adh pr I J Ih Jh nI nJ O H locs ls cells slots hR2 ⟨hP, hD, hS⟩ hl (by omega) (by omega)
  · by_cases hpz : ∃ h, h < 12 ∧ a1 = nI h ∧ pr h = true
    · obtain ⟨h, hh, hp0, hp⟩ := hpz
      obtain ⟨r, kI, kJ, nI, nJ, f1, f2, hR2⟩ := hok.1 pr I J Ih Jh IM JM O hR a1 a2 1 h hh hp0 hp
      refine lv_aload_n hx hb d_law_577 rfl (lv_at hl 1 rfl) ?_
      refine lv_aload_n hx hb d_law_578 rfl (lv_at hl 0 rfl) ?_
      refine lv_iload hx hb d_law_579 (lv_at hl 4 rfl) ?_
      refine lv_iconst (v := 1) hx hb d_law_581 (by decide) ?_
      refine lv_iadd hx hb d_law_582 ?_
      refine jd_sld hx hb hX hbl hbA hS hin1 ha1 d_law_583 ?_
      refine lv_aload_n hx hb d_law_584 rfl (lv_at hl 0 rfl) ?_
      refine lv_iload hx hb d_law_585 (lv_at hl 4 rfl) ?_
      refine lv_iconst (v := 2) hx hb d_law_587 (by decide) ?_
      refine lv_iadd hx hb d_law_588 ?_
      refine jd_sld hx hb hX hbl hbA hS hin2 ha2 d_law_589 ?_
      refine lv_aload_n hx hb d_law_590 rfl (lv_at hl 0 rfl) ?_
      refine lv_iload hx hb d_law_591 (lv_at hl 4 rfl) ?_
      refine lv_iconst (v := 3) hx hb d_law_593 (by decide) ?_
      refine lv_iadd hx hb d_law_594 ?_
      refine jd_sld hx hb hX hbl hbA hS hin3 ha3 d_law_595 ?_
      refine lv_if_eq (tgt := 603) hx hb d_law_596 rfl (fun h => absurd h hfl0) (fun _ => ?_)
      refine lv_iconst (v := 1) hx hb d_law_599 (by decide) ?_
      refine lv_goto (tgt := 604) hx hb d_law_600 rfl ?_
      have hPc := jd_Pp (wL_C (O := O) hh hp) hP
      have hDc := jd_Dp (wL_C (O := O) hh hp) hD
      refine jd_frl (w1 := wC ca (adC ad (adh h)) (hsOf pr adh) kI kJ) hPc hDc hS hA rfl (va_runV (As := [.int a1, .int a2, .int 1]) (rest := []) cx (cm_K_meanRank l D ca (adC ad (adh h)) (hsOf pr adh) (hs_some hh hp0 hp) f1 H.size) (cwV 3 hts (jd_gVL tb_300 tb_301 tb_302 tb_43 tb_303) rfl rfl rfl ⟨rfl, by decide, by decide, rfl⟩ ⟨Nat.le_of_ble_eq_true rfl, Nat.le_of_ble_eq_true rfl⟩) ⟨jd_blind nWc, va_recv hK (jd_Pl hPc) (ci := 3) (q0 := 15) rfl rfl, jd_pre (av := [.ref (adC ad (adh h) 15), .int a1, .int a2, .int 1]) (jd_Pl hPc) hK (jd_Dl hDc) (fun U h => nWm h hN)⟩ rfl rfl hl.1 rfl (lv_room (Nat.le_of_ble_eq_true rfl)) d_law_604 ⟨(by show cells + 0 ≤ 601024; omega), (by show slots + 0 ≤ 7293034; omega)⟩) (fun H locs hP1 hD1 hS => ?_)
      have hP := jd_Pp (wL_C' hh hp) hP1
      have hD := jd_Dp (wL_C' hh hp) hD1
      refine lv_aload_n hx hb d_law_607 rfl (lv_at hl 2 rfl) ?_
      refine lv_aload_n hx hb d_law_608 rfl (lv_at hl 0 rfl) ?_
      refine lv_iload hx hb d_law_609 (lv_at hl 4 rfl) ?_
      refine lv_iconst (v := 1) hx hb d_law_611 (by decide) ?_
      refine lv_iadd hx hb d_law_612 ?_
      refine jd_sld hx hb hX hbl hbA hS hin1 ha1 d_law_613 ?_
      refine lv_aload_n hx hb d_law_614 rfl (lv_at hl 0 rfl) ?_
      refine lv_iload hx hb d_law_615 (lv_at hl 4 rfl) ?_
      refine lv_iconst (v := 2) hx hb d_law_617 (by decide) ?_
      refine lv_iadd hx hb d_law_618 ?_
      refine jd_sld hx hb hX hbl hbA hS hin2 ha2 d_law_619 ?_
      refine lv_aload_n hx hb d_law_620 rfl (lv_at hl 0 rfl) ?_
      refine lv_iload hx hb d_law_621 (lv_at hl 4 rfl) ?_
      refine lv_iconst (v := 3) hx hb d_law_623 (by decide) ?_
      refine lv_iadd hx hb d_law_624 ?_
      refine jd_sld hx hb hX hbl hbA hS hin3 ha3 d_law_625 ?_
      refine lv_if_eq (tgt := 633) hx hb d_law_626 rfl (fun h => absurd h hfl0) (fun _ => ?_)
      refine lv_iconst (v := 1) hx hb d_law_629 (by decide) ?_
      refine lv_goto (tgt := 634) hx hb d_law_630 rfl ?_
      have hPm := jd_Pp (wL_M (O := O)) hP
      have hDm := jd_Dp (wL_M (O := O)) hD
      refine jd_frl (w1 := wM ca am nI nJ) hPm hDm hS hA rfl (va_runV (As := [.int a1, .int a2, .int 1]) (rest := [.long r]) cx (cm_M_meanRank l D ca am f2 H.size) (cwV 3 hts (jd_gVL tb_748 tb_749 tb_750 tb_47 tb_751) rfl rfl rfl ⟨rfl, by decide, by decide, rfl⟩ ⟨Nat.le_of_ble_eq_true rfl, Nat.le_of_ble_eq_true rfl⟩) ⟨jd_blind nWc, va_recv hK (jd_Pl hPm) (ci := 6) (q0 := 0) rfl rfl, jd_pre (av := [.ref (am 0), .int a1, .int a2, .int 1]) (jd_Pl hPm) hK (jd_Dl hDm) (fun U h => nWm h hN)⟩ rfl rfl hl.1 rfl (lv_room (Nat.le_of_ble_eq_true rfl)) d_law_634 ⟨(by show cells + 0 ≤ 601024; omega), (by show slots + 0 ≤ 7293034; omega)⟩) (fun H locs hP1 hD1 hS => ?_)
      have hP := jd_Pp (wL_M (IM := nI) (JM := nJ) (O := O)).symm hP1
      have hD := jd_Dp (wL_M (IM := nI) (JM := nJ) (O := O)).symm hD1
      refine W.lcmp hx hb d_law_637 ?_
      refine lv_if_eq (tgt := 1175) hx hb d_law_638 rfl (fun _ => ?_) (fun h => absurd (lg_cmp_self _) h)
      exact kk adh pr kI kJ (upN Ih h kI) (upN Jh h kJ) nI nJ O H locs ls cells slots hR2 ⟨hP, hD, hS⟩ hl (by omega) (by omega)
    · have hp : ∀ h, h < 12 → a1 = nI h → pr h = false := fun h h1 h2 => by cases hq : pr h with | false => rfl | true => exact absurd ⟨h, h1, h2, hq⟩ hpz
      obtain ⟨r, nI, nJ, f1, f2, hR2⟩ := hok.2 pr I J Ih Jh IM JM O hR a1 a2 1 hp
      refine lv_aload_n hx hb d_law_577 rfl (lv_at hl 1 rfl) ?_
      refine lv_aload_n hx hb d_law_578 rfl (lv_at hl 0 rfl) ?_
      refine lv_iload hx hb d_law_579 (lv_at hl 4 rfl) ?_
      refine lv_iconst (v := 1) hx hb d_law_581 (by decide) ?_
      refine lv_iadd hx hb d_law_582 ?_
      refine jd_sld hx hb hX hbl hbA hS hin1 ha1 d_law_583 ?_
      refine lv_aload_n hx hb d_law_584 rfl (lv_at hl 0 rfl) ?_
      refine lv_iload hx hb d_law_585 (lv_at hl 4 rfl) ?_
      refine lv_iconst (v := 2) hx hb d_law_587 (by decide) ?_
      refine lv_iadd hx hb d_law_588 ?_
      refine jd_sld hx hb hX hbl hbA hS hin2 ha2 d_law_589 ?_
      refine lv_aload_n hx hb d_law_590 rfl (lv_at hl 0 rfl) ?_
      refine lv_iload hx hb d_law_591 (lv_at hl 4 rfl) ?_
      refine lv_iconst (v := 3) hx hb d_law_593 (by decide) ?_
      refine lv_iadd hx hb d_law_594 ?_
      refine jd_sld hx hb hX hbl hbA hS hin3 ha3 d_law_595 ?_
      refine lv_if_eq (tgt := 603) hx hb d_law_596 rfl (fun h => absurd h hfl0) (fun _ => ?_)
      refine lv_iconst (v := 1) hx hb d_law_599 (by decide) ?_
      refine lv_goto (tgt := 604) hx hb d_law_600 rfl ?_
      have hPc := hP
      have hDc := hD
      unfold wL at hPc hDc
      refine jd_frl (w1 := wD ca ad (hsOf pr adh) I J) hPc hDc hS hA rfl (va_runV (As := [.int a1, .int a2, .int 1]) (rest := []) cx (cm_K_meanRank_n l D ca ad (hsOf pr adh) (hs_none hp) f1 H.size) (cwV 3 hts (jd_gVL tb_300 tb_301 tb_302 tb_43 tb_303) rfl rfl rfl ⟨rfl, by decide, by decide, rfl⟩ ⟨Nat.le_of_ble_eq_true rfl, Nat.le_of_ble_eq_true rfl⟩) ⟨jd_blind nWc, va_recv hK (jd_Pl hPc) (ci := 3) (q0 := 0) rfl rfl, jd_pre (av := [.ref (ad 15), .int a1, .int a2, .int 1]) (jd_Pl hPc) hK (jd_Dl hDc) (fun U h => nWm h hN)⟩ rfl rfl hl.1 rfl (lv_room (Nat.le_of_ble_eq_true rfl)) d_law_604 ⟨(by show cells + 0 ≤ 601024; omega), (by show slots + 0 ≤ 7293034; omega)⟩) (fun H locs hP1 hD1 hS => ?_)
      have hP : va_P D cls_all (wL ca ad adh am pr I J Ih Jh IM JM O) H := hP1
      have hD : va_D _ (wL ca ad adh am pr I J Ih Jh IM JM O) := hD1
      refine lv_aload_n hx hb d_law_607 rfl (lv_at hl 2 rfl) ?_
      refine lv_aload_n hx hb d_law_608 rfl (lv_at hl 0 rfl) ?_
      refine lv_iload hx hb d_law_609 (lv_at hl 4 rfl) ?_
      refine lv_iconst (v := 1) hx hb d_law_611 (by decide) ?_
      refine lv_iadd hx hb d_law_612 ?_
      refine jd_sld hx hb hX hbl hbA hS hin1 ha1 d_law_613 ?_
      refine lv_aload_n hx hb d_law_614 rfl (lv_at hl 0 rfl) ?_
      refine lv_iload hx hb d_law_615 (lv_at hl 4 rfl) ?_
      refine lv_iconst (v := 2) hx hb d_law_617 (by decide) ?_
      refine lv_iadd hx hb d_law_618 ?_
      refine jd_sld hx hb hX hbl hbA hS hin2 ha2 d_law_619 ?_
      refine lv_aload_n hx hb d_law_620 rfl (lv_at hl 0 rfl) ?_
      refine lv_iload hx hb d_law_621 (lv_at hl 4 rfl) ?_
      refine lv_iconst (v := 3) hx hb d_law_623 (by decide) ?_
      refine lv_iadd hx hb d_law_624 ?_
      refine jd_sld hx hb hX hbl hbA hS hin3 ha3 d_law_625 ?_
      refine lv_if_eq (tgt := 633) hx hb d_law_626 rfl (fun h => absurd h hfl0) (fun _ => ?_)
      refine lv_iconst (v := 1) hx hb d_law_629 (by decide) ?_
      refine lv_goto (tgt := 634) hx hb d_law_630 rfl ?_
      have hPm := jd_Pp (wL_M (O := O)) hP
      have hDm := jd_Dp (wL_M (O := O)) hD
      refine jd_frl (w1 := wM ca am nI nJ) hPm hDm hS hA rfl (va_runV (As := [.int a1, .int a2, .int 1]) (rest := [.long r]) cx (cm_M_meanRank l D ca am f2 H.size) (cwV 3 hts (jd_gVL tb_748 tb_749 tb_750 tb_47 tb_751) rfl rfl rfl ⟨rfl, by decide, by decide, rfl⟩ ⟨Nat.le_of_ble_eq_true rfl, Nat.le_of_ble_eq_true rfl⟩) ⟨jd_blind nWc, va_recv hK (jd_Pl hPm) (ci := 6) (q0 := 0) rfl rfl, jd_pre (av := [.ref (am 0), .int a1, .int a2, .int 1]) (jd_Pl hPm) hK (jd_Dl hDm) (fun U h => nWm h hN)⟩ rfl rfl hl.1 rfl (lv_room (Nat.le_of_ble_eq_true rfl)) d_law_634 ⟨(by show cells + 0 ≤ 601024; omega), (by show slots + 0 ≤ 7293034; omega)⟩) (fun H locs hP1 hD1 hS => ?_)
      have hP := jd_Pp (wL_M (IM := nI) (JM := nJ) (O := O)).symm hP1
      have hD := jd_Dp (wL_M (IM := nI) (JM := nJ) (O := O)).symm hD1
      refine W.lcmp hx hb d_law_637 ?_
      refine lv_if_eq (tgt := 1175) hx hb d_law_638 rfl (fun _ => ?_) (fun h => absurd (lg_cmp_self _) h)
      exact kk adh pr I J Ih Jh nI nJ O H locs ls cells slots hR2 ⟨hP, hD, hS⟩ hl (by omega) (by omega)
def Ok_order (Rel : (Nat → Bool) → IS → JS → (Nat → IS) → (Nat → JS) → IS → JS → (Nat → Int64) → Prop) : Prop := (∀ (pr : Nat → Bool) (I : IS) (J : JS) (Ih : Nat → IS) (Jh : Nat → JS) (IM : IS) (JM : JS) (O : Nat → Int64), Rel pr I J Ih Jh IM JM O → ∀ (p0 : Int32) (p1 : Int64) (p2 : Int32) (h : Nat), h < 12 → p0 = nI h → pr h = true → ∃ (r : Int32), ∃ (kI : IS), ∃ (kJ : JS), ∃ (nI : IS), ∃ (nJ : JS), fm_K_order p0 p1 p2 (mI (Ih h) I) (mJ (Jh h) J) = some (r, kI, kJ) ∧ fm_M_order p0 p1 p2 IM JM = some (r, nI, nJ) ∧ Rel pr kI kJ (upN Ih h kI) (upN Jh h kJ) nI nJ O) ∧ (∀ (pr : Nat → Bool) (I : IS) (J : JS) (Ih : Nat → IS) (Jh : Nat → JS) (IM : IS) (JM : JS) (O : Nat → Int64), Rel pr I J Ih Jh IM JM O → ∀ (p0 : Int32) (p1 : Int64) (p2 : Int32) , (∀ h, h < 12 → p0 = nI h → pr h = false) → ∃ (r : Int32), ∃ (nI : IS), ∃ (nJ : JS), fm_K_order_n p0 p1 p2 = some r ∧ fm_M_order p0 p1 p2 IM JM = some (r, nI, nJ) ∧ Rel pr I J Ih Jh nI nJ O)
set_option maxHeartbeats 4000000 in
set_option maxRecDepth 100000 in
theorem law_order {Rel : (Nat → Bool) → IS → JS → (Nat → IS) → (Nat → JS) → IS → JS → (Nat → Int64) → Prop} (hok : Ok_order Rel) {p : Program} {l : Launch} {e : Env} {s : State} {m : MethodId} {below : List Frame} {meth : Method} {c : Code} {b L : Nat} {xs : Nat → Int32} {D : va_G} {ca : Nat → ClassId} {Q : State → Prop} (C0 : lwC p l s m meth c b L xs D ca) {ad : Nat → Nat} {adh : Nat → Nat → Nat} {am : Nat → Nat} {pr : Nat → Bool} {I : IS} {J : JS} {Ih : Nat → IS} {Jh : Nat → JS} {IM : IS} {JM : JS} {O : Nat → Int64} {H : Heap} {locs : List Loc} {ls : Array Slot} {cells slots : Nat} {i : Int32} (hR : Rel pr I J Ih Jh IM JM O) (hW : lwS D s ca ad adh am pr I J Ih Jh IM JM O H locs) (hl : lv_has ls 8 (lvL b ad am i)) (hin : vp_in (i + 1) L ∧ vp_in (i + 2) L ∧ vp_in (i + 3) L ∧ vp_in (i + 4) L ∧ vp_in (i + 5) L) (hc : cells + 16 ≤ 601024) (hs : slots + 1900 ≤ 7293034) (kk : lwK Rel p l e s m below meth c b D ca ad am i cells slots Q) : W p l e room_1 s m #[Value.ref b] below meth c H locs cells slots Q (F0 m 802 ls []) := by
  obtain ⟨cx, hK, hN, hXF, hfl, hX, hbl⟩ := C0
  have hx := cx.1
  have hb := cx.2.1
  have hown := cx.2.2.2.1
  have hts := cx.2.2.2.2
  obtain ⟨hP, hD, hS⟩ := hW
  have hA : ∀ q, s.heap.size ≤ q → (fun q => s.heap.size ≤ q) q := fun q h => h
  have hbA : ¬ (fun q => s.heap.size ≤ q) b := fun h => absurd h (Nat.not_le.mpr hbl)
  obtain ⟨hin1, hin2, hin3, hin4, hin5⟩ := hin
  generalize ha1 : xs (i + 1).toNatClampNeg = a1
  generalize ha2 : xs (i + 2).toNatClampNeg = a2
  generalize ha3 : xs (i + 3).toNatClampNeg = a3
  generalize ha4 : xs (i + 4).toNatClampNeg = a4
  generalize ha5 : xs (i + 5).toNatClampNeg = a5
  by_cases hpz : ∃ h, h < 12 ∧ a1 = nI h ∧ pr h = true
  · obtain ⟨h, hh, hp0, hp⟩ := hpz
    obtain ⟨r, kI, kJ, nI, nJ, f1, f2, hR2⟩ := hok.1 pr I J Ih Jh IM JM O hR a1 (a2.toInt64 <<< ((32 : Int32).toInt64 &&& 63) ||| a3.toInt64 &&& 4294967295) a4 h hh hp0 hp
    refine lv_aload_n hx hb d_law_802 rfl (lv_at hl 1 rfl) ?_
    refine lv_aload_n hx hb d_law_803 rfl (lv_at hl 0 rfl) ?_
    refine lv_iload hx hb d_law_804 (lv_at hl 4 rfl) ?_
    refine lv_iconst (v := 1) hx hb d_law_806 (by decide) ?_
    refine lv_iadd hx hb d_law_807 ?_
    refine jd_sld hx hb hX hbl hbA hS hin1 ha1 d_law_808 ?_
    refine lv_aload_n hx hb d_law_809 rfl (lv_at hl 0 rfl) ?_
    refine lv_iload hx hb d_law_810 (lv_at hl 4 rfl) ?_
    refine lv_iconst (v := 2) hx hb d_law_812 (by decide) ?_
    refine lv_iadd hx hb d_law_813 ?_
    refine jd_sld hx hb hX hbl hbA hS hin2 ha2 d_law_814 ?_
    refine lv_i2l hx hb d_law_815 rfl ?_
    refine lv_bipush (v := 32) hx hb d_law_816 (by decide) ?_
    refine lv_lshl hx hb d_law_818 rfl ?_
    refine lv_aload_n hx hb d_law_819 rfl (lv_at hl 0 rfl) ?_
    refine lv_iload hx hb d_law_820 (lv_at hl 4 rfl) ?_
    refine lv_iconst (v := 3) hx hb d_law_822 (by decide) ?_
    refine lv_iadd hx hb d_law_823 ?_
    refine jd_sld hx hb hX hbl hbA hS hin3 ha3 d_law_824 ?_
    refine lv_i2l hx hb d_law_825 rfl ?_
    refine lv_ldc2 (v := 4294967295) hx hb hown (hts _ (TB_in _ tb_823)) d_law_826 ?_
    refine lv_land hx hb d_law_829 ?_
    refine lv_lor hx hb d_law_830 ?_
    refine lv_aload_n hx hb d_law_831 rfl (lv_at hl 0 rfl) ?_
    refine lv_iload hx hb d_law_832 (lv_at hl 4 rfl) ?_
    refine lv_iconst (v := 4) hx hb d_law_834 (by decide) ?_
    refine lv_iadd hx hb d_law_835 ?_
    refine jd_sld hx hb hX hbl hbA hS hin4 ha4 d_law_836 ?_
    have hPc := jd_Pp (wL_C (O := O) hh hp) hP
    have hDc := jd_Dp (wL_C (O := O) hh hp) hD
    refine jd_fri (w1 := wC ca (adC ad (adh h)) (hsOf pr adh) kI kJ) hPc hDc hS hA rfl (va_runV (As := [.int a1, .long (a2.toInt64 <<< ((32 : Int32).toInt64 &&& 63) ||| a3.toInt64 &&& 4294967295), .int a4]) (rest := []) cx (cm_K_order l D ca (adC ad (adh h)) (hsOf pr adh) (hs_some hh hp0 hp) f1 H.size) (cwV 3 hts (jd_gVL tb_314 tb_315 tb_316 tb_43 tb_317) rfl rfl rfl ⟨rfl, by decide, by decide, rfl⟩ ⟨Nat.le_of_ble_eq_true rfl, Nat.le_of_ble_eq_true rfl⟩) ⟨jd_blind nWc, va_recv hK (jd_Pl hPc) (ci := 3) (q0 := 15) rfl rfl, jd_pre (av := [.ref (adC ad (adh h) 15), .int a1, .long (a2.toInt64 <<< ((32 : Int32).toInt64 &&& 63) ||| a3.toInt64 &&& 4294967295), .int a4]) (jd_Pl hPc) hK (jd_Dl hDc) (fun U h => nWm h hN)⟩ rfl rfl hl.1 rfl (lv_room (Nat.le_of_ble_eq_true rfl)) d_law_837 ⟨(by show cells + 0 ≤ 601024; omega), (by show slots + 0 ≤ 7293034; omega)⟩) (fun H locs hP1 hD1 hS => ?_)
    have hP := jd_Pp (wL_C' hh hp) hP1
    have hD := jd_Dp (wL_C' hh hp) hD1
    refine lv_aload_n hx hb d_law_840 rfl (lv_at hl 2 rfl) ?_
    refine lv_aload_n hx hb d_law_841 rfl (lv_at hl 0 rfl) ?_
    refine lv_iload hx hb d_law_842 (lv_at hl 4 rfl) ?_
    refine lv_iconst (v := 1) hx hb d_law_844 (by decide) ?_
    refine lv_iadd hx hb d_law_845 ?_
    refine jd_sld hx hb hX hbl hbA hS hin1 ha1 d_law_846 ?_
    refine lv_aload_n hx hb d_law_847 rfl (lv_at hl 0 rfl) ?_
    refine lv_iload hx hb d_law_848 (lv_at hl 4 rfl) ?_
    refine lv_iconst (v := 2) hx hb d_law_850 (by decide) ?_
    refine lv_iadd hx hb d_law_851 ?_
    refine jd_sld hx hb hX hbl hbA hS hin2 ha2 d_law_852 ?_
    refine lv_i2l hx hb d_law_853 rfl ?_
    refine lv_bipush (v := 32) hx hb d_law_854 (by decide) ?_
    refine lv_lshl hx hb d_law_856 rfl ?_
    refine lv_aload_n hx hb d_law_857 rfl (lv_at hl 0 rfl) ?_
    refine lv_iload hx hb d_law_858 (lv_at hl 4 rfl) ?_
    refine lv_iconst (v := 3) hx hb d_law_860 (by decide) ?_
    refine lv_iadd hx hb d_law_861 ?_
    refine jd_sld hx hb hX hbl hbA hS hin3 ha3 d_law_862 ?_
    refine lv_i2l hx hb d_law_863 rfl ?_
    refine lv_ldc2 (v := 4294967295) hx hb hown (hts _ (TB_in _ tb_823)) d_law_864 ?_
    refine lv_land hx hb d_law_867 ?_
    refine lv_lor hx hb d_law_868 ?_
    refine lv_aload_n hx hb d_law_869 rfl (lv_at hl 0 rfl) ?_
    refine lv_iload hx hb d_law_870 (lv_at hl 4 rfl) ?_
    refine lv_iconst (v := 4) hx hb d_law_872 (by decide) ?_
    refine lv_iadd hx hb d_law_873 ?_
    refine jd_sld hx hb hX hbl hbA hS hin4 ha4 d_law_874 ?_
    have hPm := jd_Pp (wL_M (O := O)) hP
    have hDm := jd_Dp (wL_M (O := O)) hD
    refine jd_fri (w1 := wM ca am nI nJ) hPm hDm hS hA rfl (va_runV (As := [.int a1, .long (a2.toInt64 <<< ((32 : Int32).toInt64 &&& 63) ||| a3.toInt64 &&& 4294967295), .int a4]) (rest := [.int r]) cx (cm_M_order l D ca am f2 H.size) (cwV 3 hts (jd_gVL tb_759 tb_760 tb_761 tb_47 tb_762) rfl rfl rfl ⟨rfl, by decide, by decide, rfl⟩ ⟨Nat.le_of_ble_eq_true rfl, Nat.le_of_ble_eq_true rfl⟩) ⟨jd_blind nWc, va_recv hK (jd_Pl hPm) (ci := 6) (q0 := 0) rfl rfl, jd_pre (av := [.ref (am 0), .int a1, .long (a2.toInt64 <<< ((32 : Int32).toInt64 &&& 63) ||| a3.toInt64 &&& 4294967295), .int a4]) (jd_Pl hPm) hK (jd_Dl hDm) (fun U h => nWm h hN)⟩ rfl rfl hl.1 rfl (lv_room (Nat.le_of_ble_eq_true rfl)) d_law_875 ⟨(by show cells + 0 ≤ 601024; omega), (by show slots + 0 ≤ 7293034; omega)⟩) (fun H locs hP1 hD1 hS => ?_)
    have hP := jd_Pp (wL_M (IM := nI) (JM := nJ) (O := O)).symm hP1
    have hD := jd_Dp (wL_M (IM := nI) (JM := nJ) (O := O)).symm hD1
    refine lv_icmp_eq (tgt := 1175) hx hb d_law_878 rfl (fun _ => ?_) (fun h => absurd rfl h)
    exact kk adh pr kI kJ (upN Ih h kI) (upN Jh h kJ) nI nJ O H locs ls cells slots hR2 ⟨hP, hD, hS⟩ hl (by omega) (by omega)
  · have hp : ∀ h, h < 12 → a1 = nI h → pr h = false := fun h h1 h2 => by cases hq : pr h with | false => rfl | true => exact absurd ⟨h, h1, h2, hq⟩ hpz
    obtain ⟨r, nI, nJ, f1, f2, hR2⟩ := hok.2 pr I J Ih Jh IM JM O hR a1 (a2.toInt64 <<< ((32 : Int32).toInt64 &&& 63) ||| a3.toInt64 &&& 4294967295) a4 hp
    refine lv_aload_n hx hb d_law_802 rfl (lv_at hl 1 rfl) ?_
    refine lv_aload_n hx hb d_law_803 rfl (lv_at hl 0 rfl) ?_
    refine lv_iload hx hb d_law_804 (lv_at hl 4 rfl) ?_
    refine lv_iconst (v := 1) hx hb d_law_806 (by decide) ?_
    refine lv_iadd hx hb d_law_807 ?_
    refine jd_sld hx hb hX hbl hbA hS hin1 ha1 d_law_808 ?_
    refine lv_aload_n hx hb d_law_809 rfl (lv_at hl 0 rfl) ?_
    refine lv_iload hx hb d_law_810 (lv_at hl 4 rfl) ?_
    refine lv_iconst (v := 2) hx hb d_law_812 (by decide) ?_
    refine lv_iadd hx hb d_law_813 ?_
    refine jd_sld hx hb hX hbl hbA hS hin2 ha2 d_law_814 ?_
    refine lv_i2l hx hb d_law_815 rfl ?_
    refine lv_bipush (v := 32) hx hb d_law_816 (by decide) ?_
    refine lv_lshl hx hb d_law_818 rfl ?_
    refine lv_aload_n hx hb d_law_819 rfl (lv_at hl 0 rfl) ?_
    refine lv_iload hx hb d_law_820 (lv_at hl 4 rfl) ?_
    refine lv_iconst (v := 3) hx hb d_law_822 (by decide) ?_
    refine lv_iadd hx hb d_law_823 ?_
    refine jd_sld hx hb hX hbl hbA hS hin3 ha3 d_law_824 ?_
    refine lv_i2l hx hb d_law_825 rfl ?_
    refine lv_ldc2 (v := 4294967295) hx hb hown (hts _ (TB_in _ tb_823)) d_law_826 ?_
    refine lv_land hx hb d_law_829 ?_
    refine lv_lor hx hb d_law_830 ?_
    refine lv_aload_n hx hb d_law_831 rfl (lv_at hl 0 rfl) ?_
    refine lv_iload hx hb d_law_832 (lv_at hl 4 rfl) ?_
    refine lv_iconst (v := 4) hx hb d_law_834 (by decide) ?_
    refine lv_iadd hx hb d_law_835 ?_
    refine jd_sld hx hb hX hbl hbA hS hin4 ha4 d_law_836 ?_
    have hPc := hP
    have hDc := hD
    unfold wL at hPc hDc
    refine jd_fri (w1 := wD ca ad (hsOf pr adh) I J) hPc hDc hS hA rfl (va_runV (As := [.int a1, .long (a2.toInt64 <<< ((32 : Int32).toInt64 &&& 63) ||| a3.toInt64 &&& 4294967295), .int a4]) (rest := []) cx (cm_K_order_n l D ca ad (hsOf pr adh) (hs_none hp) f1 H.size) (cwV 3 hts (jd_gVL tb_314 tb_315 tb_316 tb_43 tb_317) rfl rfl rfl ⟨rfl, by decide, by decide, rfl⟩ ⟨Nat.le_of_ble_eq_true rfl, Nat.le_of_ble_eq_true rfl⟩) ⟨jd_blind nWc, va_recv hK (jd_Pl hPc) (ci := 3) (q0 := 0) rfl rfl, jd_pre (av := [.ref (ad 15), .int a1, .long (a2.toInt64 <<< ((32 : Int32).toInt64 &&& 63) ||| a3.toInt64 &&& 4294967295), .int a4]) (jd_Pl hPc) hK (jd_Dl hDc) (fun U h => nWm h hN)⟩ rfl rfl hl.1 rfl (lv_room (Nat.le_of_ble_eq_true rfl)) d_law_837 ⟨(by show cells + 0 ≤ 601024; omega), (by show slots + 0 ≤ 7293034; omega)⟩) (fun H locs hP1 hD1 hS => ?_)
    have hP : va_P D cls_all (wL ca ad adh am pr I J Ih Jh IM JM O) H := hP1
    have hD : va_D _ (wL ca ad adh am pr I J Ih Jh IM JM O) := hD1
    refine lv_aload_n hx hb d_law_840 rfl (lv_at hl 2 rfl) ?_
    refine lv_aload_n hx hb d_law_841 rfl (lv_at hl 0 rfl) ?_
    refine lv_iload hx hb d_law_842 (lv_at hl 4 rfl) ?_
    refine lv_iconst (v := 1) hx hb d_law_844 (by decide) ?_
    refine lv_iadd hx hb d_law_845 ?_
    refine jd_sld hx hb hX hbl hbA hS hin1 ha1 d_law_846 ?_
    refine lv_aload_n hx hb d_law_847 rfl (lv_at hl 0 rfl) ?_
    refine lv_iload hx hb d_law_848 (lv_at hl 4 rfl) ?_
    refine lv_iconst (v := 2) hx hb d_law_850 (by decide) ?_
    refine lv_iadd hx hb d_law_851 ?_
    refine jd_sld hx hb hX hbl hbA hS hin2 ha2 d_law_852 ?_
    refine lv_i2l hx hb d_law_853 rfl ?_
    refine lv_bipush (v := 32) hx hb d_law_854 (by decide) ?_
    refine lv_lshl hx hb d_law_856 rfl ?_
    refine lv_aload_n hx hb d_law_857 rfl (lv_at hl 0 rfl) ?_
    refine lv_iload hx hb d_law_858 (lv_at hl 4 rfl) ?_
    refine lv_iconst (v := 3) hx hb d_law_860 (by decide) ?_
    refine lv_iadd hx hb d_law_861 ?_
    refine jd_sld hx hb hX hbl hbA hS hin3 ha3 d_law_862 ?_
    refine lv_i2l hx hb d_law_863 rfl ?_
    refine lv_ldc2 (v := 4294967295) hx hb hown (hts _ (TB_in _ tb_823)) d_law_864 ?_
    refine lv_land hx hb d_law_867 ?_
    refine lv_lor hx hb d_law_868 ?_
    refine lv_aload_n hx hb d_law_869 rfl (lv_at hl 0 rfl) ?_
    refine lv_iload hx hb d_law_870 (lv_at hl 4 rfl) ?_
    refine lv_iconst (v := 4) hx hb d_law_872 (by decide) ?_
    refine lv_iadd hx hb d_law_873 ?_
    refine jd_sld hx hb hX hbl hbA hS hin4 ha4 d_law_874 ?_
    have hPm := jd_Pp (wL_M (O := O)) hP
    have hDm := jd_Dp (wL_M (O := O)) hD
    refine jd_fri (w1 := wM ca am nI nJ) hPm hDm hS hA rfl (va_runV (As := [.int a1, .long (a2.toInt64 <<< ((32 : Int32).toInt64 &&& 63) ||| a3.toInt64 &&& 4294967295), .int a4]) (rest := [.int r]) cx (cm_M_order l D ca am f2 H.size) (cwV 3 hts (jd_gVL tb_759 tb_760 tb_761 tb_47 tb_762) rfl rfl rfl ⟨rfl, by decide, by decide, rfl⟩ ⟨Nat.le_of_ble_eq_true rfl, Nat.le_of_ble_eq_true rfl⟩) ⟨jd_blind nWc, va_recv hK (jd_Pl hPm) (ci := 6) (q0 := 0) rfl rfl, jd_pre (av := [.ref (am 0), .int a1, .long (a2.toInt64 <<< ((32 : Int32).toInt64 &&& 63) ||| a3.toInt64 &&& 4294967295), .int a4]) (jd_Pl hPm) hK (jd_Dl hDm) (fun U h => nWm h hN)⟩ rfl rfl hl.1 rfl (lv_room (Nat.le_of_ble_eq_true rfl)) d_law_875 ⟨(by show cells + 0 ≤ 601024; omega), (by show slots + 0 ≤ 7293034; omega)⟩) (fun H locs hP1 hD1 hS => ?_)
    have hP := jd_Pp (wL_M (IM := nI) (JM := nJ) (O := O)).symm hP1
    have hD := jd_Dp (wL_M (IM := nI) (JM := nJ) (O := O)).symm hD1
    refine lv_icmp_eq (tgt := 1175) hx hb d_law_878 rfl (fun _ => ?_) (fun h => absurd rfl h)
    exact kk adh pr I J Ih Jh nI nJ O H locs ls cells slots hR2 ⟨hP, hD, hS⟩ hl (by omega) (by omega)
def Ok_numberOf (Rel : (Nat → Bool) → IS → JS → (Nat → IS) → (Nat → JS) → IS → JS → (Nat → Int64) → Prop) : Prop := (∀ (pr : Nat → Bool) (I : IS) (J : JS) (Ih : Nat → IS) (Jh : Nat → JS) (IM : IS) (JM : JS) (O : Nat → Int64), Rel pr I J Ih Jh IM JM O → ∀ (p0 : Int32) (h : Nat), h < 12 → p0 = nI h → pr h = true → ∃ (r : Int64), ∃ (kI : IS), ∃ (kJ : JS), ∃ (nI : IS), ∃ (nJ : JS), fm_K_numberOf p0 (mI (Ih h) I) (mJ (Jh h) J) = some (r, kI, kJ) ∧ fm_M_numberOf p0 IM JM = some (r, nI, nJ) ∧ Rel pr kI kJ (upN Ih h kI) (upN Jh h kJ) nI nJ O) ∧ (∀ (pr : Nat → Bool) (I : IS) (J : JS) (Ih : Nat → IS) (Jh : Nat → JS) (IM : IS) (JM : JS) (O : Nat → Int64), Rel pr I J Ih Jh IM JM O → ∀ (p0 : Int32) , (∀ h, h < 12 → p0 = nI h → pr h = false) → ∃ (r : Int64), ∃ (nI : IS), ∃ (nJ : JS), fm_K_numberOf_n p0 = some r ∧ fm_M_numberOf p0 IM JM = some (r, nI, nJ) ∧ Rel pr I J Ih Jh nI nJ O)
set_option maxHeartbeats 4000000 in
set_option maxRecDepth 100000 in
theorem law_numberOf {Rel : (Nat → Bool) → IS → JS → (Nat → IS) → (Nat → JS) → IS → JS → (Nat → Int64) → Prop} (hok : Ok_numberOf Rel) {p : Program} {l : Launch} {e : Env} {s : State} {m : MethodId} {below : List Frame} {meth : Method} {c : Code} {b L : Nat} {xs : Nat → Int32} {D : va_G} {ca : Nat → ClassId} {Q : State → Prop} (C0 : lwC p l s m meth c b L xs D ca) {ad : Nat → Nat} {adh : Nat → Nat → Nat} {am : Nat → Nat} {pr : Nat → Bool} {I : IS} {J : JS} {Ih : Nat → IS} {Jh : Nat → JS} {IM : IS} {JM : JS} {O : Nat → Int64} {H : Heap} {locs : List Loc} {ls : Array Slot} {cells slots : Nat} {i : Int32} (hR : Rel pr I J Ih Jh IM JM O) (hW : lwS D s ca ad adh am pr I J Ih Jh IM JM O H locs) (hl : lv_has ls 8 (lvL b ad am i)) (hin : vp_in (i + 1) L ∧ vp_in (i + 2) L ∧ vp_in (i + 3) L ∧ vp_in (i + 4) L ∧ vp_in (i + 5) L) (hc : cells + 16 ≤ 601024) (hs : slots + 1900 ≤ 7293034) (kk : lwK Rel p l e s m below meth c b D ca ad am i cells slots Q) : W p l e room_1 s m #[Value.ref b] below meth c H locs cells slots Q (F0 m 951 ls []) := by
  obtain ⟨cx, hK, hN, hXF, hfl, hX, hbl⟩ := C0
  have hx := cx.1
  have hb := cx.2.1
  have hown := cx.2.2.2.1
  have hts := cx.2.2.2.2
  obtain ⟨hP, hD, hS⟩ := hW
  have hA : ∀ q, s.heap.size ≤ q → (fun q => s.heap.size ≤ q) q := fun q h => h
  have hbA : ¬ (fun q => s.heap.size ≤ q) b := fun h => absurd h (Nat.not_le.mpr hbl)
  obtain ⟨hin1, hin2, hin3, hin4, hin5⟩ := hin
  generalize ha1 : xs (i + 1).toNatClampNeg = a1
  generalize ha2 : xs (i + 2).toNatClampNeg = a2
  generalize ha3 : xs (i + 3).toNatClampNeg = a3
  generalize ha4 : xs (i + 4).toNatClampNeg = a4
  generalize ha5 : xs (i + 5).toNatClampNeg = a5
  by_cases hpz : ∃ h, h < 12 ∧ a1 = nI h ∧ pr h = true
  · obtain ⟨h, hh, hp0, hp⟩ := hpz
    obtain ⟨r, kI, kJ, nI, nJ, f1, f2, hR2⟩ := hok.1 pr I J Ih Jh IM JM O hR a1 h hh hp0 hp
    refine lv_aload_n hx hb d_law_951 rfl (lv_at hl 1 rfl) ?_
    refine lv_aload_n hx hb d_law_952 rfl (lv_at hl 0 rfl) ?_
    refine lv_iload hx hb d_law_953 (lv_at hl 4 rfl) ?_
    refine lv_iconst (v := 1) hx hb d_law_955 (by decide) ?_
    refine lv_iadd hx hb d_law_956 ?_
    refine jd_sld hx hb hX hbl hbA hS hin1 ha1 d_law_957 ?_
    have hPc := jd_Pp (wL_C (O := O) hh hp) hP
    have hDc := jd_Dp (wL_C (O := O) hh hp) hD
    refine jd_frl (w1 := wC ca (adC ad (adh h)) (hsOf pr adh) kI kJ) hPc hDc hS hA rfl (va_runV (As := [.int a1]) (rest := []) cx (cm_K_numberOf l D ca (adC ad (adh h)) (hsOf pr adh) (hs_some hh hp0 hp) f1 H.size) (cwV 1 hts (jd_gVL tb_326 tb_327 tb_328 tb_43 tb_329) rfl rfl rfl ⟨rfl, by decide, by decide, rfl⟩ ⟨Nat.le_of_ble_eq_true rfl, Nat.le_of_ble_eq_true rfl⟩) ⟨jd_blind nWc, va_recv hK (jd_Pl hPc) (ci := 3) (q0 := 15) rfl rfl, jd_pre (av := [.ref (adC ad (adh h) 15), .int a1]) (jd_Pl hPc) hK (jd_Dl hDc) (fun U h => nWm h hN)⟩ rfl rfl hl.1 rfl (lv_room (Nat.le_of_ble_eq_true rfl)) d_law_958 ⟨(by show cells + 0 ≤ 601024; omega), (by show slots + 0 ≤ 7293034; omega)⟩) (fun H locs hP1 hD1 hS => ?_)
    have hP := jd_Pp (wL_C' hh hp) hP1
    have hD := jd_Dp (wL_C' hh hp) hD1
    refine lv_aload_n hx hb d_law_961 rfl (lv_at hl 2 rfl) ?_
    refine lv_aload_n hx hb d_law_962 rfl (lv_at hl 0 rfl) ?_
    refine lv_iload hx hb d_law_963 (lv_at hl 4 rfl) ?_
    refine lv_iconst (v := 1) hx hb d_law_965 (by decide) ?_
    refine lv_iadd hx hb d_law_966 ?_
    refine jd_sld hx hb hX hbl hbA hS hin1 ha1 d_law_967 ?_
    have hPm := jd_Pp (wL_M (O := O)) hP
    have hDm := jd_Dp (wL_M (O := O)) hD
    refine jd_frl (w1 := wM ca am nI nJ) hPm hDm hS hA rfl (va_runV (As := [.int a1]) (rest := [.long r]) cx (cm_M_numberOf l D ca am f2 H.size) (cwV 1 hts (jd_gVL tb_767 tb_768 tb_769 tb_47 tb_770) rfl rfl rfl ⟨rfl, by decide, by decide, rfl⟩ ⟨Nat.le_of_ble_eq_true rfl, Nat.le_of_ble_eq_true rfl⟩) ⟨jd_blind nWc, va_recv hK (jd_Pl hPm) (ci := 6) (q0 := 0) rfl rfl, jd_pre (av := [.ref (am 0), .int a1]) (jd_Pl hPm) hK (jd_Dl hDm) (fun U h => nWm h hN)⟩ rfl rfl hl.1 rfl (lv_room (Nat.le_of_ble_eq_true rfl)) d_law_968 ⟨(by show cells + 0 ≤ 601024; omega), (by show slots + 0 ≤ 7293034; omega)⟩) (fun H locs hP1 hD1 hS => ?_)
    have hP := jd_Pp (wL_M (IM := nI) (JM := nJ) (O := O)).symm hP1
    have hD := jd_Dp (wL_M (IM := nI) (JM := nJ) (O := O)).symm hD1
    refine W.lcmp hx hb d_law_971 ?_
    refine lv_if_eq (tgt := 1175) hx hb d_law_972 rfl (fun _ => ?_) (fun h => absurd (lg_cmp_self _) h)
    exact kk adh pr kI kJ (upN Ih h kI) (upN Jh h kJ) nI nJ O H locs ls cells slots hR2 ⟨hP, hD, hS⟩ hl (by omega) (by omega)
  · have hp : ∀ h, h < 12 → a1 = nI h → pr h = false := fun h h1 h2 => by cases hq : pr h with | false => rfl | true => exact absurd ⟨h, h1, h2, hq⟩ hpz
    obtain ⟨r, nI, nJ, f1, f2, hR2⟩ := hok.2 pr I J Ih Jh IM JM O hR a1 hp
    refine lv_aload_n hx hb d_law_951 rfl (lv_at hl 1 rfl) ?_
    refine lv_aload_n hx hb d_law_952 rfl (lv_at hl 0 rfl) ?_
    refine lv_iload hx hb d_law_953 (lv_at hl 4 rfl) ?_
    refine lv_iconst (v := 1) hx hb d_law_955 (by decide) ?_
    refine lv_iadd hx hb d_law_956 ?_
    refine jd_sld hx hb hX hbl hbA hS hin1 ha1 d_law_957 ?_
    have hPc := hP
    have hDc := hD
    unfold wL at hPc hDc
    refine jd_frl (w1 := wD ca ad (hsOf pr adh) I J) hPc hDc hS hA rfl (va_runV (As := [.int a1]) (rest := []) cx (cm_K_numberOf_n l D ca ad (hsOf pr adh) (hs_none hp) f1 H.size) (cwV 1 hts (jd_gVL tb_326 tb_327 tb_328 tb_43 tb_329) rfl rfl rfl ⟨rfl, by decide, by decide, rfl⟩ ⟨Nat.le_of_ble_eq_true rfl, Nat.le_of_ble_eq_true rfl⟩) ⟨jd_blind nWc, va_recv hK (jd_Pl hPc) (ci := 3) (q0 := 0) rfl rfl, jd_pre (av := [.ref (ad 15), .int a1]) (jd_Pl hPc) hK (jd_Dl hDc) (fun U h => nWm h hN)⟩ rfl rfl hl.1 rfl (lv_room (Nat.le_of_ble_eq_true rfl)) d_law_958 ⟨(by show cells + 0 ≤ 601024; omega), (by show slots + 0 ≤ 7293034; omega)⟩) (fun H locs hP1 hD1 hS => ?_)
    have hP : va_P D cls_all (wL ca ad adh am pr I J Ih Jh IM JM O) H := hP1
    have hD : va_D _ (wL ca ad adh am pr I J Ih Jh IM JM O) := hD1
    refine lv_aload_n hx hb d_law_961 rfl (lv_at hl 2 rfl) ?_
    refine lv_aload_n hx hb d_law_962 rfl (lv_at hl 0 rfl) ?_
    refine lv_iload hx hb d_law_963 (lv_at hl 4 rfl) ?_
    refine lv_iconst (v := 1) hx hb d_law_965 (by decide) ?_
    refine lv_iadd hx hb d_law_966 ?_
    refine jd_sld hx hb hX hbl hbA hS hin1 ha1 d_law_967 ?_
    have hPm := jd_Pp (wL_M (O := O)) hP
    have hDm := jd_Dp (wL_M (O := O)) hD
    refine jd_frl (w1 := wM ca am nI nJ) hPm hDm hS hA rfl (va_runV (As := [.int a1]) (rest := [.long r]) cx (cm_M_numberOf l D ca am f2 H.size) (cwV 1 hts (jd_gVL tb_767 tb_768 tb_769 tb_47 tb_770) rfl rfl rfl ⟨rfl, by decide, by decide, rfl⟩ ⟨Nat.le_of_ble_eq_true rfl, Nat.le_of_ble_eq_true rfl⟩) ⟨jd_blind nWc, va_recv hK (jd_Pl hPm) (ci := 6) (q0 := 0) rfl rfl, jd_pre (av := [.ref (am 0), .int a1]) (jd_Pl hPm) hK (jd_Dl hDm) (fun U h => nWm h hN)⟩ rfl rfl hl.1 rfl (lv_room (Nat.le_of_ble_eq_true rfl)) d_law_968 ⟨(by show cells + 0 ≤ 601024; omega), (by show slots + 0 ≤ 7293034; omega)⟩) (fun H locs hP1 hD1 hS => ?_)
    have hP := jd_Pp (wL_M (IM := nI) (JM := nJ) (O := O)).symm hP1
    have hD := jd_Dp (wL_M (IM := nI) (JM := nJ) (O := O)).symm hD1
    refine W.lcmp hx hb d_law_971 ?_
    refine lv_if_eq (tgt := 1175) hx hb d_law_972 rfl (fun _ => ?_) (fun h => absurd (lg_cmp_self _) h)
    exact kk adh pr I J Ih Jh nI nJ O H locs ls cells slots hR2 ⟨hP, hD, hS⟩ hl (by omega) (by omega)
def Ok_ask (Rel : (Nat → Bool) → IS → JS → (Nat → IS) → (Nat → JS) → IS → JS → (Nat → Int64) → Prop) : Prop := (∀ (pr : Nat → Bool) (I : IS) (J : JS) (Ih : Nat → IS) (Jh : Nat → JS) (IM : IS) (JM : JS) (O : Nat → Int64), Rel pr I J Ih Jh IM JM O → ∀ (p0 : Int32) (p1 : Int32) (h : Nat), h < 12 → p0 = nI h → pr h = true → ∃ (r : Int32), ∃ (kI : IS), ∃ (kJ : JS), ∃ (nI : IS), ∃ (nJ : JS), fm_K_ask p0 p1 (mI (Ih h) I) (mJ (Jh h) J) = some (r, kI, kJ) ∧ fm_M_ask p0 p1 IM JM = some (r, nI, nJ) ∧ Rel pr kI kJ (upN Ih h kI) (upN Jh h kJ) nI nJ O) ∧ (∀ (pr : Nat → Bool) (I : IS) (J : JS) (Ih : Nat → IS) (Jh : Nat → JS) (IM : IS) (JM : JS) (O : Nat → Int64), Rel pr I J Ih Jh IM JM O → ∀ (p0 : Int32) (p1 : Int32) , (∀ h, h < 12 → p0 = nI h → pr h = false) → ∃ (r : Int32), ∃ (nI : IS), ∃ (nJ : JS), fm_K_ask_n p0 p1 = some r ∧ fm_M_ask p0 p1 IM JM = some (r, nI, nJ) ∧ Rel pr I J Ih Jh nI nJ O)
set_option maxHeartbeats 4000000 in
set_option maxRecDepth 100000 in
theorem law_ask {Rel : (Nat → Bool) → IS → JS → (Nat → IS) → (Nat → JS) → IS → JS → (Nat → Int64) → Prop} (hok : Ok_ask Rel) {p : Program} {l : Launch} {e : Env} {s : State} {m : MethodId} {below : List Frame} {meth : Method} {c : Code} {b L : Nat} {xs : Nat → Int32} {D : va_G} {ca : Nat → ClassId} {Q : State → Prop} (C0 : lwC p l s m meth c b L xs D ca) {ad : Nat → Nat} {adh : Nat → Nat → Nat} {am : Nat → Nat} {pr : Nat → Bool} {I : IS} {J : JS} {Ih : Nat → IS} {Jh : Nat → JS} {IM : IS} {JM : JS} {O : Nat → Int64} {H : Heap} {locs : List Loc} {ls : Array Slot} {cells slots : Nat} {i : Int32} (hR : Rel pr I J Ih Jh IM JM O) (hW : lwS D s ca ad adh am pr I J Ih Jh IM JM O H locs) (hl : lv_has ls 8 (lvL b ad am i)) (hin : vp_in (i + 1) L ∧ vp_in (i + 2) L ∧ vp_in (i + 3) L ∧ vp_in (i + 4) L ∧ vp_in (i + 5) L) (hc : cells + 16 ≤ 601024) (hs : slots + 1900 ≤ 7293034) (kk : lwK Rel p l e s m below meth c b D ca ad am i cells slots Q) : W p l e room_1 s m #[Value.ref b] below meth c H locs cells slots Q (F0 m 977 ls []) := by
  obtain ⟨cx, hK, hN, hXF, hfl, hX, hbl⟩ := C0
  have hx := cx.1
  have hb := cx.2.1
  have hown := cx.2.2.2.1
  have hts := cx.2.2.2.2
  obtain ⟨hP, hD, hS⟩ := hW
  have hA : ∀ q, s.heap.size ≤ q → (fun q => s.heap.size ≤ q) q := fun q h => h
  have hbA : ¬ (fun q => s.heap.size ≤ q) b := fun h => absurd h (Nat.not_le.mpr hbl)
  obtain ⟨hin1, hin2, hin3, hin4, hin5⟩ := hin
  generalize ha1 : xs (i + 1).toNatClampNeg = a1
  generalize ha2 : xs (i + 2).toNatClampNeg = a2
  generalize ha3 : xs (i + 3).toNatClampNeg = a3
  generalize ha4 : xs (i + 4).toNatClampNeg = a4
  generalize ha5 : xs (i + 5).toNatClampNeg = a5
  by_cases hpz : ∃ h, h < 12 ∧ a1 = nI h ∧ pr h = true
  · obtain ⟨h, hh, hp0, hp⟩ := hpz
    obtain ⟨r, kI, kJ, nI, nJ, f1, f2, hR2⟩ := hok.1 pr I J Ih Jh IM JM O hR a1 a2 h hh hp0 hp
    refine lv_aload_n hx hb d_law_977 rfl (lv_at hl 1 rfl) ?_
    refine lv_aload_n hx hb d_law_978 rfl (lv_at hl 0 rfl) ?_
    refine lv_iload hx hb d_law_979 (lv_at hl 4 rfl) ?_
    refine lv_iconst (v := 1) hx hb d_law_981 (by decide) ?_
    refine lv_iadd hx hb d_law_982 ?_
    refine jd_sld hx hb hX hbl hbA hS hin1 ha1 d_law_983 ?_
    refine lv_aload_n hx hb d_law_984 rfl (lv_at hl 0 rfl) ?_
    refine lv_iload hx hb d_law_985 (lv_at hl 4 rfl) ?_
    refine lv_iconst (v := 2) hx hb d_law_987 (by decide) ?_
    refine lv_iadd hx hb d_law_988 ?_
    refine jd_sld hx hb hX hbl hbA hS hin2 ha2 d_law_989 ?_
    have hPc := jd_Pp (wL_C (O := O) hh hp) hP
    have hDc := jd_Dp (wL_C (O := O) hh hp) hD
    refine jd_fri (w1 := wC ca (adC ad (adh h)) (hsOf pr adh) kI kJ) hPc hDc hS hA rfl (va_runV (As := [.int a1, .int a2]) (rest := []) cx (cm_K_ask l D ca (adC ad (adh h)) (hsOf pr adh) (hs_some hh hp0 hp) f1 H.size) (cwV 2 hts (jd_gVL tb_341 tb_342 tb_343 tb_43 tb_344) rfl rfl rfl ⟨rfl, by decide, by decide, rfl⟩ ⟨Nat.le_of_ble_eq_true rfl, Nat.le_of_ble_eq_true rfl⟩) ⟨jd_blind nWc, va_recv hK (jd_Pl hPc) (ci := 3) (q0 := 15) rfl rfl, jd_pre (av := [.ref (adC ad (adh h) 15), .int a1, .int a2]) (jd_Pl hPc) hK (jd_Dl hDc) (fun U h => nWm h hN)⟩ rfl rfl hl.1 rfl (lv_room (Nat.le_of_ble_eq_true rfl)) d_law_990 ⟨(by show cells + 0 ≤ 601024; omega), (by show slots + 0 ≤ 7293034; omega)⟩) (fun H locs hP1 hD1 hS => ?_)
    have hP := jd_Pp (wL_C' hh hp) hP1
    have hD := jd_Dp (wL_C' hh hp) hD1
    refine lv_aload_n hx hb d_law_993 rfl (lv_at hl 2 rfl) ?_
    refine lv_aload_n hx hb d_law_994 rfl (lv_at hl 0 rfl) ?_
    refine lv_iload hx hb d_law_995 (lv_at hl 4 rfl) ?_
    refine lv_iconst (v := 1) hx hb d_law_997 (by decide) ?_
    refine lv_iadd hx hb d_law_998 ?_
    refine jd_sld hx hb hX hbl hbA hS hin1 ha1 d_law_999 ?_
    refine lv_aload_n hx hb d_law_1000 rfl (lv_at hl 0 rfl) ?_
    refine lv_iload hx hb d_law_1001 (lv_at hl 4 rfl) ?_
    refine lv_iconst (v := 2) hx hb d_law_1003 (by decide) ?_
    refine lv_iadd hx hb d_law_1004 ?_
    refine jd_sld hx hb hX hbl hbA hS hin2 ha2 d_law_1005 ?_
    have hPm := jd_Pp (wL_M (O := O)) hP
    have hDm := jd_Dp (wL_M (O := O)) hD
    refine jd_fri (w1 := wM ca am nI nJ) hPm hDm hS hA rfl (va_runV (As := [.int a1, .int a2]) (rest := [.int r]) cx (cm_M_ask l D ca am f2 H.size) (cwV 2 hts (jd_gVL tb_772 tb_773 tb_774 tb_47 tb_775) rfl rfl rfl ⟨rfl, by decide, by decide, rfl⟩ ⟨Nat.le_of_ble_eq_true rfl, Nat.le_of_ble_eq_true rfl⟩) ⟨jd_blind nWc, va_recv hK (jd_Pl hPm) (ci := 6) (q0 := 0) rfl rfl, jd_pre (av := [.ref (am 0), .int a1, .int a2]) (jd_Pl hPm) hK (jd_Dl hDm) (fun U h => nWm h hN)⟩ rfl rfl hl.1 rfl (lv_room (Nat.le_of_ble_eq_true rfl)) d_law_1006 ⟨(by show cells + 0 ≤ 601024; omega), (by show slots + 0 ≤ 7293034; omega)⟩) (fun H locs hP1 hD1 hS => ?_)
    have hP := jd_Pp (wL_M (IM := nI) (JM := nJ) (O := O)).symm hP1
    have hD := jd_Dp (wL_M (IM := nI) (JM := nJ) (O := O)).symm hD1
    refine lv_icmp_eq (tgt := 1175) hx hb d_law_1009 rfl (fun _ => ?_) (fun h => absurd rfl h)
    exact kk adh pr kI kJ (upN Ih h kI) (upN Jh h kJ) nI nJ O H locs ls cells slots hR2 ⟨hP, hD, hS⟩ hl (by omega) (by omega)
  · have hp : ∀ h, h < 12 → a1 = nI h → pr h = false := fun h h1 h2 => by cases hq : pr h with | false => rfl | true => exact absurd ⟨h, h1, h2, hq⟩ hpz
    obtain ⟨r, nI, nJ, f1, f2, hR2⟩ := hok.2 pr I J Ih Jh IM JM O hR a1 a2 hp
    refine lv_aload_n hx hb d_law_977 rfl (lv_at hl 1 rfl) ?_
    refine lv_aload_n hx hb d_law_978 rfl (lv_at hl 0 rfl) ?_
    refine lv_iload hx hb d_law_979 (lv_at hl 4 rfl) ?_
    refine lv_iconst (v := 1) hx hb d_law_981 (by decide) ?_
    refine lv_iadd hx hb d_law_982 ?_
    refine jd_sld hx hb hX hbl hbA hS hin1 ha1 d_law_983 ?_
    refine lv_aload_n hx hb d_law_984 rfl (lv_at hl 0 rfl) ?_
    refine lv_iload hx hb d_law_985 (lv_at hl 4 rfl) ?_
    refine lv_iconst (v := 2) hx hb d_law_987 (by decide) ?_
    refine lv_iadd hx hb d_law_988 ?_
    refine jd_sld hx hb hX hbl hbA hS hin2 ha2 d_law_989 ?_
    have hPc := hP
    have hDc := hD
    unfold wL at hPc hDc
    refine jd_fri (w1 := wD ca ad (hsOf pr adh) I J) hPc hDc hS hA rfl (va_runV (As := [.int a1, .int a2]) (rest := []) cx (cm_K_ask_n l D ca ad (hsOf pr adh) (hs_none hp) f1 H.size) (cwV 2 hts (jd_gVL tb_341 tb_342 tb_343 tb_43 tb_344) rfl rfl rfl ⟨rfl, by decide, by decide, rfl⟩ ⟨Nat.le_of_ble_eq_true rfl, Nat.le_of_ble_eq_true rfl⟩) ⟨jd_blind nWc, va_recv hK (jd_Pl hPc) (ci := 3) (q0 := 0) rfl rfl, jd_pre (av := [.ref (ad 15), .int a1, .int a2]) (jd_Pl hPc) hK (jd_Dl hDc) (fun U h => nWm h hN)⟩ rfl rfl hl.1 rfl (lv_room (Nat.le_of_ble_eq_true rfl)) d_law_990 ⟨(by show cells + 0 ≤ 601024; omega), (by show slots + 0 ≤ 7293034; omega)⟩) (fun H locs hP1 hD1 hS => ?_)
    have hP : va_P D cls_all (wL ca ad adh am pr I J Ih Jh IM JM O) H := hP1
    have hD : va_D _ (wL ca ad adh am pr I J Ih Jh IM JM O) := hD1
    refine lv_aload_n hx hb d_law_993 rfl (lv_at hl 2 rfl) ?_
    refine lv_aload_n hx hb d_law_994 rfl (lv_at hl 0 rfl) ?_
    refine lv_iload hx hb d_law_995 (lv_at hl 4 rfl) ?_
    refine lv_iconst (v := 1) hx hb d_law_997 (by decide) ?_
    refine lv_iadd hx hb d_law_998 ?_
    refine jd_sld hx hb hX hbl hbA hS hin1 ha1 d_law_999 ?_
    refine lv_aload_n hx hb d_law_1000 rfl (lv_at hl 0 rfl) ?_
    refine lv_iload hx hb d_law_1001 (lv_at hl 4 rfl) ?_
    refine lv_iconst (v := 2) hx hb d_law_1003 (by decide) ?_
    refine lv_iadd hx hb d_law_1004 ?_
    refine jd_sld hx hb hX hbl hbA hS hin2 ha2 d_law_1005 ?_
    have hPm := jd_Pp (wL_M (O := O)) hP
    have hDm := jd_Dp (wL_M (O := O)) hD
    refine jd_fri (w1 := wM ca am nI nJ) hPm hDm hS hA rfl (va_runV (As := [.int a1, .int a2]) (rest := [.int r]) cx (cm_M_ask l D ca am f2 H.size) (cwV 2 hts (jd_gVL tb_772 tb_773 tb_774 tb_47 tb_775) rfl rfl rfl ⟨rfl, by decide, by decide, rfl⟩ ⟨Nat.le_of_ble_eq_true rfl, Nat.le_of_ble_eq_true rfl⟩) ⟨jd_blind nWc, va_recv hK (jd_Pl hPm) (ci := 6) (q0 := 0) rfl rfl, jd_pre (av := [.ref (am 0), .int a1, .int a2]) (jd_Pl hPm) hK (jd_Dl hDm) (fun U h => nWm h hN)⟩ rfl rfl hl.1 rfl (lv_room (Nat.le_of_ble_eq_true rfl)) d_law_1006 ⟨(by show cells + 0 ≤ 601024; omega), (by show slots + 0 ≤ 7293034; omega)⟩) (fun H locs hP1 hD1 hS => ?_)
    have hP := jd_Pp (wL_M (IM := nI) (JM := nJ) (O := O)).symm hP1
    have hD := jd_Dp (wL_M (IM := nI) (JM := nJ) (O := O)).symm hD1
    refine lv_icmp_eq (tgt := 1175) hx hb d_law_1009 rfl (fun _ => ?_) (fun h => absurd rfl h)
    exact kk adh pr I J Ih Jh nI nJ O H locs ls cells slots hR2 ⟨hP, hD, hS⟩ hl (by omega) (by omega)
def Ok_tie (Rel : (Nat → Bool) → IS → JS → (Nat → IS) → (Nat → JS) → IS → JS → (Nat → Int64) → Prop) : Prop := (∀ (pr : Nat → Bool) (I : IS) (J : JS) (Ih : Nat → IS) (Jh : Nat → JS) (IM : IS) (JM : JS) (O : Nat → Int64), Rel pr I J Ih Jh IM JM O → ∀ (p0 : Int32) (h : Nat), h < 12 → p0 = nI h → pr h = true → ∃ (r : Int32), ∃ (kI : IS), ∃ (nI : IS), fm_K_tie p0 (mI (Ih h) I) = some (r, kI) ∧ fm_M_tie p0 IM = some (r, nI) ∧ Rel pr kI (mJ (Jh h) J) (upN Ih h kI) (upN Jh h (mJ (Jh h) J)) nI JM O) ∧ (∀ (pr : Nat → Bool) (I : IS) (J : JS) (Ih : Nat → IS) (Jh : Nat → JS) (IM : IS) (JM : JS) (O : Nat → Int64), Rel pr I J Ih Jh IM JM O → ∀ (p0 : Int32) , (∀ h, h < 12 → p0 = nI h → pr h = false) → ∃ (r : Int32), ∃ (nI : IS), fm_K_tie_n p0 = some r ∧ fm_M_tie p0 IM = some (r, nI) ∧ Rel pr I J Ih Jh nI JM O)
set_option maxHeartbeats 4000000 in
set_option maxRecDepth 100000 in
theorem law_tie {Rel : (Nat → Bool) → IS → JS → (Nat → IS) → (Nat → JS) → IS → JS → (Nat → Int64) → Prop} (hok : Ok_tie Rel) {p : Program} {l : Launch} {e : Env} {s : State} {m : MethodId} {below : List Frame} {meth : Method} {c : Code} {b L : Nat} {xs : Nat → Int32} {D : va_G} {ca : Nat → ClassId} {Q : State → Prop} (C0 : lwC p l s m meth c b L xs D ca) {ad : Nat → Nat} {adh : Nat → Nat → Nat} {am : Nat → Nat} {pr : Nat → Bool} {I : IS} {J : JS} {Ih : Nat → IS} {Jh : Nat → JS} {IM : IS} {JM : JS} {O : Nat → Int64} {H : Heap} {locs : List Loc} {ls : Array Slot} {cells slots : Nat} {i : Int32} (hR : Rel pr I J Ih Jh IM JM O) (hW : lwS D s ca ad adh am pr I J Ih Jh IM JM O H locs) (hl : lv_has ls 8 (lvL b ad am i)) (hin : vp_in (i + 1) L ∧ vp_in (i + 2) L ∧ vp_in (i + 3) L ∧ vp_in (i + 4) L ∧ vp_in (i + 5) L) (hc : cells + 16 ≤ 601024) (hs : slots + 1900 ≤ 7293034) (kk : lwK Rel p l e s m below meth c b D ca ad am i cells slots Q) : W p l e room_1 s m #[Value.ref b] below meth c H locs cells slots Q (F0 m 1014 ls []) := by
  obtain ⟨cx, hK, hN, hXF, hfl, hX, hbl⟩ := C0
  have hx := cx.1
  have hb := cx.2.1
  have hown := cx.2.2.2.1
  have hts := cx.2.2.2.2
  obtain ⟨hP, hD, hS⟩ := hW
  have hA : ∀ q, s.heap.size ≤ q → (fun q => s.heap.size ≤ q) q := fun q h => h
  have hbA : ¬ (fun q => s.heap.size ≤ q) b := fun h => absurd h (Nat.not_le.mpr hbl)
  obtain ⟨hin1, hin2, hin3, hin4, hin5⟩ := hin
  generalize ha1 : xs (i + 1).toNatClampNeg = a1
  generalize ha2 : xs (i + 2).toNatClampNeg = a2
  generalize ha3 : xs (i + 3).toNatClampNeg = a3
  generalize ha4 : xs (i + 4).toNatClampNeg = a4
  generalize ha5 : xs (i + 5).toNatClampNeg = a5
  by_cases hpz : ∃ h, h < 12 ∧ a1 = nI h ∧ pr h = true
  · obtain ⟨h, hh, hp0, hp⟩ := hpz
    obtain ⟨r, kI, nI, f1, f2, hR2⟩ := hok.1 pr I J Ih Jh IM JM O hR a1 h hh hp0 hp
    refine lv_aload_n hx hb d_law_1014 rfl (lv_at hl 1 rfl) ?_
    refine lv_aload_n hx hb d_law_1015 rfl (lv_at hl 0 rfl) ?_
    refine lv_iload hx hb d_law_1016 (lv_at hl 4 rfl) ?_
    refine lv_iconst (v := 1) hx hb d_law_1018 (by decide) ?_
    refine lv_iadd hx hb d_law_1019 ?_
    refine jd_sld hx hb hX hbl hbA hS hin1 ha1 d_law_1020 ?_
    have hPc := jd_Pp (wL_C (O := O) hh hp) hP
    have hDc := jd_Dp (wL_C (O := O) hh hp) hD
    refine jd_fri (w1 := wC ca (adC ad (adh h)) (hsOf pr adh) kI (mJ (Jh h) J)) hPc hDc hS hA rfl (va_runV (As := [.int a1]) (rest := []) cx (cm_K_tie l D ca (adC ad (adh h)) (hsOf pr adh) (hs_some hh hp0 hp) f1 H.size) (cwV 1 hts (jd_gVL tb_356 tb_357 tb_358 tb_43 tb_359) rfl rfl rfl ⟨rfl, by decide, by decide, rfl⟩ ⟨Nat.le_of_ble_eq_true rfl, Nat.le_of_ble_eq_true rfl⟩) ⟨jd_blind nWc, va_recv hK (jd_Pl hPc) (ci := 3) (q0 := 15) rfl rfl, jd_pre (av := [.ref (adC ad (adh h) 15), .int a1]) (jd_Pl hPc) hK (jd_Dl hDc) (fun U h => nWm h hN)⟩ rfl rfl hl.1 rfl (lv_room (Nat.le_of_ble_eq_true rfl)) d_law_1021 ⟨(by show cells + 0 ≤ 601024; omega), (by show slots + 0 ≤ 7293034; omega)⟩) (fun H locs hP1 hD1 hS => ?_)
    have hP := jd_Pp (wL_C' hh hp) hP1
    have hD := jd_Dp (wL_C' hh hp) hD1
    refine lv_aload_n hx hb d_law_1024 rfl (lv_at hl 2 rfl) ?_
    refine lv_aload_n hx hb d_law_1025 rfl (lv_at hl 0 rfl) ?_
    refine lv_iload hx hb d_law_1026 (lv_at hl 4 rfl) ?_
    refine lv_iconst (v := 1) hx hb d_law_1028 (by decide) ?_
    refine lv_iadd hx hb d_law_1029 ?_
    refine jd_sld hx hb hX hbl hbA hS hin1 ha1 d_law_1030 ?_
    have hPm := jd_Pp (wL_M (O := O)) hP
    have hDm := jd_Dp (wL_M (O := O)) hD
    refine jd_fri (w1 := wM ca am nI JM) hPm hDm hS hA rfl (va_runV (As := [.int a1]) (rest := [.int r]) cx (cm_M_tie l D ca am f2 H.size) (cwV 1 hts (jd_gVL tb_779 tb_780 tb_781 tb_47 tb_782) rfl rfl rfl ⟨rfl, by decide, by decide, rfl⟩ ⟨Nat.le_of_ble_eq_true rfl, Nat.le_of_ble_eq_true rfl⟩) ⟨jd_blind nWc, va_recv hK (jd_Pl hPm) (ci := 6) (q0 := 0) rfl rfl, jd_pre (av := [.ref (am 0), .int a1]) (jd_Pl hPm) hK (jd_Dl hDm) (fun U h => nWm h hN)⟩ rfl rfl hl.1 rfl (lv_room (Nat.le_of_ble_eq_true rfl)) d_law_1031 ⟨(by show cells + 0 ≤ 601024; omega), (by show slots + 0 ≤ 7293034; omega)⟩) (fun H locs hP1 hD1 hS => ?_)
    have hP := jd_Pp (wL_M (IM := nI) (JM := JM) (O := O)).symm hP1
    have hD := jd_Dp (wL_M (IM := nI) (JM := JM) (O := O)).symm hD1
    refine lv_icmp_eq (tgt := 1175) hx hb d_law_1034 rfl (fun _ => ?_) (fun h => absurd rfl h)
    exact kk adh pr kI (mJ (Jh h) J) (upN Ih h kI) (upN Jh h (mJ (Jh h) J)) nI JM O H locs ls cells slots hR2 ⟨hP, hD, hS⟩ hl (by omega) (by omega)
  · have hp : ∀ h, h < 12 → a1 = nI h → pr h = false := fun h h1 h2 => by cases hq : pr h with | false => rfl | true => exact absurd ⟨h, h1, h2, hq⟩ hpz
    obtain ⟨r, nI, f1, f2, hR2⟩ := hok.2 pr I J Ih Jh IM JM O hR a1 hp
    refine lv_aload_n hx hb d_law_1014 rfl (lv_at hl 1 rfl) ?_
    refine lv_aload_n hx hb d_law_1015 rfl (lv_at hl 0 rfl) ?_
    refine lv_iload hx hb d_law_1016 (lv_at hl 4 rfl) ?_
    refine lv_iconst (v := 1) hx hb d_law_1018 (by decide) ?_
    refine lv_iadd hx hb d_law_1019 ?_
    refine jd_sld hx hb hX hbl hbA hS hin1 ha1 d_law_1020 ?_
    have hPc := hP
    have hDc := hD
    unfold wL at hPc hDc
    refine jd_fri (w1 := wD ca ad (hsOf pr adh) I J) hPc hDc hS hA rfl (va_runV (As := [.int a1]) (rest := []) cx (cm_K_tie_n l D ca ad (hsOf pr adh) (hs_none hp) f1 H.size) (cwV 1 hts (jd_gVL tb_356 tb_357 tb_358 tb_43 tb_359) rfl rfl rfl ⟨rfl, by decide, by decide, rfl⟩ ⟨Nat.le_of_ble_eq_true rfl, Nat.le_of_ble_eq_true rfl⟩) ⟨jd_blind nWc, va_recv hK (jd_Pl hPc) (ci := 3) (q0 := 0) rfl rfl, jd_pre (av := [.ref (ad 15), .int a1]) (jd_Pl hPc) hK (jd_Dl hDc) (fun U h => nWm h hN)⟩ rfl rfl hl.1 rfl (lv_room (Nat.le_of_ble_eq_true rfl)) d_law_1021 ⟨(by show cells + 0 ≤ 601024; omega), (by show slots + 0 ≤ 7293034; omega)⟩) (fun H locs hP1 hD1 hS => ?_)
    have hP : va_P D cls_all (wL ca ad adh am pr I J Ih Jh IM JM O) H := hP1
    have hD : va_D _ (wL ca ad adh am pr I J Ih Jh IM JM O) := hD1
    refine lv_aload_n hx hb d_law_1024 rfl (lv_at hl 2 rfl) ?_
    refine lv_aload_n hx hb d_law_1025 rfl (lv_at hl 0 rfl) ?_
    refine lv_iload hx hb d_law_1026 (lv_at hl 4 rfl) ?_
    refine lv_iconst (v := 1) hx hb d_law_1028 (by decide) ?_
    refine lv_iadd hx hb d_law_1029 ?_
    refine jd_sld hx hb hX hbl hbA hS hin1 ha1 d_law_1030 ?_
    have hPm := jd_Pp (wL_M (O := O)) hP
    have hDm := jd_Dp (wL_M (O := O)) hD
    refine jd_fri (w1 := wM ca am nI JM) hPm hDm hS hA rfl (va_runV (As := [.int a1]) (rest := [.int r]) cx (cm_M_tie l D ca am f2 H.size) (cwV 1 hts (jd_gVL tb_779 tb_780 tb_781 tb_47 tb_782) rfl rfl rfl ⟨rfl, by decide, by decide, rfl⟩ ⟨Nat.le_of_ble_eq_true rfl, Nat.le_of_ble_eq_true rfl⟩) ⟨jd_blind nWc, va_recv hK (jd_Pl hPm) (ci := 6) (q0 := 0) rfl rfl, jd_pre (av := [.ref (am 0), .int a1]) (jd_Pl hPm) hK (jd_Dl hDm) (fun U h => nWm h hN)⟩ rfl rfl hl.1 rfl (lv_room (Nat.le_of_ble_eq_true rfl)) d_law_1031 ⟨(by show cells + 0 ≤ 601024; omega), (by show slots + 0 ≤ 7293034; omega)⟩) (fun H locs hP1 hD1 hS => ?_)
    have hP := jd_Pp (wL_M (IM := nI) (JM := JM) (O := O)).symm hP1
    have hD := jd_Dp (wL_M (IM := nI) (JM := JM) (O := O)).symm hD1
    refine lv_icmp_eq (tgt := 1175) hx hb d_law_1034 rfl (fun _ => ?_) (fun h => absurd rfl h)
    exact kk adh pr I J Ih Jh nI JM O H locs ls cells slots hR2 ⟨hP, hD, hS⟩ hl (by omega) (by omega)
def Ok_tieEntry (Rel : (Nat → Bool) → IS → JS → (Nat → IS) → (Nat → JS) → IS → JS → (Nat → Int64) → Prop) : Prop := (∀ (pr : Nat → Bool) (I : IS) (J : JS) (Ih : Nat → IS) (Jh : Nat → JS) (IM : IS) (JM : JS) (O : Nat → Int64), Rel pr I J Ih Jh IM JM O → ∀ (p0 : Int32) (p1 : Int32) (h : Nat), h < 12 → p0 = nI h → pr h = true → ∃ (r : Int32), ∃ (kI : IS), ∃ (nI : IS), fm_K_tieEntry p0 p1 (mI (Ih h) I) = some (r, kI) ∧ fm_M_tieEntry p0 p1 IM = some (r, nI) ∧ Rel pr kI (mJ (Jh h) J) (upN Ih h kI) (upN Jh h (mJ (Jh h) J)) nI JM O) ∧ (∀ (pr : Nat → Bool) (I : IS) (J : JS) (Ih : Nat → IS) (Jh : Nat → JS) (IM : IS) (JM : JS) (O : Nat → Int64), Rel pr I J Ih Jh IM JM O → ∀ (p0 : Int32) (p1 : Int32) , (∀ h, h < 12 → p0 = nI h → pr h = false) → ∃ (r : Int32), ∃ (nI : IS), fm_K_tieEntry_n p0 p1 = some r ∧ fm_M_tieEntry p0 p1 IM = some (r, nI) ∧ Rel pr I J Ih Jh nI JM O)
set_option maxHeartbeats 4000000 in
set_option maxRecDepth 100000 in
theorem law_tieEntry {Rel : (Nat → Bool) → IS → JS → (Nat → IS) → (Nat → JS) → IS → JS → (Nat → Int64) → Prop} (hok : Ok_tieEntry Rel) {p : Program} {l : Launch} {e : Env} {s : State} {m : MethodId} {below : List Frame} {meth : Method} {c : Code} {b L : Nat} {xs : Nat → Int32} {D : va_G} {ca : Nat → ClassId} {Q : State → Prop} (C0 : lwC p l s m meth c b L xs D ca) {ad : Nat → Nat} {adh : Nat → Nat → Nat} {am : Nat → Nat} {pr : Nat → Bool} {I : IS} {J : JS} {Ih : Nat → IS} {Jh : Nat → JS} {IM : IS} {JM : JS} {O : Nat → Int64} {H : Heap} {locs : List Loc} {ls : Array Slot} {cells slots : Nat} {i : Int32} (hR : Rel pr I J Ih Jh IM JM O) (hW : lwS D s ca ad adh am pr I J Ih Jh IM JM O H locs) (hl : lv_has ls 8 (lvL b ad am i)) (hin : vp_in (i + 1) L ∧ vp_in (i + 2) L ∧ vp_in (i + 3) L ∧ vp_in (i + 4) L ∧ vp_in (i + 5) L) (hc : cells + 16 ≤ 601024) (hs : slots + 1900 ≤ 7293034) (kk : lwK Rel p l e s m below meth c b D ca ad am i cells slots Q) : W p l e room_1 s m #[Value.ref b] below meth c H locs cells slots Q (F0 m 1039 ls []) := by
  obtain ⟨cx, hK, hN, hXF, hfl, hX, hbl⟩ := C0
  have hx := cx.1
  have hb := cx.2.1
  have hown := cx.2.2.2.1
  have hts := cx.2.2.2.2
  obtain ⟨hP, hD, hS⟩ := hW
  have hA : ∀ q, s.heap.size ≤ q → (fun q => s.heap.size ≤ q) q := fun q h => h
  have hbA : ¬ (fun q => s.heap.size ≤ q) b := fun h => absurd h (Nat.not_le.mpr hbl)
  obtain ⟨hin1, hin2, hin3, hin4, hin5⟩ := hin
  generalize ha1 : xs (i + 1).toNatClampNeg = a1
  generalize ha2 : xs (i + 2).toNatClampNeg = a2
  generalize ha3 : xs (i + 3).toNatClampNeg = a3
  generalize ha4 : xs (i + 4).toNatClampNeg = a4
  generalize ha5 : xs (i + 5).toNatClampNeg = a5
  by_cases hpz : ∃ h, h < 12 ∧ a1 = nI h ∧ pr h = true
  · obtain ⟨h, hh, hp0, hp⟩ := hpz
    obtain ⟨r, kI, nI, f1, f2, hR2⟩ := hok.1 pr I J Ih Jh IM JM O hR a1 a2 h hh hp0 hp
    refine lv_aload_n hx hb d_law_1039 rfl (lv_at hl 1 rfl) ?_
    refine lv_aload_n hx hb d_law_1040 rfl (lv_at hl 0 rfl) ?_
    refine lv_iload hx hb d_law_1041 (lv_at hl 4 rfl) ?_
    refine lv_iconst (v := 1) hx hb d_law_1043 (by decide) ?_
    refine lv_iadd hx hb d_law_1044 ?_
    refine jd_sld hx hb hX hbl hbA hS hin1 ha1 d_law_1045 ?_
    refine lv_aload_n hx hb d_law_1046 rfl (lv_at hl 0 rfl) ?_
    refine lv_iload hx hb d_law_1047 (lv_at hl 4 rfl) ?_
    refine lv_iconst (v := 2) hx hb d_law_1049 (by decide) ?_
    refine lv_iadd hx hb d_law_1050 ?_
    refine jd_sld hx hb hX hbl hbA hS hin2 ha2 d_law_1051 ?_
    have hPc := jd_Pp (wL_C (O := O) hh hp) hP
    have hDc := jd_Dp (wL_C (O := O) hh hp) hD
    refine jd_fri (w1 := wC ca (adC ad (adh h)) (hsOf pr adh) kI (mJ (Jh h) J)) hPc hDc hS hA rfl (va_runV (As := [.int a1, .int a2]) (rest := []) cx (cm_K_tieEntry l D ca (adC ad (adh h)) (hsOf pr adh) (hs_some hh hp0 hp) f1 H.size) (cwV 2 hts (jd_gVL tb_392 tb_393 tb_394 tb_43 tb_395) rfl rfl rfl ⟨rfl, by decide, by decide, rfl⟩ ⟨Nat.le_of_ble_eq_true rfl, Nat.le_of_ble_eq_true rfl⟩) ⟨jd_blind nWc, va_recv hK (jd_Pl hPc) (ci := 3) (q0 := 15) rfl rfl, jd_pre (av := [.ref (adC ad (adh h) 15), .int a1, .int a2]) (jd_Pl hPc) hK (jd_Dl hDc) (fun U h => nWm h hN)⟩ rfl rfl hl.1 rfl (lv_room (Nat.le_of_ble_eq_true rfl)) d_law_1052 ⟨(by show cells + 0 ≤ 601024; omega), (by show slots + 0 ≤ 7293034; omega)⟩) (fun H locs hP1 hD1 hS => ?_)
    have hP := jd_Pp (wL_C' hh hp) hP1
    have hD := jd_Dp (wL_C' hh hp) hD1
    refine lv_aload_n hx hb d_law_1055 rfl (lv_at hl 2 rfl) ?_
    refine lv_aload_n hx hb d_law_1056 rfl (lv_at hl 0 rfl) ?_
    refine lv_iload hx hb d_law_1057 (lv_at hl 4 rfl) ?_
    refine lv_iconst (v := 1) hx hb d_law_1059 (by decide) ?_
    refine lv_iadd hx hb d_law_1060 ?_
    refine jd_sld hx hb hX hbl hbA hS hin1 ha1 d_law_1061 ?_
    refine lv_aload_n hx hb d_law_1062 rfl (lv_at hl 0 rfl) ?_
    refine lv_iload hx hb d_law_1063 (lv_at hl 4 rfl) ?_
    refine lv_iconst (v := 2) hx hb d_law_1065 (by decide) ?_
    refine lv_iadd hx hb d_law_1066 ?_
    refine jd_sld hx hb hX hbl hbA hS hin2 ha2 d_law_1067 ?_
    have hPm := jd_Pp (wL_M (O := O)) hP
    have hDm := jd_Dp (wL_M (O := O)) hD
    refine jd_fri (w1 := wM ca am nI JM) hPm hDm hS hA rfl (va_runV (As := [.int a1, .int a2]) (rest := [.int r]) cx (cm_M_tieEntry l D ca am f2 H.size) (cwV 2 hts (jd_gVL tb_792 tb_793 tb_794 tb_47 tb_795) rfl rfl rfl ⟨rfl, by decide, by decide, rfl⟩ ⟨Nat.le_of_ble_eq_true rfl, Nat.le_of_ble_eq_true rfl⟩) ⟨jd_blind nWc, va_recv hK (jd_Pl hPm) (ci := 6) (q0 := 0) rfl rfl, jd_pre (av := [.ref (am 0), .int a1, .int a2]) (jd_Pl hPm) hK (jd_Dl hDm) (fun U h => nWm h hN)⟩ rfl rfl hl.1 rfl (lv_room (Nat.le_of_ble_eq_true rfl)) d_law_1068 ⟨(by show cells + 0 ≤ 601024; omega), (by show slots + 0 ≤ 7293034; omega)⟩) (fun H locs hP1 hD1 hS => ?_)
    have hP := jd_Pp (wL_M (IM := nI) (JM := JM) (O := O)).symm hP1
    have hD := jd_Dp (wL_M (IM := nI) (JM := JM) (O := O)).symm hD1
    refine lv_icmp_eq (tgt := 1175) hx hb d_law_1071 rfl (fun _ => ?_) (fun h => absurd rfl h)
    exact kk adh pr kI (mJ (Jh h) J) (upN Ih h kI) (upN Jh h (mJ (Jh h) J)) nI JM O H locs ls cells slots hR2 ⟨hP, hD, hS⟩ hl (by omega) (by omega)
  · have hp : ∀ h, h < 12 → a1 = nI h → pr h = false := fun h h1 h2 => by cases hq : pr h with | false => rfl | true => exact absurd ⟨h, h1, h2, hq⟩ hpz
    obtain ⟨r, nI, f1, f2, hR2⟩ := hok.2 pr I J Ih Jh IM JM O hR a1 a2 hp
    refine lv_aload_n hx hb d_law_1039 rfl (lv_at hl 1 rfl) ?_
    refine lv_aload_n hx hb d_law_1040 rfl (lv_at hl 0 rfl) ?_
    refine lv_iload hx hb d_law_1041 (lv_at hl 4 rfl) ?_
    refine lv_iconst (v := 1) hx hb d_law_1043 (by decide) ?_
    refine lv_iadd hx hb d_law_1044 ?_
    refine jd_sld hx hb hX hbl hbA hS hin1 ha1 d_law_1045 ?_
    refine lv_aload_n hx hb d_law_1046 rfl (lv_at hl 0 rfl) ?_
    refine lv_iload hx hb d_law_1047 (lv_at hl 4 rfl) ?_
    refine lv_iconst (v := 2) hx hb d_law_1049 (by decide) ?_
    refine lv_iadd hx hb d_law_1050 ?_
    refine jd_sld hx hb hX hbl hbA hS hin2 ha2 d_law_1051 ?_
    have hPc := hP
    have hDc := hD
    unfold wL at hPc hDc
    refine jd_fri (w1 := wD ca ad (hsOf pr adh) I J) hPc hDc hS hA rfl (va_runV (As := [.int a1, .int a2]) (rest := []) cx (cm_K_tieEntry_n l D ca ad (hsOf pr adh) (hs_none hp) f1 H.size) (cwV 2 hts (jd_gVL tb_392 tb_393 tb_394 tb_43 tb_395) rfl rfl rfl ⟨rfl, by decide, by decide, rfl⟩ ⟨Nat.le_of_ble_eq_true rfl, Nat.le_of_ble_eq_true rfl⟩) ⟨jd_blind nWc, va_recv hK (jd_Pl hPc) (ci := 3) (q0 := 0) rfl rfl, jd_pre (av := [.ref (ad 15), .int a1, .int a2]) (jd_Pl hPc) hK (jd_Dl hDc) (fun U h => nWm h hN)⟩ rfl rfl hl.1 rfl (lv_room (Nat.le_of_ble_eq_true rfl)) d_law_1052 ⟨(by show cells + 0 ≤ 601024; omega), (by show slots + 0 ≤ 7293034; omega)⟩) (fun H locs hP1 hD1 hS => ?_)
    have hP : va_P D cls_all (wL ca ad adh am pr I J Ih Jh IM JM O) H := hP1
    have hD : va_D _ (wL ca ad adh am pr I J Ih Jh IM JM O) := hD1
    refine lv_aload_n hx hb d_law_1055 rfl (lv_at hl 2 rfl) ?_
    refine lv_aload_n hx hb d_law_1056 rfl (lv_at hl 0 rfl) ?_
    refine lv_iload hx hb d_law_1057 (lv_at hl 4 rfl) ?_
    refine lv_iconst (v := 1) hx hb d_law_1059 (by decide) ?_
    refine lv_iadd hx hb d_law_1060 ?_
    refine jd_sld hx hb hX hbl hbA hS hin1 ha1 d_law_1061 ?_
    refine lv_aload_n hx hb d_law_1062 rfl (lv_at hl 0 rfl) ?_
    refine lv_iload hx hb d_law_1063 (lv_at hl 4 rfl) ?_
    refine lv_iconst (v := 2) hx hb d_law_1065 (by decide) ?_
    refine lv_iadd hx hb d_law_1066 ?_
    refine jd_sld hx hb hX hbl hbA hS hin2 ha2 d_law_1067 ?_
    have hPm := jd_Pp (wL_M (O := O)) hP
    have hDm := jd_Dp (wL_M (O := O)) hD
    refine jd_fri (w1 := wM ca am nI JM) hPm hDm hS hA rfl (va_runV (As := [.int a1, .int a2]) (rest := [.int r]) cx (cm_M_tieEntry l D ca am f2 H.size) (cwV 2 hts (jd_gVL tb_792 tb_793 tb_794 tb_47 tb_795) rfl rfl rfl ⟨rfl, by decide, by decide, rfl⟩ ⟨Nat.le_of_ble_eq_true rfl, Nat.le_of_ble_eq_true rfl⟩) ⟨jd_blind nWc, va_recv hK (jd_Pl hPm) (ci := 6) (q0 := 0) rfl rfl, jd_pre (av := [.ref (am 0), .int a1, .int a2]) (jd_Pl hPm) hK (jd_Dl hDm) (fun U h => nWm h hN)⟩ rfl rfl hl.1 rfl (lv_room (Nat.le_of_ble_eq_true rfl)) d_law_1068 ⟨(by show cells + 0 ≤ 601024; omega), (by show slots + 0 ≤ 7293034; omega)⟩) (fun H locs hP1 hD1 hS => ?_)
    have hP := jd_Pp (wL_M (IM := nI) (JM := JM) (O := O)).symm hP1
    have hD := jd_Dp (wL_M (IM := nI) (JM := JM) (O := O)).symm hD1
    refine lv_icmp_eq (tgt := 1175) hx hb d_law_1071 rfl (fun _ => ?_) (fun h => absurd rfl h)
    exact kk adh pr I J Ih Jh nI JM O H locs ls cells slots hR2 ⟨hP, hD, hS⟩ hl (by omega) (by omega)
def Ok_chains (Rel : (Nat → Bool) → IS → JS → (Nat → IS) → (Nat → JS) → IS → JS → (Nat → Int64) → Prop) : Prop := (∀ (pr : Nat → Bool) (I : IS) (J : JS) (Ih : Nat → IS) (Jh : Nat → JS) (IM : IS) (JM : JS) (O : Nat → Int64), Rel pr I J Ih Jh IM JM O → ∀ (p0 : Int32) (h : Nat), h < 12 → p0 = nI h → pr h = true → ∃ (r : Int32), ∃ (kI : IS), ∃ (nI : IS), fm_K_chains p0 (mI (Ih h) I) = some (r, kI) ∧ fm_M_chains p0 IM = some (r, nI) ∧ Rel pr kI (mJ (Jh h) J) (upN Ih h kI) (upN Jh h (mJ (Jh h) J)) nI JM O) ∧ (∀ (pr : Nat → Bool) (I : IS) (J : JS) (Ih : Nat → IS) (Jh : Nat → JS) (IM : IS) (JM : JS) (O : Nat → Int64), Rel pr I J Ih Jh IM JM O → ∀ (p0 : Int32) , (∀ h, h < 12 → p0 = nI h → pr h = false) → ∃ (r : Int32), ∃ (nI : IS), fm_K_chains_n p0 = some r ∧ fm_M_chains p0 IM = some (r, nI) ∧ Rel pr I J Ih Jh nI JM O)
set_option maxHeartbeats 4000000 in
set_option maxRecDepth 100000 in
theorem law_chains {Rel : (Nat → Bool) → IS → JS → (Nat → IS) → (Nat → JS) → IS → JS → (Nat → Int64) → Prop} (hok : Ok_chains Rel) {p : Program} {l : Launch} {e : Env} {s : State} {m : MethodId} {below : List Frame} {meth : Method} {c : Code} {b L : Nat} {xs : Nat → Int32} {D : va_G} {ca : Nat → ClassId} {Q : State → Prop} (C0 : lwC p l s m meth c b L xs D ca) {ad : Nat → Nat} {adh : Nat → Nat → Nat} {am : Nat → Nat} {pr : Nat → Bool} {I : IS} {J : JS} {Ih : Nat → IS} {Jh : Nat → JS} {IM : IS} {JM : JS} {O : Nat → Int64} {H : Heap} {locs : List Loc} {ls : Array Slot} {cells slots : Nat} {i : Int32} (hR : Rel pr I J Ih Jh IM JM O) (hW : lwS D s ca ad adh am pr I J Ih Jh IM JM O H locs) (hl : lv_has ls 8 (lvL b ad am i)) (hin : vp_in (i + 1) L ∧ vp_in (i + 2) L ∧ vp_in (i + 3) L ∧ vp_in (i + 4) L ∧ vp_in (i + 5) L) (hc : cells + 16 ≤ 601024) (hs : slots + 1900 ≤ 7293034) (kk : lwK Rel p l e s m below meth c b D ca ad am i cells slots Q) : W p l e room_1 s m #[Value.ref b] below meth c H locs cells slots Q (F0 m 1076 ls []) := by
  obtain ⟨cx, hK, hN, hXF, hfl, hX, hbl⟩ := C0
  have hx := cx.1
  have hb := cx.2.1
  have hown := cx.2.2.2.1
  have hts := cx.2.2.2.2
  obtain ⟨hP, hD, hS⟩ := hW
  have hA : ∀ q, s.heap.size ≤ q → (fun q => s.heap.size ≤ q) q := fun q h => h
  have hbA : ¬ (fun q => s.heap.size ≤ q) b := fun h => absurd h (Nat.not_le.mpr hbl)
  obtain ⟨hin1, hin2, hin3, hin4, hin5⟩ := hin
  generalize ha1 : xs (i + 1).toNatClampNeg = a1
  generalize ha2 : xs (i + 2).toNatClampNeg = a2
  generalize ha3 : xs (i + 3).toNatClampNeg = a3
  generalize ha4 : xs (i + 4).toNatClampNeg = a4
  generalize ha5 : xs (i + 5).toNatClampNeg = a5
  by_cases hpz : ∃ h, h < 12 ∧ a1 = nI h ∧ pr h = true
  · obtain ⟨h, hh, hp0, hp⟩ := hpz
    obtain ⟨r, kI, nI, f1, f2, hR2⟩ := hok.1 pr I J Ih Jh IM JM O hR a1 h hh hp0 hp
    refine lv_aload_n hx hb d_law_1076 rfl (lv_at hl 1 rfl) ?_
    refine lv_aload_n hx hb d_law_1077 rfl (lv_at hl 0 rfl) ?_
    refine lv_iload hx hb d_law_1078 (lv_at hl 4 rfl) ?_
    refine lv_iconst (v := 1) hx hb d_law_1080 (by decide) ?_
    refine lv_iadd hx hb d_law_1081 ?_
    refine jd_sld hx hb hX hbl hbA hS hin1 ha1 d_law_1082 ?_
    have hPc := jd_Pp (wL_C (O := O) hh hp) hP
    have hDc := jd_Dp (wL_C (O := O) hh hp) hD
    refine jd_fri (w1 := wC ca (adC ad (adh h)) (hsOf pr adh) kI (mJ (Jh h) J)) hPc hDc hS hA rfl (va_runV (As := [.int a1]) (rest := []) cx (cm_K_chains l D ca (adC ad (adh h)) (hsOf pr adh) (hs_some hh hp0 hp) f1 H.size) (cwV 1 hts (jd_gVL tb_400 tb_401 tb_402 tb_43 tb_403) rfl rfl rfl ⟨rfl, by decide, by decide, rfl⟩ ⟨Nat.le_of_ble_eq_true rfl, Nat.le_of_ble_eq_true rfl⟩) ⟨jd_blind nWc, va_recv hK (jd_Pl hPc) (ci := 3) (q0 := 15) rfl rfl, jd_pre (av := [.ref (adC ad (adh h) 15), .int a1]) (jd_Pl hPc) hK (jd_Dl hDc) (fun U h => nWm h hN)⟩ rfl rfl hl.1 rfl (lv_room (Nat.le_of_ble_eq_true rfl)) d_law_1083 ⟨(by show cells + 0 ≤ 601024; omega), (by show slots + 0 ≤ 7293034; omega)⟩) (fun H locs hP1 hD1 hS => ?_)
    have hP := jd_Pp (wL_C' hh hp) hP1
    have hD := jd_Dp (wL_C' hh hp) hD1
    refine lv_aload_n hx hb d_law_1086 rfl (lv_at hl 2 rfl) ?_
    refine lv_aload_n hx hb d_law_1087 rfl (lv_at hl 0 rfl) ?_
    refine lv_iload hx hb d_law_1088 (lv_at hl 4 rfl) ?_
    refine lv_iconst (v := 1) hx hb d_law_1090 (by decide) ?_
    refine lv_iadd hx hb d_law_1091 ?_
    refine jd_sld hx hb hX hbl hbA hS hin1 ha1 d_law_1092 ?_
    have hPm := jd_Pp (wL_M (O := O)) hP
    have hDm := jd_Dp (wL_M (O := O)) hD
    refine jd_fri (w1 := wM ca am nI JM) hPm hDm hS hA rfl (va_runV (As := [.int a1]) (rest := [.int r]) cx (cm_M_chains l D ca am f2 H.size) (cwV 1 hts (jd_gVL tb_796 tb_797 tb_798 tb_47 tb_799) rfl rfl rfl ⟨rfl, by decide, by decide, rfl⟩ ⟨Nat.le_of_ble_eq_true rfl, Nat.le_of_ble_eq_true rfl⟩) ⟨jd_blind nWc, va_recv hK (jd_Pl hPm) (ci := 6) (q0 := 0) rfl rfl, jd_pre (av := [.ref (am 0), .int a1]) (jd_Pl hPm) hK (jd_Dl hDm) (fun U h => nWm h hN)⟩ rfl rfl hl.1 rfl (lv_room (Nat.le_of_ble_eq_true rfl)) d_law_1093 ⟨(by show cells + 0 ≤ 601024; omega), (by show slots + 0 ≤ 7293034; omega)⟩) (fun H locs hP1 hD1 hS => ?_)
    have hP := jd_Pp (wL_M (IM := nI) (JM := JM) (O := O)).symm hP1
    have hD := jd_Dp (wL_M (IM := nI) (JM := JM) (O := O)).symm hD1
    refine lv_icmp_eq (tgt := 1175) hx hb d_law_1096 rfl (fun _ => ?_) (fun h => absurd rfl h)
    exact kk adh pr kI (mJ (Jh h) J) (upN Ih h kI) (upN Jh h (mJ (Jh h) J)) nI JM O H locs ls cells slots hR2 ⟨hP, hD, hS⟩ hl (by omega) (by omega)
  · have hp : ∀ h, h < 12 → a1 = nI h → pr h = false := fun h h1 h2 => by cases hq : pr h with | false => rfl | true => exact absurd ⟨h, h1, h2, hq⟩ hpz
    obtain ⟨r, nI, f1, f2, hR2⟩ := hok.2 pr I J Ih Jh IM JM O hR a1 hp
    refine lv_aload_n hx hb d_law_1076 rfl (lv_at hl 1 rfl) ?_
    refine lv_aload_n hx hb d_law_1077 rfl (lv_at hl 0 rfl) ?_
    refine lv_iload hx hb d_law_1078 (lv_at hl 4 rfl) ?_
    refine lv_iconst (v := 1) hx hb d_law_1080 (by decide) ?_
    refine lv_iadd hx hb d_law_1081 ?_
    refine jd_sld hx hb hX hbl hbA hS hin1 ha1 d_law_1082 ?_
    have hPc := hP
    have hDc := hD
    unfold wL at hPc hDc
    refine jd_fri (w1 := wD ca ad (hsOf pr adh) I J) hPc hDc hS hA rfl (va_runV (As := [.int a1]) (rest := []) cx (cm_K_chains_n l D ca ad (hsOf pr adh) (hs_none hp) f1 H.size) (cwV 1 hts (jd_gVL tb_400 tb_401 tb_402 tb_43 tb_403) rfl rfl rfl ⟨rfl, by decide, by decide, rfl⟩ ⟨Nat.le_of_ble_eq_true rfl, Nat.le_of_ble_eq_true rfl⟩) ⟨jd_blind nWc, va_recv hK (jd_Pl hPc) (ci := 3) (q0 := 0) rfl rfl, jd_pre (av := [.ref (ad 15), .int a1]) (jd_Pl hPc) hK (jd_Dl hDc) (fun U h => nWm h hN)⟩ rfl rfl hl.1 rfl (lv_room (Nat.le_of_ble_eq_true rfl)) d_law_1083 ⟨(by show cells + 0 ≤ 601024; omega), (by show slots + 0 ≤ 7293034; omega)⟩) (fun H locs hP1 hD1 hS => ?_)
    have hP : va_P D cls_all (wL ca ad adh am pr I J Ih Jh IM JM O) H := hP1
    have hD : va_D _ (wL ca ad adh am pr I J Ih Jh IM JM O) := hD1
    refine lv_aload_n hx hb d_law_1086 rfl (lv_at hl 2 rfl) ?_
    refine lv_aload_n hx hb d_law_1087 rfl (lv_at hl 0 rfl) ?_
    refine lv_iload hx hb d_law_1088 (lv_at hl 4 rfl) ?_
    refine lv_iconst (v := 1) hx hb d_law_1090 (by decide) ?_
    refine lv_iadd hx hb d_law_1091 ?_
    refine jd_sld hx hb hX hbl hbA hS hin1 ha1 d_law_1092 ?_
    have hPm := jd_Pp (wL_M (O := O)) hP
    have hDm := jd_Dp (wL_M (O := O)) hD
    refine jd_fri (w1 := wM ca am nI JM) hPm hDm hS hA rfl (va_runV (As := [.int a1]) (rest := [.int r]) cx (cm_M_chains l D ca am f2 H.size) (cwV 1 hts (jd_gVL tb_796 tb_797 tb_798 tb_47 tb_799) rfl rfl rfl ⟨rfl, by decide, by decide, rfl⟩ ⟨Nat.le_of_ble_eq_true rfl, Nat.le_of_ble_eq_true rfl⟩) ⟨jd_blind nWc, va_recv hK (jd_Pl hPm) (ci := 6) (q0 := 0) rfl rfl, jd_pre (av := [.ref (am 0), .int a1]) (jd_Pl hPm) hK (jd_Dl hDm) (fun U h => nWm h hN)⟩ rfl rfl hl.1 rfl (lv_room (Nat.le_of_ble_eq_true rfl)) d_law_1093 ⟨(by show cells + 0 ≤ 601024; omega), (by show slots + 0 ≤ 7293034; omega)⟩) (fun H locs hP1 hD1 hS => ?_)
    have hP := jd_Pp (wL_M (IM := nI) (JM := JM) (O := O)).symm hP1
    have hD := jd_Dp (wL_M (IM := nI) (JM := JM) (O := O)).symm hD1
    refine lv_icmp_eq (tgt := 1175) hx hb d_law_1096 rfl (fun _ => ?_) (fun h => absurd rfl h)
    exact kk adh pr I J Ih Jh nI JM O H locs ls cells slots hR2 ⟨hP, hD, hS⟩ hl (by omega) (by omega)
def Ok_follows (Rel : (Nat → Bool) → IS → JS → (Nat → IS) → (Nat → JS) → IS → JS → (Nat → Int64) → Prop) : Prop := (∀ (pr : Nat → Bool) (I : IS) (J : JS) (Ih : Nat → IS) (Jh : Nat → JS) (IM : IS) (JM : JS) (O : Nat → Int64), Rel pr I J Ih Jh IM JM O → ∀ (p0 : Int32) (p1 : Int32) (h : Nat), h < 12 → p0 = nI h → pr h = true → ∃ (r : Int32), ∃ (kI : IS), ∃ (nI : IS), fm_K_follows p0 p1 (mI (Ih h) I) = some (r, kI) ∧ fm_M_follows p0 p1 IM = some (r, nI) ∧ Rel pr kI (mJ (Jh h) J) (upN Ih h kI) (upN Jh h (mJ (Jh h) J)) nI JM O) ∧ (∀ (pr : Nat → Bool) (I : IS) (J : JS) (Ih : Nat → IS) (Jh : Nat → JS) (IM : IS) (JM : JS) (O : Nat → Int64), Rel pr I J Ih Jh IM JM O → ∀ (p0 : Int32) (p1 : Int32) , (∀ h, h < 12 → p0 = nI h → pr h = false) → ∃ (r : Int32), ∃ (nI : IS), fm_K_follows_n p0 p1 = some r ∧ fm_M_follows p0 p1 IM = some (r, nI) ∧ Rel pr I J Ih Jh nI JM O)
set_option maxHeartbeats 4000000 in
set_option maxRecDepth 100000 in
theorem law_follows {Rel : (Nat → Bool) → IS → JS → (Nat → IS) → (Nat → JS) → IS → JS → (Nat → Int64) → Prop} (hok : Ok_follows Rel) {p : Program} {l : Launch} {e : Env} {s : State} {m : MethodId} {below : List Frame} {meth : Method} {c : Code} {b L : Nat} {xs : Nat → Int32} {D : va_G} {ca : Nat → ClassId} {Q : State → Prop} (C0 : lwC p l s m meth c b L xs D ca) {ad : Nat → Nat} {adh : Nat → Nat → Nat} {am : Nat → Nat} {pr : Nat → Bool} {I : IS} {J : JS} {Ih : Nat → IS} {Jh : Nat → JS} {IM : IS} {JM : JS} {O : Nat → Int64} {H : Heap} {locs : List Loc} {ls : Array Slot} {cells slots : Nat} {i : Int32} (hR : Rel pr I J Ih Jh IM JM O) (hW : lwS D s ca ad adh am pr I J Ih Jh IM JM O H locs) (hl : lv_has ls 8 (lvL b ad am i)) (hin : vp_in (i + 1) L ∧ vp_in (i + 2) L ∧ vp_in (i + 3) L ∧ vp_in (i + 4) L ∧ vp_in (i + 5) L) (hc : cells + 16 ≤ 601024) (hs : slots + 1900 ≤ 7293034) (kk : lwK Rel p l e s m below meth c b D ca ad am i cells slots Q) : W p l e room_1 s m #[Value.ref b] below meth c H locs cells slots Q (F0 m 1101 ls []) := by
  obtain ⟨cx, hK, hN, hXF, hfl, hX, hbl⟩ := C0
  have hx := cx.1
  have hb := cx.2.1
  have hown := cx.2.2.2.1
  have hts := cx.2.2.2.2
  obtain ⟨hP, hD, hS⟩ := hW
  have hA : ∀ q, s.heap.size ≤ q → (fun q => s.heap.size ≤ q) q := fun q h => h
  have hbA : ¬ (fun q => s.heap.size ≤ q) b := fun h => absurd h (Nat.not_le.mpr hbl)
  obtain ⟨hin1, hin2, hin3, hin4, hin5⟩ := hin
  generalize ha1 : xs (i + 1).toNatClampNeg = a1
  generalize ha2 : xs (i + 2).toNatClampNeg = a2
  generalize ha3 : xs (i + 3).toNatClampNeg = a3
  generalize ha4 : xs (i + 4).toNatClampNeg = a4
  generalize ha5 : xs (i + 5).toNatClampNeg = a5
  by_cases hpz : ∃ h, h < 12 ∧ a1 = nI h ∧ pr h = true
  · obtain ⟨h, hh, hp0, hp⟩ := hpz
    obtain ⟨r, kI, nI, f1, f2, hR2⟩ := hok.1 pr I J Ih Jh IM JM O hR a1 a2 h hh hp0 hp
    refine lv_aload_n hx hb d_law_1101 rfl (lv_at hl 1 rfl) ?_
    refine lv_aload_n hx hb d_law_1102 rfl (lv_at hl 0 rfl) ?_
    refine lv_iload hx hb d_law_1103 (lv_at hl 4 rfl) ?_
    refine lv_iconst (v := 1) hx hb d_law_1105 (by decide) ?_
    refine lv_iadd hx hb d_law_1106 ?_
    refine jd_sld hx hb hX hbl hbA hS hin1 ha1 d_law_1107 ?_
    refine lv_aload_n hx hb d_law_1108 rfl (lv_at hl 0 rfl) ?_
    refine lv_iload hx hb d_law_1109 (lv_at hl 4 rfl) ?_
    refine lv_iconst (v := 2) hx hb d_law_1111 (by decide) ?_
    refine lv_iadd hx hb d_law_1112 ?_
    refine jd_sld hx hb hX hbl hbA hS hin2 ha2 d_law_1113 ?_
    have hPc := jd_Pp (wL_C (O := O) hh hp) hP
    have hDc := jd_Dp (wL_C (O := O) hh hp) hD
    refine jd_fri (w1 := wC ca (adC ad (adh h)) (hsOf pr adh) kI (mJ (Jh h) J)) hPc hDc hS hA rfl (va_runV (As := [.int a1, .int a2]) (rest := []) cx (cm_K_follows l D ca (adC ad (adh h)) (hsOf pr adh) (hs_some hh hp0 hp) f1 H.size) (cwV 2 hts (jd_gVL tb_404 tb_405 tb_406 tb_43 tb_407) rfl rfl rfl ⟨rfl, by decide, by decide, rfl⟩ ⟨Nat.le_of_ble_eq_true rfl, Nat.le_of_ble_eq_true rfl⟩) ⟨jd_blind nWc, va_recv hK (jd_Pl hPc) (ci := 3) (q0 := 15) rfl rfl, jd_pre (av := [.ref (adC ad (adh h) 15), .int a1, .int a2]) (jd_Pl hPc) hK (jd_Dl hDc) (fun U h => nWm h hN)⟩ rfl rfl hl.1 rfl (lv_room (Nat.le_of_ble_eq_true rfl)) d_law_1114 ⟨(by show cells + 0 ≤ 601024; omega), (by show slots + 0 ≤ 7293034; omega)⟩) (fun H locs hP1 hD1 hS => ?_)
    have hP := jd_Pp (wL_C' hh hp) hP1
    have hD := jd_Dp (wL_C' hh hp) hD1
    refine lv_aload_n hx hb d_law_1117 rfl (lv_at hl 2 rfl) ?_
    refine lv_aload_n hx hb d_law_1118 rfl (lv_at hl 0 rfl) ?_
    refine lv_iload hx hb d_law_1119 (lv_at hl 4 rfl) ?_
    refine lv_iconst (v := 1) hx hb d_law_1121 (by decide) ?_
    refine lv_iadd hx hb d_law_1122 ?_
    refine jd_sld hx hb hX hbl hbA hS hin1 ha1 d_law_1123 ?_
    refine lv_aload_n hx hb d_law_1124 rfl (lv_at hl 0 rfl) ?_
    refine lv_iload hx hb d_law_1125 (lv_at hl 4 rfl) ?_
    refine lv_iconst (v := 2) hx hb d_law_1127 (by decide) ?_
    refine lv_iadd hx hb d_law_1128 ?_
    refine jd_sld hx hb hX hbl hbA hS hin2 ha2 d_law_1129 ?_
    have hPm := jd_Pp (wL_M (O := O)) hP
    have hDm := jd_Dp (wL_M (O := O)) hD
    refine jd_fri (w1 := wM ca am nI JM) hPm hDm hS hA rfl (va_runV (As := [.int a1, .int a2]) (rest := [.int r]) cx (cm_M_follows l D ca am f2 H.size) (cwV 2 hts (jd_gVL tb_815 tb_816 tb_817 tb_47 tb_818) rfl rfl rfl ⟨rfl, by decide, by decide, rfl⟩ ⟨Nat.le_of_ble_eq_true rfl, Nat.le_of_ble_eq_true rfl⟩) ⟨jd_blind nWc, va_recv hK (jd_Pl hPm) (ci := 6) (q0 := 0) rfl rfl, jd_pre (av := [.ref (am 0), .int a1, .int a2]) (jd_Pl hPm) hK (jd_Dl hDm) (fun U h => nWm h hN)⟩ rfl rfl hl.1 rfl (lv_room (Nat.le_of_ble_eq_true rfl)) d_law_1130 ⟨(by show cells + 0 ≤ 601024; omega), (by show slots + 0 ≤ 7293034; omega)⟩) (fun H locs hP1 hD1 hS => ?_)
    have hP := jd_Pp (wL_M (IM := nI) (JM := JM) (O := O)).symm hP1
    have hD := jd_Dp (wL_M (IM := nI) (JM := JM) (O := O)).symm hD1
    refine lv_icmp_eq (tgt := 1175) hx hb d_law_1133 rfl (fun _ => ?_) (fun h => absurd rfl h)
    exact kk adh pr kI (mJ (Jh h) J) (upN Ih h kI) (upN Jh h (mJ (Jh h) J)) nI JM O H locs ls cells slots hR2 ⟨hP, hD, hS⟩ hl (by omega) (by omega)
  · have hp : ∀ h, h < 12 → a1 = nI h → pr h = false := fun h h1 h2 => by cases hq : pr h with | false => rfl | true => exact absurd ⟨h, h1, h2, hq⟩ hpz
    obtain ⟨r, nI, f1, f2, hR2⟩ := hok.2 pr I J Ih Jh IM JM O hR a1 a2 hp
    refine lv_aload_n hx hb d_law_1101 rfl (lv_at hl 1 rfl) ?_
    refine lv_aload_n hx hb d_law_1102 rfl (lv_at hl 0 rfl) ?_
    refine lv_iload hx hb d_law_1103 (lv_at hl 4 rfl) ?_
    refine lv_iconst (v := 1) hx hb d_law_1105 (by decide) ?_
    refine lv_iadd hx hb d_law_1106 ?_
    refine jd_sld hx hb hX hbl hbA hS hin1 ha1 d_law_1107 ?_
    refine lv_aload_n hx hb d_law_1108 rfl (lv_at hl 0 rfl) ?_
    refine lv_iload hx hb d_law_1109 (lv_at hl 4 rfl) ?_
    refine lv_iconst (v := 2) hx hb d_law_1111 (by decide) ?_
    refine lv_iadd hx hb d_law_1112 ?_
    refine jd_sld hx hb hX hbl hbA hS hin2 ha2 d_law_1113 ?_
    have hPc := hP
    have hDc := hD
    unfold wL at hPc hDc
    refine jd_fri (w1 := wD ca ad (hsOf pr adh) I J) hPc hDc hS hA rfl (va_runV (As := [.int a1, .int a2]) (rest := []) cx (cm_K_follows_n l D ca ad (hsOf pr adh) (hs_none hp) f1 H.size) (cwV 2 hts (jd_gVL tb_404 tb_405 tb_406 tb_43 tb_407) rfl rfl rfl ⟨rfl, by decide, by decide, rfl⟩ ⟨Nat.le_of_ble_eq_true rfl, Nat.le_of_ble_eq_true rfl⟩) ⟨jd_blind nWc, va_recv hK (jd_Pl hPc) (ci := 3) (q0 := 0) rfl rfl, jd_pre (av := [.ref (ad 15), .int a1, .int a2]) (jd_Pl hPc) hK (jd_Dl hDc) (fun U h => nWm h hN)⟩ rfl rfl hl.1 rfl (lv_room (Nat.le_of_ble_eq_true rfl)) d_law_1114 ⟨(by show cells + 0 ≤ 601024; omega), (by show slots + 0 ≤ 7293034; omega)⟩) (fun H locs hP1 hD1 hS => ?_)
    have hP : va_P D cls_all (wL ca ad adh am pr I J Ih Jh IM JM O) H := hP1
    have hD : va_D _ (wL ca ad adh am pr I J Ih Jh IM JM O) := hD1
    refine lv_aload_n hx hb d_law_1117 rfl (lv_at hl 2 rfl) ?_
    refine lv_aload_n hx hb d_law_1118 rfl (lv_at hl 0 rfl) ?_
    refine lv_iload hx hb d_law_1119 (lv_at hl 4 rfl) ?_
    refine lv_iconst (v := 1) hx hb d_law_1121 (by decide) ?_
    refine lv_iadd hx hb d_law_1122 ?_
    refine jd_sld hx hb hX hbl hbA hS hin1 ha1 d_law_1123 ?_
    refine lv_aload_n hx hb d_law_1124 rfl (lv_at hl 0 rfl) ?_
    refine lv_iload hx hb d_law_1125 (lv_at hl 4 rfl) ?_
    refine lv_iconst (v := 2) hx hb d_law_1127 (by decide) ?_
    refine lv_iadd hx hb d_law_1128 ?_
    refine jd_sld hx hb hX hbl hbA hS hin2 ha2 d_law_1129 ?_
    have hPm := jd_Pp (wL_M (O := O)) hP
    have hDm := jd_Dp (wL_M (O := O)) hD
    refine jd_fri (w1 := wM ca am nI JM) hPm hDm hS hA rfl (va_runV (As := [.int a1, .int a2]) (rest := [.int r]) cx (cm_M_follows l D ca am f2 H.size) (cwV 2 hts (jd_gVL tb_815 tb_816 tb_817 tb_47 tb_818) rfl rfl rfl ⟨rfl, by decide, by decide, rfl⟩ ⟨Nat.le_of_ble_eq_true rfl, Nat.le_of_ble_eq_true rfl⟩) ⟨jd_blind nWc, va_recv hK (jd_Pl hPm) (ci := 6) (q0 := 0) rfl rfl, jd_pre (av := [.ref (am 0), .int a1, .int a2]) (jd_Pl hPm) hK (jd_Dl hDm) (fun U h => nWm h hN)⟩ rfl rfl hl.1 rfl (lv_room (Nat.le_of_ble_eq_true rfl)) d_law_1130 ⟨(by show cells + 0 ≤ 601024; omega), (by show slots + 0 ≤ 7293034; omega)⟩) (fun H locs hP1 hD1 hS => ?_)
    have hP := jd_Pp (wL_M (IM := nI) (JM := JM) (O := O)).symm hP1
    have hD := jd_Dp (wL_M (IM := nI) (JM := JM) (O := O)).symm hD1
    refine lv_icmp_eq (tgt := 1175) hx hb d_law_1133 rfl (fun _ => ?_) (fun h => absurd rfl h)
    exact kk adh pr I J Ih Jh nI JM O H locs ls cells slots hR2 ⟨hP, hD, hS⟩ hl (by omega) (by omega)
def Ok_count (Rel : (Nat → Bool) → IS → JS → (Nat → IS) → (Nat → JS) → IS → JS → (Nat → Int64) → Prop) : Prop := (∀ (pr : Nat → Bool) (I : IS) (J : JS) (Ih : Nat → IS) (Jh : Nat → JS) (IM : IS) (JM : JS) (O : Nat → Int64), Rel pr I J Ih Jh IM JM O → ∀ (p0 : Int32) (p1 : Int32) (h : Nat), h < 12 → p0 = nI h → pr h = true → ∃ (r : Int32), ∃ (nI : IS), fm_K_count p0 p1 (mI (Ih h) I) = some r ∧ fm_M_count p0 p1 IM = some (r, nI) ∧ Rel pr (mI (Ih h) I) (mJ (Jh h) J) (upN Ih h (mI (Ih h) I)) (upN Jh h (mJ (Jh h) J)) nI JM O) ∧ (∀ (pr : Nat → Bool) (I : IS) (J : JS) (Ih : Nat → IS) (Jh : Nat → JS) (IM : IS) (JM : JS) (O : Nat → Int64), Rel pr I J Ih Jh IM JM O → ∀ (p0 : Int32) (p1 : Int32) , (∀ h, h < 12 → p0 = nI h → pr h = false) → ∃ (r : Int32), ∃ (nI : IS), fm_K_count_n p0 p1 = some r ∧ fm_M_count p0 p1 IM = some (r, nI) ∧ Rel pr I J Ih Jh nI JM O)
set_option maxHeartbeats 4000000 in
set_option maxRecDepth 100000 in
theorem law_count {Rel : (Nat → Bool) → IS → JS → (Nat → IS) → (Nat → JS) → IS → JS → (Nat → Int64) → Prop} (hok : Ok_count Rel) {p : Program} {l : Launch} {e : Env} {s : State} {m : MethodId} {below : List Frame} {meth : Method} {c : Code} {b L : Nat} {xs : Nat → Int32} {D : va_G} {ca : Nat → ClassId} {Q : State → Prop} (C0 : lwC p l s m meth c b L xs D ca) {ad : Nat → Nat} {adh : Nat → Nat → Nat} {am : Nat → Nat} {pr : Nat → Bool} {I : IS} {J : JS} {Ih : Nat → IS} {Jh : Nat → JS} {IM : IS} {JM : JS} {O : Nat → Int64} {H : Heap} {locs : List Loc} {ls : Array Slot} {cells slots : Nat} {i : Int32} (hR : Rel pr I J Ih Jh IM JM O) (hW : lwS D s ca ad adh am pr I J Ih Jh IM JM O H locs) (hl : lv_has ls 8 (lvL b ad am i)) (hin : vp_in (i + 1) L ∧ vp_in (i + 2) L ∧ vp_in (i + 3) L ∧ vp_in (i + 4) L ∧ vp_in (i + 5) L) (hc : cells + 16 ≤ 601024) (hs : slots + 1900 ≤ 7293034) (kk : lwK Rel p l e s m below meth c b D ca ad am i cells slots Q) : W p l e room_1 s m #[Value.ref b] below meth c H locs cells slots Q (F0 m 1138 ls []) := by
  obtain ⟨cx, hK, hN, hXF, hfl, hX, hbl⟩ := C0
  have hx := cx.1
  have hb := cx.2.1
  have hown := cx.2.2.2.1
  have hts := cx.2.2.2.2
  obtain ⟨hP, hD, hS⟩ := hW
  have hA : ∀ q, s.heap.size ≤ q → (fun q => s.heap.size ≤ q) q := fun q h => h
  have hbA : ¬ (fun q => s.heap.size ≤ q) b := fun h => absurd h (Nat.not_le.mpr hbl)
  obtain ⟨hin1, hin2, hin3, hin4, hin5⟩ := hin
  generalize ha1 : xs (i + 1).toNatClampNeg = a1
  generalize ha2 : xs (i + 2).toNatClampNeg = a2
  generalize ha3 : xs (i + 3).toNatClampNeg = a3
  generalize ha4 : xs (i + 4).toNatClampNeg = a4
  generalize ha5 : xs (i + 5).toNatClampNeg = a5
  by_cases hpz : ∃ h, h < 12 ∧ a1 = nI h ∧ pr h = true
  · obtain ⟨h, hh, hp0, hp⟩ := hpz
    obtain ⟨r, nI, f1, f2, hR2⟩ := hok.1 pr I J Ih Jh IM JM O hR a1 a2 h hh hp0 hp
    refine lv_aload_n hx hb d_law_1138 rfl (lv_at hl 1 rfl) ?_
    refine lv_aload_n hx hb d_law_1139 rfl (lv_at hl 0 rfl) ?_
    refine lv_iload hx hb d_law_1140 (lv_at hl 4 rfl) ?_
    refine lv_iconst (v := 1) hx hb d_law_1142 (by decide) ?_
    refine lv_iadd hx hb d_law_1143 ?_
    refine jd_sld hx hb hX hbl hbA hS hin1 ha1 d_law_1144 ?_
    refine lv_aload_n hx hb d_law_1145 rfl (lv_at hl 0 rfl) ?_
    refine lv_iload hx hb d_law_1146 (lv_at hl 4 rfl) ?_
    refine lv_iconst (v := 2) hx hb d_law_1148 (by decide) ?_
    refine lv_iadd hx hb d_law_1149 ?_
    refine jd_sld hx hb hX hbl hbA hS hin2 ha2 d_law_1150 ?_
    have hPc := jd_Pp (wL_C (O := O) hh hp) hP
    have hDc := jd_Dp (wL_C (O := O) hh hp) hD
    refine jd_fri (w1 := wC ca (adC ad (adh h)) (hsOf pr adh) (mI (Ih h) I) (mJ (Jh h) J)) hPc hDc hS hA rfl (va_runV (As := [.int a1, .int a2]) (rest := []) cx (cm_K_count l D ca (adC ad (adh h)) (hsOf pr adh) (hs_some hh hp0 hp) f1 H.size) (cwV 2 hts (jd_gVL tb_408 tb_409 tb_410 tb_43 tb_411) rfl rfl rfl ⟨rfl, by decide, by decide, rfl⟩ ⟨Nat.le_of_ble_eq_true rfl, Nat.le_of_ble_eq_true rfl⟩) ⟨jd_blind nWc, va_recv hK (jd_Pl hPc) (ci := 3) (q0 := 15) rfl rfl, jd_pre (av := [.ref (adC ad (adh h) 15), .int a1, .int a2]) (jd_Pl hPc) hK (jd_Dl hDc) (fun U h => nWm h hN)⟩ rfl rfl hl.1 rfl (lv_room (Nat.le_of_ble_eq_true rfl)) d_law_1151 ⟨(by show cells + 0 ≤ 601024; omega), (by show slots + 0 ≤ 7293034; omega)⟩) (fun H locs hP1 hD1 hS => ?_)
    have hP := jd_Pp (wL_C' hh hp) hP1
    have hD := jd_Dp (wL_C' hh hp) hD1
    refine lv_aload_n hx hb d_law_1154 rfl (lv_at hl 2 rfl) ?_
    refine lv_aload_n hx hb d_law_1155 rfl (lv_at hl 0 rfl) ?_
    refine lv_iload hx hb d_law_1156 (lv_at hl 4 rfl) ?_
    refine lv_iconst (v := 1) hx hb d_law_1158 (by decide) ?_
    refine lv_iadd hx hb d_law_1159 ?_
    refine jd_sld hx hb hX hbl hbA hS hin1 ha1 d_law_1160 ?_
    refine lv_aload_n hx hb d_law_1161 rfl (lv_at hl 0 rfl) ?_
    refine lv_iload hx hb d_law_1162 (lv_at hl 4 rfl) ?_
    refine lv_iconst (v := 2) hx hb d_law_1164 (by decide) ?_
    refine lv_iadd hx hb d_law_1165 ?_
    refine jd_sld hx hb hX hbl hbA hS hin2 ha2 d_law_1166 ?_
    have hPm := jd_Pp (wL_M (O := O)) hP
    have hDm := jd_Dp (wL_M (O := O)) hD
    refine jd_fri (w1 := wM ca am nI JM) hPm hDm hS hA rfl (va_runV (As := [.int a1, .int a2]) (rest := [.int r]) cx (cm_M_count l D ca am f2 H.size) (cwV 2 hts (jd_gVL tb_819 tb_820 tb_821 tb_47 tb_822) rfl rfl rfl ⟨rfl, by decide, by decide, rfl⟩ ⟨Nat.le_of_ble_eq_true rfl, Nat.le_of_ble_eq_true rfl⟩) ⟨jd_blind nWc, va_recv hK (jd_Pl hPm) (ci := 6) (q0 := 0) rfl rfl, jd_pre (av := [.ref (am 0), .int a1, .int a2]) (jd_Pl hPm) hK (jd_Dl hDm) (fun U h => nWm h hN)⟩ rfl rfl hl.1 rfl (lv_room (Nat.le_of_ble_eq_true rfl)) d_law_1167 ⟨(by show cells + 0 ≤ 601024; omega), (by show slots + 0 ≤ 7293034; omega)⟩) (fun H locs hP1 hD1 hS => ?_)
    have hP := jd_Pp (wL_M (IM := nI) (JM := JM) (O := O)).symm hP1
    have hD := jd_Dp (wL_M (IM := nI) (JM := JM) (O := O)).symm hD1
    refine lv_icmp_eq (tgt := 1175) hx hb d_law_1170 rfl (fun _ => ?_) (fun h => absurd rfl h)
    exact kk adh pr (mI (Ih h) I) (mJ (Jh h) J) (upN Ih h (mI (Ih h) I)) (upN Jh h (mJ (Jh h) J)) nI JM O H locs ls cells slots hR2 ⟨hP, hD, hS⟩ hl (by omega) (by omega)
  · have hp : ∀ h, h < 12 → a1 = nI h → pr h = false := fun h h1 h2 => by cases hq : pr h with | false => rfl | true => exact absurd ⟨h, h1, h2, hq⟩ hpz
    obtain ⟨r, nI, f1, f2, hR2⟩ := hok.2 pr I J Ih Jh IM JM O hR a1 a2 hp
    refine lv_aload_n hx hb d_law_1138 rfl (lv_at hl 1 rfl) ?_
    refine lv_aload_n hx hb d_law_1139 rfl (lv_at hl 0 rfl) ?_
    refine lv_iload hx hb d_law_1140 (lv_at hl 4 rfl) ?_
    refine lv_iconst (v := 1) hx hb d_law_1142 (by decide) ?_
    refine lv_iadd hx hb d_law_1143 ?_
    refine jd_sld hx hb hX hbl hbA hS hin1 ha1 d_law_1144 ?_
    refine lv_aload_n hx hb d_law_1145 rfl (lv_at hl 0 rfl) ?_
    refine lv_iload hx hb d_law_1146 (lv_at hl 4 rfl) ?_
    refine lv_iconst (v := 2) hx hb d_law_1148 (by decide) ?_
    refine lv_iadd hx hb d_law_1149 ?_
    refine jd_sld hx hb hX hbl hbA hS hin2 ha2 d_law_1150 ?_
    have hPc := hP
    have hDc := hD
    unfold wL at hPc hDc
    refine jd_fri (w1 := wD ca ad (hsOf pr adh) I J) hPc hDc hS hA rfl (va_runV (As := [.int a1, .int a2]) (rest := []) cx (cm_K_count_n l D ca ad (hsOf pr adh) (hs_none hp) f1 H.size) (cwV 2 hts (jd_gVL tb_408 tb_409 tb_410 tb_43 tb_411) rfl rfl rfl ⟨rfl, by decide, by decide, rfl⟩ ⟨Nat.le_of_ble_eq_true rfl, Nat.le_of_ble_eq_true rfl⟩) ⟨jd_blind nWc, va_recv hK (jd_Pl hPc) (ci := 3) (q0 := 0) rfl rfl, jd_pre (av := [.ref (ad 15), .int a1, .int a2]) (jd_Pl hPc) hK (jd_Dl hDc) (fun U h => nWm h hN)⟩ rfl rfl hl.1 rfl (lv_room (Nat.le_of_ble_eq_true rfl)) d_law_1151 ⟨(by show cells + 0 ≤ 601024; omega), (by show slots + 0 ≤ 7293034; omega)⟩) (fun H locs hP1 hD1 hS => ?_)
    have hP : va_P D cls_all (wL ca ad adh am pr I J Ih Jh IM JM O) H := hP1
    have hD : va_D _ (wL ca ad adh am pr I J Ih Jh IM JM O) := hD1
    refine lv_aload_n hx hb d_law_1154 rfl (lv_at hl 2 rfl) ?_
    refine lv_aload_n hx hb d_law_1155 rfl (lv_at hl 0 rfl) ?_
    refine lv_iload hx hb d_law_1156 (lv_at hl 4 rfl) ?_
    refine lv_iconst (v := 1) hx hb d_law_1158 (by decide) ?_
    refine lv_iadd hx hb d_law_1159 ?_
    refine jd_sld hx hb hX hbl hbA hS hin1 ha1 d_law_1160 ?_
    refine lv_aload_n hx hb d_law_1161 rfl (lv_at hl 0 rfl) ?_
    refine lv_iload hx hb d_law_1162 (lv_at hl 4 rfl) ?_
    refine lv_iconst (v := 2) hx hb d_law_1164 (by decide) ?_
    refine lv_iadd hx hb d_law_1165 ?_
    refine jd_sld hx hb hX hbl hbA hS hin2 ha2 d_law_1166 ?_
    have hPm := jd_Pp (wL_M (O := O)) hP
    have hDm := jd_Dp (wL_M (O := O)) hD
    refine jd_fri (w1 := wM ca am nI JM) hPm hDm hS hA rfl (va_runV (As := [.int a1, .int a2]) (rest := [.int r]) cx (cm_M_count l D ca am f2 H.size) (cwV 2 hts (jd_gVL tb_819 tb_820 tb_821 tb_47 tb_822) rfl rfl rfl ⟨rfl, by decide, by decide, rfl⟩ ⟨Nat.le_of_ble_eq_true rfl, Nat.le_of_ble_eq_true rfl⟩) ⟨jd_blind nWc, va_recv hK (jd_Pl hPm) (ci := 6) (q0 := 0) rfl rfl, jd_pre (av := [.ref (am 0), .int a1, .int a2]) (jd_Pl hPm) hK (jd_Dl hDm) (fun U h => nWm h hN)⟩ rfl rfl hl.1 rfl (lv_room (Nat.le_of_ble_eq_true rfl)) d_law_1167 ⟨(by show cells + 0 ≤ 601024; omega), (by show slots + 0 ≤ 7293034; omega)⟩) (fun H locs hP1 hD1 hS => ?_)
    have hP := jd_Pp (wL_M (IM := nI) (JM := JM) (O := O)).symm hP1
    have hD := jd_Dp (wL_M (IM := nI) (JM := JM) (O := O)).symm hD1
    refine lv_icmp_eq (tgt := 1175) hx hb d_law_1170 rfl (fun _ => ?_) (fun h => absurd rfl h)
    exact kk adh pr I J Ih Jh nI JM O H locs ls cells slots hR2 ⟨hP, hD, hS⟩ hl (by omega) (by omega)
