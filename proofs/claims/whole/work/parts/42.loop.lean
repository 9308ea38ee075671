/-- what the pure functions must do, case by case -/
def Ok_all (Rel : (Nat → Bool) → IS → JS → (Nat → IS) → (Nat → JS) → IS → JS → (Nat → Int64) → Prop) : Prop := Ok_heat Rel ∧ Ok_better Rel ∧ Ok_whyLast Rel ∧ Ok_why Rel ∧ Ok_withdraw Rel ∧ Ok_scratch Rel ∧ Ok_settled Rel ∧ Ok_direct Rel ∧ Ok_orders Rel ∧ Ok_atRank Rel ∧ Ok_before Rel ∧ Ok_meanRank Rel ∧ Ok_chance Rel ∧ Ok_order Rel ∧ Ok_give Rel ∧ Ok_numberOf Rel ∧ Ok_ask Rel ∧ Ok_tie Rel ∧ Ok_tieEntry Rel ∧ Ok_chains Rel ∧ Ok_follows Rel ∧ Ok_count Rel
set_option maxHeartbeats 4000000 in
set_option maxRecDepth 100000 in
theorem law_loop {Rel : (Nat → Bool) → IS → JS → (Nat → IS) → (Nat → JS) → IS → JS → (Nat → Int64) → Prop} (hok : Ok_all Rel) {p : Program} {l : Launch} {e : Env} {s : State} {m : MethodId} {below : List Frame} {meth : Method} {c : Code} {b L : Nat} {xs : Nat → Int32} {D : va_G} {ca : Nat → ClassId} {Q : State → Prop} (C0 : lwC p l s m meth c b L xs D ca) (hL : L ≤ 3072) {ad : Nat → Nat} {am : Nat → Nat} (hret : ∀ (H : Heap) (locs : List Loc) (ls : Array Slot) (cells slots : Nat), va_S (fun q => s.heap.size ≤ q) s.heap H locs → cells ≤ 601024 → slots ≤ 7293034 → W p l e room_1 s m #[Value.ref b] below meth c H locs cells slots Q (F0 m 1181 ls [])) : ∀ (n k : Nat), L < 6 * (k + n) → 6 * k ≤ L → ∀ (adh : Nat → Nat → Nat) (pr : Nat → Bool) (I : IS) (J : JS) (Ih : Nat → IS) (Jh : Nat → JS) (IM : IS) (JM : JS) (O : Nat → Int64) (H : Heap) (locs : List Loc) (ls : Array Slot) (cells slots : Nat), Rel pr I J Ih Jh IM JM O → lwS D s ca ad adh am pr I J Ih Jh IM JM O H locs → lv_has ls 8 (lvL b ad am (nI (6 * k))) → cells ≤ 100 + 16 * k → slots ≤ 300000 + 1900 * k → W p l e room_1 s m #[Value.ref b] below meth c H locs cells slots Q (F0 m 23 ls []) := by
  intro n
  induction n with
  | zero => intro k h1 h2; omega
  | succ n ih =>
    intro k hn hk adh pr I J Ih Jh IM JM O H locs ls cells slots hR hW hl hcc hss
    have cx := C0.1
    have hx := cx.1
    have hb := cx.2.1
    have hX := C0.2.2.2.2.2.1
    have hbl := C0.2.2.2.2.2.2
    have hS := hW.2.2
    have hbA : ¬ (fun q => s.heap.size ≤ q) b := fun h => absurd h (Nat.not_le.mpr hbl)
    refine lv_iload hx hb d_law_23 (lv_at hl 4 rfl) ?_
    refine lv_aload_n hx hb d_law_25 rfl (lv_at hl 0 rfl) ?_
    refine va_slen hx hb hX hbl hbA hS d_law_26 ?_
    refine lv_bipush (v := 6) hx hb d_law_27 (by decide) ?_
    refine lv_isub hx hb d_law_29 ?_
    refine lv_icmp_gt (tgt := 1181) hx hb d_law_30 rfl (fun _ => hret H locs ls cells slots hS (by omega) (by omega)) (fun hgt => ?_)
    have hle : 6 * k + 6 ≤ L := by
      refine Nat.le_of_not_lt fun hlt => hgt ?_
      rw [Int32.lt_iff_toInt_lt, nI_toInt (by omega)]
      have e1 : (Int32.ofNat L - 6).toInt = (L : Int) - 6 := pk_sub_toInt (a := L) (b := 6) (by omega) (by omega)
      rw [e1]
      omega
    refine lv_aload_n hx hb d_law_33 rfl (lv_at hl 0 rfl) ?_
    refine lv_iload hx hb d_law_34 (lv_at hl 4 rfl) ?_
    refine va_sld hx hb hX hbl hbA hS (vp_in_nI (by omega) (by omega)) d_law_36 ?_
    refine lv_bipush (v := 31) hx hb d_law_37 (by decide) ?_
    refine lv_iand hx hb d_law_39 ?_
    obtain ⟨j, hj, ej⟩ := pk_andE (xs (nI (6 * k)).toNatClampNeg) (m := 31) 5 (by decide)
    rw [ej]
    have hin : vp_in (nI (6 * k) + 1) L ∧ vp_in (nI (6 * k) + 2) L ∧ vp_in (nI (6 * k) + 3) L ∧ vp_in (nI (6 * k) + 4) L ∧ vp_in (nI (6 * k) + 5) L := by
      refine ⟨?_, ?_, ?_, ?_, ?_⟩
      · rw [show nI (6 * k) + 1 = nI (6 * k + 1) from nI_add (6 * k) 1]; exact vp_in_nI (by omega) (by omega)
      · rw [show nI (6 * k) + 2 = nI (6 * k + 2) from nI_add (6 * k) 2]; exact vp_in_nI (by omega) (by omega)
      · rw [show nI (6 * k) + 3 = nI (6 * k + 3) from nI_add (6 * k) 3]; exact vp_in_nI (by omega) (by omega)
      · rw [show nI (6 * k) + 4 = nI (6 * k + 4) from nI_add (6 * k) 4]; exact vp_in_nI (by omega) (by omega)
      · rw [show nI (6 * k) + 5 = nI (6 * k + 5) from nI_add (6 * k) 5]; exact vp_in_nI (by omega) (by omega)
    have kk : lwK Rel p l e s m below meth c b D ca ad am (nI (6 * k)) cells slots Q := by
      intro adh pr I J Ih Jh IM JM O H locs ls cells2 slots2 hR hW hl hc2 hs2
      refine lv_iinc hx hb d_law_1175 hl (k := 4) rfl (v := nI (6 * (k + 1))) (by rw [show 6 * (k + 1) = 6 * k + 6 by omega, ← nI_add (6 * k) 6]; rfl) (by decide) (lv' := [(4, .int (nI (6 * (k + 1)))), (0, .ref b), (1, .ref (ad 15)), (2, .ref (am 0)), (3, .ref (ad 26))]) rfl (fun ls hl => ?_)
      refine lv_goto (tgt := 23) hx hb d_law_1178 rfl ?_
      exact ih (k + 1) (by omega) (by omega) adh pr I J Ih Jh IM JM O H locs ls cells2 slots2 hR hW (lv_sub hl [1, 2, 3, 4, 0] rfl) (by omega) (by omega)
    rcases (show j = 0 ∨ j = 1 ∨ j = 2 ∨ j = 3 ∨ j = 4 ∨ j = 5 ∨ j = 6 ∨ j = 7 ∨ j = 8 ∨ j = 9 ∨ j = 10 ∨ j = 11 ∨ j = 12 ∨ j = 13 ∨ j = 14 ∨ j = 15 ∨ j = 16 ∨ j = 17 ∨ j = 18 ∨ j = 19 ∨ j = 20 ∨ j = 21 ∨ j = 22 ∨ j = 23 ∨ j = 24 ∨ j = 25 ∨ j = 26 ∨ j = 27 ∨ j = 28 ∨ j = 29 ∨ j = 30 ∨ j = 31 by omega) with rfl | rfl | rfl | rfl | rfl | rfl | rfl | rfl | rfl | rfl | rfl | rfl | rfl | rfl | rfl | rfl | rfl | rfl | rfl | rfl | rfl | rfl | rfl | rfl | rfl | rfl | rfl | rfl | rfl | rfl | rfl | rfl
    · refine lv_tableIn (tgt := 144) hx hb d_law_40 (by decide) (by decide) rfl rfl ?_
      exact law_heat hok.1 C0 hR hW hl hin (by omega) (by omega) kk
    · refine lv_tableIn (tgt := 192) hx hb d_law_40 (by decide) (by decide) rfl rfl ?_
      exact law_better hok.2.1 C0 hR hW hl hin (by omega) (by omega) kk
    · refine lv_tableIn (tgt := 241) hx hb d_law_40 (by decide) (by decide) rfl rfl ?_
      exact law_whyLast hok.2.2.1 C0 hR hW hl hin (by omega) (by omega) kk
    · refine lv_tableIn (tgt := 254) hx hb d_law_40 (by decide) (by decide) rfl rfl ?_
      exact law_why hok.2.2.2.1 C0 hR hW hl hin (by omega) (by omega) kk
    · refine lv_tableIn (tgt := 279) hx hb d_law_40 (by decide) (by decide) rfl rfl ?_
      exact law_withdraw hok.2.2.2.2.1 C0 hR hW hl hin (by omega) (by omega) kk
    · refine lv_tableIn (tgt := 316) hx hb d_law_40 (by decide) (by decide) rfl rfl ?_
      exact law_scratch hok.2.2.2.2.2.1 C0 hR hW hl hin (by omega) (by omega) kk
    · refine lv_tableIn (tgt := 353) hx hb d_law_40 (by decide) (by decide) rfl rfl ?_
      exact law_settled hok.2.2.2.2.2.2.1 C0 hR hW hl hin (by omega) (by omega) kk
    · refine lv_tableIn (tgt := 402) hx hb d_law_40 (by decide) (by decide) rfl rfl ?_
      exact law_direct hok.2.2.2.2.2.2.2.1 C0 hR hW hl hin (by omega) (by omega) kk
    · refine lv_tableIn (tgt := 451) hx hb d_law_40 (by decide) (by decide) rfl rfl ?_
      exact law_orders hok.2.2.2.2.2.2.2.2.1 C0 hR hW hl hin (by omega) (by omega) kk
    · refine lv_tableIn (tgt := 477) hx hb d_law_40 (by decide) (by decide) rfl rfl ?_
      exact law_atRank hok.2.2.2.2.2.2.2.2.2.1 C0 hR hW hl hin (by omega) (by omega) kk
    · refine lv_tableIn (tgt := 527) hx hb d_law_40 (by decide) (by decide) rfl rfl ?_
      exact law_before hok.2.2.2.2.2.2.2.2.2.2.1 C0 hR hW hl hin (by omega) (by omega) kk
    · refine lv_tableIn (tgt := 577) hx hb d_law_40 (by decide) (by decide) rfl rfl ?_
      exact law_meanRank hok.2.2.2.2.2.2.2.2.2.2.2.1 C0 hR hW hl hin (by omega) (by omega) kk
    · refine lv_tableIn (tgt := 643) hx hb d_law_40 (by decide) (by decide) rfl rfl ?_
      exact law_chance hok.2.2.2.2.2.2.2.2.2.2.2.2.1 C0 hR hW hl hin (by omega) (by omega) kk
    · refine lv_tableIn (tgt := 802) hx hb d_law_40 (by decide) (by decide) rfl rfl ?_
      exact law_order hok.2.2.2.2.2.2.2.2.2.2.2.2.2.1 C0 hR hW hl hin (by omega) (by omega) kk
    · refine lv_tableIn (tgt := 883) hx hb d_law_40 (by decide) (by decide) rfl rfl ?_
      exact law_give hok.2.2.2.2.2.2.2.2.2.2.2.2.2.2.1 C0 hR hW hl hin (by omega) (by omega) kk
    · refine lv_tableIn (tgt := 951) hx hb d_law_40 (by decide) (by decide) rfl rfl ?_
      exact law_numberOf hok.2.2.2.2.2.2.2.2.2.2.2.2.2.2.2.1 C0 hR hW hl hin (by omega) (by omega) kk
    · refine lv_tableIn (tgt := 977) hx hb d_law_40 (by decide) (by decide) rfl rfl ?_
      exact law_ask hok.2.2.2.2.2.2.2.2.2.2.2.2.2.2.2.2.1 C0 hR hW hl hin (by omega) (by omega) kk
    · refine lv_tableIn (tgt := 1014) hx hb d_law_40 (by decide) (by decide) rfl rfl ?_
      exact law_tie hok.2.2.2.2.2.2.2.2.2.2.2.2.2.2.2.2.2.1 C0 hR hW hl hin (by omega) (by omega) kk
    · refine lv_tableIn (tgt := 1039) hx hb d_law_40 (by decide) (by decide) rfl rfl ?_
      exact law_tieEntry hok.2.2.2.2.2.2.2.2.2.2.2.2.2.2.2.2.2.2.1 C0 hR hW hl hin (by omega) (by omega) kk
    · refine lv_tableIn (tgt := 1076) hx hb d_law_40 (by decide) (by decide) rfl rfl ?_
      exact law_chains hok.2.2.2.2.2.2.2.2.2.2.2.2.2.2.2.2.2.2.2.1 C0 hR hW hl hin (by omega) (by omega) kk
    · refine lv_tableIn (tgt := 1101) hx hb d_law_40 (by decide) (by decide) rfl rfl ?_
      exact law_follows hok.2.2.2.2.2.2.2.2.2.2.2.2.2.2.2.2.2.2.2.2.1 C0 hR hW hl hin (by omega) (by omega) kk
    · refine lv_tableIn (tgt := 1138) hx hb d_law_40 (by decide) (by decide) rfl rfl ?_
      exact law_count hok.2.2.2.2.2.2.2.2.2.2.2.2.2.2.2.2.2.2.2.2.2 C0 hR hW hl hin (by omega) (by omega) kk
    · refine lv_tableOut (tgt := 1175) hx hb d_law_40 (by decide) rfl ?_
      exact kk adh pr I J Ih Jh IM JM O H locs ls cells slots hR hW hl (by omega) (by omega)
    · refine lv_tableOut (tgt := 1175) hx hb d_law_40 (by decide) rfl ?_
      exact kk adh pr I J Ih Jh IM JM O H locs ls cells slots hR hW hl (by omega) (by omega)
    · refine lv_tableOut (tgt := 1175) hx hb d_law_40 (by decide) rfl ?_
      exact kk adh pr I J Ih Jh IM JM O H locs ls cells slots hR hW hl (by omega) (by omega)
    · refine lv_tableOut (tgt := 1175) hx hb d_law_40 (by decide) rfl ?_
      exact kk adh pr I J Ih Jh IM JM O H locs ls cells slots hR hW hl (by omega) (by omega)
    · refine lv_tableOut (tgt := 1175) hx hb d_law_40 (by decide) rfl ?_
      exact kk adh pr I J Ih Jh IM JM O H locs ls cells slots hR hW hl (by omega) (by omega)
    · refine lv_tableOut (tgt := 1175) hx hb d_law_40 (by decide) rfl ?_
      exact kk adh pr I J Ih Jh IM JM O H locs ls cells slots hR hW hl (by omega) (by omega)
    · refine lv_tableOut (tgt := 1175) hx hb d_law_40 (by decide) rfl ?_
      exact kk adh pr I J Ih Jh IM JM O H locs ls cells slots hR hW hl (by omega) (by omega)
    · refine lv_tableOut (tgt := 1175) hx hb d_law_40 (by decide) rfl ?_
      exact kk adh pr I J Ih Jh IM JM O H locs ls cells slots hR hW hl (by omega) (by omega)
    · refine lv_tableOut (tgt := 1175) hx hb d_law_40 (by decide) rfl ?_
      exact kk adh pr I J Ih Jh IM JM O H locs ls cells slots hR hW hl (by omega) (by omega)
    · refine lv_tableOut (tgt := 1175) hx hb d_law_40 (by decide) rfl ?_
      exact kk adh pr I J Ih Jh IM JM O H locs ls cells slots hR hW hl (by omega) (by omega)
