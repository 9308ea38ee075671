/-! A heat of the class and what the desk knows of it -/
def dT (W n : Nat) (u l : Nat → Nat) (bk : Nat → Bool) : Nat → Nat := q_T0 (q_mc W (q_Ab W n u l bk))
def dF (W n : Nat) (u l : Nat → Nat) (bk : Nat → Bool) : Nat → Nat := q_F0 (q_mc W (q_Ab W n u l bk)) W
theorem d_Ct {W n : Nat} {u l : Nat → Nat} {bk : Nat → Bool} (hW : W < 2 ^ 16) : Ct W (q_Ab W n u l bk) (dT W n u l bk) (dF W n u l bk) := Ct_0 hW _
theorem d_pos {W n : Nat} {u l : Nat → Nat} {bk : Nat → Bool} (hW : W < 2 ^ 16) (h : q_ac W n u l bk) : 0 < dF W n u l bk 0 := by
  obtain ⟨rk, hr⟩ := h
  exact q_fr_pos q_mc_sub hW (fun s hs hne => q_mc_ex (rk := rk) hW (fun a x _ hx => by
    rw [q_Ab_bit hW] at hx
    exact ⟨(q_B_W hx).1, q_B_rk hr hx⟩) s hs hne) (q_pop W - q_pop 0) 0 (q_sub_0 W) rfl
theorem d_lt {W n : Nat} {u l : Nat → Nat} {bk : Nat → Bool} (hW : W < 2 ^ 16) : dF W n u l bk 0 < 2 ^ 50 := (d_Ct hW).2.2.1 0 (q_sub_0 W)
theorem d_BW {W n : Nat} {u l : Nat → Nat} {bk : Nat → Bool} : ∀ a b, q_Bm (q_B W n u l bk) a b = true → W.testBit a = true ∧ W.testBit b = true := fun _ _ h => q_B_W h
def HK (I : IS) (J : JS) (W n : Nat) (u l : Nat → Nat) (bk : Nat → Bool) : Prop :=
  HS I W n u l bk ∧ q_ac W n u l bk ∧ W ≠ 0 ∧ (I 7 0 ≠ 0 → Tl J W (q_Ab W n u l bk) (dT W n u l bk) (dF W n u l bk)) ∧ (J 0 0 = 0 ∨ J 0 0 = lN (dF W n u l bk 0)) ∧ (I 8 0 ≠ 0 → RK I W (q_B W n u l bk))
def LD (I : IS) (J : JS) (W n : Nat) (u l : Nat → Nat) (bk : Nat → Bool) : Prop := Ld I J W (q_B W n u l bk) (dT W n u l bk) (dF W n u l bk)
def LK (I : IS) (J : JS) (h W n : Nat) (u l : Nat → Nat) (bk : Nat → Bool) : Prop := I 17 0 = nI h → LD I J W n u l bk ∧ J 0 0 = lN (dF W n u l bk 0)
def CS (I : IS) (J : JS) (h W n : Nat) (u l : Nat → Nat) (bk : Nat → Bool) : Prop := HK I J W n u l bk ∧ LK I J h W n u l bk ∧ I 21 0 = 0 ∧ I 22 0 = 0
def CF (h : Nat) (I : IS) (J : JS) (I' : IS) (J' : JS) : Prop := I' 16 = I 16 ∧ I' 18 = I 18 ∧ I' 19 = I 19 ∧ I' 21 0 = 0 ∧ I' 22 0 = 0 ∧ ((I' 17 0 = nI h ∨ I' 17 0 = -1) ∨ (I' 17 = I 17 ∧ I' 21 = I 21 ∧ I' 22 = I 22 ∧ J' 3 = J 3 ∧ J' 4 = J 4))
theorem CF_refl {h : Nat} {I : IS} {J : JS} (h1 : I 21 0 = 0) (h2 : I 22 0 = 0) : CF h I J I J := ⟨rfl, rfl, rfl, h1, h2, .inr ⟨rfl, rfl, rfl, rfl, rfl⟩⟩
theorem CF_tr {h : Nat} {I I1 I2 : IS} {J J1 J2 : JS} (a : CF h I J I1 J1) (b : CF h I1 J1 I2 J2) : CF h I J I2 J2 := by
  obtain ⟨a1, a2, a3, a4, a5, a6⟩ := a
  obtain ⟨b1, b2, b3, b4, b5, b6⟩ := b
  refine ⟨by rw [b1, a1], by rw [b2, a2], by rw [b3, a3], b4, b5, ?_⟩
  rcases b6 with q | ⟨c1, c2, c3, c4, c5⟩
  · exact .inl q
  · rw [c1, c2, c3, c4, c5]; exact a6
theorem HK_Hx {I : IS} {J : JS} {W n : Nat} {u l : Nat → Nat} {bk : Nat → Bool} (h : HK I J W n u l bk) : Hx I W (q_Ab W n u l bk) := ⟨h.1.1.1, h.1.1.2.1, fun a ha => ⟨(h.1.2 a ha).2, q_Ab_lt h.1.1.2.1 a⟩⟩
theorem HK_3 {I : IS} {J : JS} {W n : Nat} {u l : Nat → Nat} {bk : Nat → Bool} (h : HK I J W n u l bk) : ∀ a, a < 16 → I 3 a = nI (q_B W n u l bk a) ∧ q_B W n u l bk a < 2 ^ 16 := fun a ha => ⟨(h.1.2 a ha).1, q_B_lt h.1.1.2.1 a⟩
theorem HK_fr {I I' : IS} {J J' : JS} {W n : Nat} {u l : Nat → Nat} {bk : Nat → Bool} (h : HK I J W n u l bk) (hI : ∀ k, k < 16 → I' k = I k) (h0 : J' 0 0 = J 0 0 ∨ J' 0 0 = lN (dF W n u l bk 0)) (h1 : J' 1 = J 1) (h2 : J' 2 = J 2) : HK I' J' W n u l bk := by
  obtain ⟨a1, a2, a3, a4, a5, a6⟩ := h
  have e3 := hI 3 (by decide)
  have e4 := hI 4 (by decide)
  refine ⟨⟨HR_frame a1.1 (hI 0 (by decide)) (hI 1 (by decide)) (hI 2 (by decide)) (hI 5 (by decide)) (hI 6 (by decide)), fun a ha => by rw [e3, e4]; exact a1.2 a ha⟩, a2, a3, fun h7 => ?_, ?_, fun h8 => ?_⟩
  · rw [hI 7 (by decide)] at h7
    obtain ⟨t1, t2, t3⟩ := a4 h7
    refine ⟨h0.elim (fun q => by rw [q]; exact t1) id, fun i hi => by rw [h1]; exact t2 i hi, fun i hi => by rw [h2]; exact t3 i hi⟩
  · exact h0.elim (fun q => by rw [q]; exact a5) .inr
  · rw [hI 8 (by decide)] at h8
    obtain ⟨m, f, p, C, r1, r2, r3, r4, r5, r6, r7, r8, r9⟩ := a6 h8
    exact ⟨m, f, p, C, r1, r2, by rw [hI 9 (by decide)]; exact r3, r4, fun a ha => by rw [hI 10 (by decide)]; exact r5 a ha, r6, by rw [hI 11 (by decide)]; exact r7, r8, r9⟩
theorem Ld_fr {I I' : IS} {J J' : JS} {W : Nat} {B T F : Nat → Nat} (h : Ld I J W B T F) (h1 : I' 21 = I 21) (h2 : I' 22 = I 22) (h3 : J' 3 = J 3) (h4 : J' 4 = J 4) : Ld I' J' W B T F := by
  obtain ⟨a1, a2, a3⟩ := h
  refine ⟨fun hf hh => ?_, fun t ht => by rw [h3]; exact a2 t ht, fun t ht hT => by rw [h4]; exact a3 t ht hT⟩
  obtain ⟨lo, hi, b1, b2, b3⟩ := a1 hf hh
  exact ⟨lo, hi, by rw [h1]; exact b1, by rw [h2]; exact b2, b3⟩
theorem load_d {I : IS} {J : JS} {h W n : Nat} {u l : Nat → Nat} {bk : Nat → Bool} (hc : CS I J h W n u l bk) : ∃ I' J', fm_K_load (nI h) I J = some (I', J') ∧ CS I' J' h W n u l bk ∧ CF h I J I' J' ∧ LD I' J' W n u l bk ∧ J' 0 0 = lN (dF W n u l bk 0) ∧ (∀ k, k < 16 → I' k = I k) ∧ (J' 1 = J 1 ∧ J' 2 = J 2) := by
  obtain ⟨hk, hl, h21, h22⟩ := hc
  unfold fm_K_load
  by_cases e : I 17 0 = nI h
  · rw [if_pos e]
    obtain ⟨q1, q2⟩ := hl e
    exact ⟨I, J, rfl, ⟨hk, hl, h21, h22⟩, CF_refl h21 h22, q1, q2, fun _ _ => rfl, rfl, rfl⟩
  · rw [if_neg e]
    have hW := hk.1.1.2.1
    obtain ⟨I1, J1, a1, a2, a3, a4, a5, a6⟩ := load_eq (J := J) hk.1.1.1 hW (fun j hj => (HK_3 hk j hj).2) (fun j hj => (HK_3 hk j hj).1) h21 h22 (fun x a hx => (q_B_W hx).1) (fun a x => q_Ab_bit hW a x) (d_Ct hW)
    have e5 : I1 5 0 = nI W := by rw [a5 5 (by decide) (by decide)]; exact hk.1.1.1
    rw [a1, c_ob2]
    unfold fm_L_total
    rw [e5, c_in (show W < 65536 from hW) (by decide), c_gr, c_cl (by omega), a2.2.1 W (fun _ q => q), q_total (d_Ct hW) hk.2.2.1, c_ob1, bnd_eq, bnd_eq]
    have hI : ∀ k, k < 16 → sV I1 17 (nI h) k = I k := fun k hk => by rw [sV_ne (by omega), a5 k (by omega) (by omega)]
    have hL : LD (sV I1 17 (nI h)) (sL J1 0 (lN (dF W n u l bk 0))) W n u l bk := Ld_fr a2 (sV_ne (by decide)) (sV_ne (by decide)) (sL_ne (by decide)) (sL_ne (by decide))
    have h0 : sL J1 0 (lN (dF W n u l bk 0)) 0 0 = lN (dF W n u l bk 0) := sL_same
    have hk' : HK (sV I1 17 (nI h)) (sL J1 0 (lN (dF W n u l bk 0))) W n u l bk := HK_fr hk hI (.inr h0) (by rw [sL_ne (by decide), a6 1 (by decide) (by decide)]) (by rw [sL_ne (by decide), a6 2 (by decide) (by decide)])
    have b1 : sV I1 17 (nI h) 21 0 = 0 := by rw [sV_ne (by decide)]; exact a3
    have b2 : sV I1 17 (nI h) 22 0 = 0 := by rw [sV_ne (by decide)]; exact a4
    refine ⟨_, _, rfl, ⟨hk', fun _ => ⟨hL, h0⟩, b1, b2⟩, ⟨?_, ?_, ?_, b1, b2, .inl (.inl sV_same)⟩, hL, h0, hI, ?_, ?_⟩
    · rw [sV_ne (by decide), a5 16 (by decide) (by decide)]
    · rw [sV_ne (by decide), a5 18 (by decide) (by decide)]
    · rw [sV_ne (by decide), a5 19 (by decide) (by decide)]
    · rw [sL_ne (by decide), a6 1 (by decide) (by decide)]
    · rw [sL_ne (by decide), a6 2 (by decide) (by decide)]
theorem total_d {I : IS} {J : JS} {h W n : Nat} {u l : Nat → Nat} {bk : Nat → Bool} (hc : CS I J h W n u l bk) : ∃ I' J', fm_K_total (nI h) I J = some (lN (dF W n u l bk 0), I', J') ∧ CS I' J' h W n u l bk ∧ CF h I J I' J' := by
  have hW := hc.1.1.1.2.1
  have hlt := d_lt (n := n) (u := u) (l := l) (bk := bk) hW
  have hpos := d_pos hW hc.1.2.1
  unfold fm_K_total
  rcases hc.1.2.2.2.2.1 with h0 | h0
  · rw [if_pos (by rw [h0]; decide)]
    obtain ⟨I', J', a1, a2, a3, _, a5, _, _⟩ := load_d hc
    rw [a1, c_ob2, a5]
    exact ⟨I', J', rfl, a2, a3⟩
  · rw [if_neg (by rw [h0, l_cmp0 (by omega)]; omega), h0]
    exact ⟨I, J, rfl, hc, CF_refl hc.2.2.1 hc.2.2.2⟩
theorem tally_d {I : IS} {J : JS} {h W n : Nat} {u l : Nat → Nat} {bk : Nat → Bool} (hc : CS I J h W n u l bk) : ∃ I' J', fm_K_tally (nI h) I J = some (I', J') ∧ CS I' J' h W n u l bk ∧ CF h I J I' J' ∧ Tl J' W (q_Ab W n u l bk) (dT W n u l bk) (dF W n u l bk) ∧ (∀ k, k < 7 → I' k = I k) := by
  have hW := hc.1.1.1.2.1
  unfold fm_K_tally
  by_cases e : I 7 0 = 0
  · rw [if_pos e]
    obtain ⟨I1, J1, a1, ⟨b1, b2, b3, b4⟩, a3, a4, a5, a6, a7, a8⟩ := load_d hc
    obtain ⟨J2, f1, f2, f3⟩ := fill_eq (I := I1) (J := J1) (W := W) (B := q_B W n u l bk) (A := q_Ab W n u l bk) (T := dT W n u l bk) (F := dF W n u l bk) ⟨b1.1.1.1, hW, a4.1, fun x a hx => (q_B_W hx).1, fun a x => q_Ab_bit hW a x⟩ (d_Ct hW) a5 a4.2.1 a4.2.2
    rw [a1, c_ob2, f1, c_ob2]
    have hL : LD (sV I1 7 1) J2 W n u l bk := Ld_fr a4 (sV_ne (by decide)) (sV_ne (by decide)) (f3 3 (by decide) (by decide)) (f3 4 (by decide) (by decide))
    have c1 : sV I1 7 1 21 0 = 0 := by rw [sV_ne (by decide)]; exact b3
    have c2 : sV I1 7 1 22 0 = 0 := by rw [sV_ne (by decide)]; exact b4
    obtain ⟨d1, d2, d3, d4, d5, d6⟩ := b1
    have e8 : sV I1 7 1 8 = I1 8 := sV_ne (by decide)
    have hk' : HK (sV I1 7 1) J2 W n u l bk := by
      refine ⟨⟨HR_frame d1.1 (sV_ne (by decide)) (sV_ne (by decide)) (sV_ne (by decide)) (sV_ne (by decide)) (sV_ne (by decide)), fun a ha => by rw [sV_ne (by decide), sV_ne (by decide)]; exact d1.2 a ha⟩, d2, d3, fun _ => f2, .inr f2.1, fun h8 => ?_⟩
      rw [e8] at h8
      obtain ⟨m, f, p, C, r1, r2, r3, r4, r5, r6, r7, r8, r9⟩ := d6 h8
      exact ⟨m, f, p, C, r1, r2, by rw [sV_ne (by decide)]; exact r3, r4, fun a ha => by rw [sV_ne (by decide)]; exact r5 a ha, r6, by rw [sV_ne (by decide)]; exact r7, r8, r9⟩
    refine ⟨_, _, rfl, ⟨hk', fun _ => ⟨hL, f2.1⟩, c1, c2⟩, CF_tr a3 ⟨sV_ne (by decide), sV_ne (by decide), sV_ne (by decide), c1, c2, .inr ⟨sV_ne (by decide), sV_ne (by decide), sV_ne (by decide), f3 3 (by decide) (by decide), f3 4 (by decide) (by decide)⟩⟩, f2, fun k hk => by rw [sV_ne (by omega), a6 k (by omega)]⟩
  · rw [if_neg e]
    exact ⟨I, J, rfl, hc, CF_refl hc.2.2.1 hc.2.2.2, hc.1.2.2.2.1 e, fun _ _ => rfl⟩
theorem d_tr {W n : Nat} {u l : Nat → Nat} {bk : Nat → Bool} (hW : W < 2 ^ 16) : ∀ a b c, a < 16 → b < 16 → c < 16 → q_Bm (q_B W n u l bk) a b = true → q_Bm (q_B W n u l bk) b c = true → q_Bm (q_B W n u l bk) a c = true := fun _ _ _ _ _ _ h1 h2 => q_B_tr hW h1 h2
theorem rows_d {I : IS} {J : JS} {h W n : Nat} {u l : Nat → Nat} {bk : Nat → Bool} (hc : CS I J h W n u l bk) : ∃ I', fm_K_rowsOf I = some I' ∧ CS I' J h W n u l bk ∧ CF h I J I' J ∧ RK I' W (q_B W n u l bk) := by
  have hW := hc.1.1.1.2.1
  unfold fm_K_rowsOf
  by_cases e : I 8 0 = 0
  · rw [if_pos e]
    have hx := HK_Hx hc.1
    obtain ⟨I1, a1, a2, a3, a4⟩ := arrange_eq (Bm := q_B W n u l bk) (Am := q_Ab W n u l bk) hx.1 hW (HK_3 hc.1) hx.2.2 (fun a b => q_Ab_bit hW a b) d_BW (d_tr hW) (fun a _ => q_B_ir hc.1.2.1 a)
    rw [a1, c_ob1]
    obtain ⟨⟨d1, d2, d3, d4, d5, d6⟩, l1, l2, l3⟩ := hc
    have e3 := a4 3 (by omega)
    have e4 := a4 4 (by omega)
    have e17 := a4 17 (by omega)
    have e21 := a4 21 (by omega)
    have e22 := a4 22 (by omega)
    have hk' : HK I1 J W n u l bk := ⟨⟨HR_frame d1.1 (a4 0 (by omega)) (a4 1 (by omega)) (a4 2 (by omega)) (a4 5 (by omega)) (a4 6 (by omega)), fun a ha => by rw [e3, e4]; exact d1.2 a ha⟩, d2, d3, fun h7 => d4 (by rw [← a4 7 (by omega)]; exact h7), d5, fun _ => a3⟩
    refine ⟨I1, rfl, ⟨hk', fun q => ?_, by rw [e21]; exact l2, by rw [e22]; exact l3⟩, ⟨a4 16 (by omega), a4 18 (by omega), a4 19 (by omega), by rw [e21]; exact l2, by rw [e22]; exact l3, .inr ⟨e17, e21, e22, rfl, rfl⟩⟩, a3⟩
    rw [e17] at q
    obtain ⟨q1, q2⟩ := l1 q
    exact ⟨Ld_fr q1 e21 e22 rfl rfl, q2⟩
  · rw [if_neg e]
    exact ⟨I, rfl, hc, CF_refl hc.2.2.1 hc.2.2.2, hc.1.2.2.2.2.2 e⟩
/-- the reference's side of the same heat -/
def MK (IM : IS) (JM : JS) (h W n : Nat) (u l : Nat → Nat) (bk : Nat → Bool) : Prop := IM 7 0 = nI h → MS IM W n u l bk ∧ (IM 11 0 ≠ 0 → Mc JM W (dT W n u l bk) (dF W n u l bk))
def MP (IM : IS) (JM : JS) (h W n : Nat) (u l : Nat → Nat) (bk : Nat → Bool) : Prop := MR IM h W n u l bk ∧ MK IM JM h W n u l bk
def MFr (h : Nat) (IM : IS) (JM : JS) (IM' : IS) (JM' : JS) : Prop := (∀ k, 1 ≤ k → k ≤ 6 → IM' k = IM k) ∧ IM' 12 = IM 12 ∧ IM' 13 = IM 13 ∧ IM' 15 = IM 15 ∧ ((IM' 7 0 = nI h ∨ IM' 7 0 = -1) ∨ (IM' 7 = IM 7 ∧ IM' 8 = IM 8 ∧ IM' 9 = IM 9 ∧ IM' 10 = IM 10 ∧ IM' 11 = IM 11 ∧ JM' 0 = JM 0 ∧ JM' 1 = JM 1))
theorem MFr_tr {h : Nat} {I I1 I2 : IS} {J J1 J2 : JS} (a : MFr h I J I1 J1) (b : MFr h I1 J1 I2 J2) : MFr h I J I2 J2 := by
  obtain ⟨a1, a2, a3, a4, a5⟩ := a
  obtain ⟨b1, b2, b3, b4, b5⟩ := b
  refine ⟨fun k k1 k2 => by rw [b1 k k1 k2, a1 k k1 k2], by rw [b2, a2], by rw [b3, a3], by rw [b4, a4], ?_⟩
  rcases b5 with q | ⟨c1, c2, c3, c4, c5, c6, c7⟩
  · exact .inl q
  · rw [c1, c2, c3, c4, c5, c6, c7]; exact a5
theorem MFr_0 {h : Nat} {IM IM' : IS} {JM JM' : JS} (h1 : ∀ k, k ≤ 15 → k ≠ 0 → k ≠ 14 → IM' k = IM k) (h2 : JM' 0 = JM 0) (h3 : JM' 1 = JM 1) : MFr h IM JM IM' JM' := ⟨fun k k1 k2 => h1 k (by omega) (by omega) (by omega), h1 12 (by decide) (by decide) (by decide), h1 13 (by decide) (by decide) (by decide), h1 15 (by decide) (by decide) (by decide), .inr ⟨h1 7 (by decide) (by decide) (by decide), h1 8 (by decide) (by decide) (by decide), h1 9 (by decide) (by decide) (by decide), h1 10 (by decide) (by decide) (by decide), h1 11 (by decide) (by decide) (by decide), h2, h3⟩⟩
theorem MP_0 {IM IM' : IS} {JM JM' : JS} {h W n : Nat} {u l : Nat → Nat} {bk : Nat → Bool} (hp : MP IM JM h W n u l bk) (h1 : ∀ k, k ≤ 11 → k ≠ 0 → IM' k = IM k) (h2 : JM' 0 = JM 0) (h3 : JM' 1 = JM 1) : MP IM' JM' h W n u l bk := by
  refine ⟨MR_frame hp.1 (h1 1 (by decide) (by decide)) (h1 2 (by decide) (by decide)) (h1 3 (by decide) (by decide)) (h1 4 (by decide) (by decide)) (h1 5 (by decide) (by decide)) (h1 6 (by decide) (by decide)), fun q => ?_⟩
  rw [h1 7 (by decide) (by decide)] at q
  obtain ⟨a1, a2⟩ := hp.2 q
  refine ⟨⟨by rw [h1 8 (by decide) (by decide)]; exact a1.1, fun a ha => by rw [h1 9 (by decide) (by decide), h1 10 (by decide) (by decide)]; exact a1.2 a ha⟩, fun q2 t ht => ?_⟩
  rw [h1 11 (by decide) (by decide)] at q2
  rw [h2, h3]; exact a2 q2 t ht
theorem MS_3 {I : IS} {W n : Nat} {u l : Nat → Nat} {bk : Nat → Bool} (hW : W < 2 ^ 16) (h : MS I W n u l bk) : ∀ a, a < 16 → I 9 a = nI (q_B W n u l bk a) ∧ q_B W n u l bk a < 2 ^ 16 := fun a ha => ⟨(h.2 a ha).1, q_B_lt hW a⟩
theorem MS_Mx {I : IS} {W n : Nat} {u l : Nat → Nat} {bk : Nat → Bool} (hW : W < 2 ^ 16) (h : MS I W n u l bk) : Mx I W (q_Ab W n u l bk) := ⟨h.1, hW, fun a ha => ⟨(h.2 a ha).2, q_Ab_lt hW a⟩⟩
theorem mset_d {IM : IS} {JM : JS} {h W n : Nat} {u l : Nat → Nat} {bk : Nat → Bool} (hh : h < 12) (hp : MP IM JM h W n u l bk) : ∃ I', fm_M_settle (nI h) IM = some I' ∧ MS I' W n u l bk ∧ MP I' JM h W n u l bk ∧ MFr h IM JM I' JM ∧ (∀ k, k ≠ 7 → k ≠ 8 → k ≠ 9 → k ≠ 10 → k ≠ 11 → I' k = IM k) := by
  obtain ⟨I', a1, a2, a3, a4, a5⟩ := msettle_eq hp.1 hh (fun q => (hp.2 q).1)
  have f : ∀ k, 1 ≤ k → k ≤ 6 → I' k = IM k := fun k k1 k2 => a4 k (by omega) (by omega) (by omega) (by omega) (by omega)
  refine ⟨I', a1, a2, ⟨MR_frame hp.1 (f 1 (by decide) (by decide)) (f 2 (by decide) (by decide)) (f 3 (by decide) (by decide)) (f 4 (by decide) (by decide)) (f 5 (by decide) (by decide)) (f 6 (by decide) (by decide)), fun _ => ⟨a2, fun q => ?_⟩⟩, ⟨f, a4 12 (by decide) (by decide) (by decide) (by decide) (by decide), a4 13 (by decide) (by decide) (by decide) (by decide) (by decide), a4 15 (by decide) (by decide) (by decide) (by decide) (by decide), .inl (.inl a3)⟩, a4⟩
  rcases a5 with ⟨q1, q2⟩ | q1
  · rw [q2] at q; exact (hp.2 q1).2 q
  · exact absurd q1 q
theorem mcount_d {IM : IS} {JM : JS} {h W n : Nat} {u l : Nat → Nat} {bk : Nat → Bool} (hh : h < 12) (hp : MP IM JM h W n u l bk) : ∃ I' J', fm_M_countAll (nI h) IM JM = some (I', J') ∧ MS I' W n u l bk ∧ Mc J' W (dT W n u l bk) (dF W n u l bk) ∧ MP I' J' h W n u l bk ∧ MFr h IM JM I' J' ∧ (∀ k, k ≠ 7 → k ≠ 8 → k ≠ 9 → k ≠ 10 → k ≠ 11 → I' k = IM k) := by
  have hW := MR_W hp.1
  obtain ⟨I', J', a1, a2, a3, a4, a5, a6, a7⟩ := mcount_eq (T := dT W n u l bk) (F := dF W n u l bk) hp.1 hh (fun q => (hp.2 q).1) (d_Ct hW) (fun q => (hp.2 q).2)
  have f : ∀ k, 1 ≤ k → k ≤ 6 → I' k = IM k := fun k k1 k2 => a6 k (by omega) (by omega) (by omega) (by omega) (by omega)
  exact ⟨I', J', a1, a2, a5, ⟨MR_frame hp.1 (f 1 (by decide) (by decide)) (f 2 (by decide) (by decide)) (f 3 (by decide) (by decide)) (f 4 (by decide) (by decide)) (f 5 (by decide) (by decide)) (f 6 (by decide) (by decide)), fun _ => ⟨a2, fun _ => a5⟩⟩, ⟨f, a6 12 (by decide) (by decide) (by decide) (by decide) (by decide), a6 13 (by decide) (by decide) (by decide) (by decide) (by decide), a6 15 (by decide) (by decide) (by decide) (by decide) (by decide), .inl (.inl a3)⟩, a6⟩
