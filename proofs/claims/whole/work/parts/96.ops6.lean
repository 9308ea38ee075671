/-! Verdicts, taken back, entries scratched -/
def upf {α : Type} (f : Nat → α) (n : Nat) (x : α) : Nat → α := fun v => if v = n then x else f v
theorem upf_same {α : Type} (f : Nat → α) (n : Nat) (x : α) : upf f n x n = x := by unfold upf; rw [if_pos rfl]
theorem upf_ne {α : Type} (f : Nat → α) {n v : Nat} (x : α) (h : v ≠ n) : upf f n x v = f v := by unfold upf; rw [if_neg h]
/-- what a change leaves of the desk: all but the heat -/
theorem Rel_chg {Wh nh : Nat → Nat} {uh lh : Nat → Nat → Nat} {bh : Nat → Nat → Bool} {R : Nat → Nat} {D : Nat} {pr : Nat → Bool} {I kI : IS} {J kJ : JS} {Ih : Nat → IS} {Jh : Nat → JS} {IM IM' : IS} {JM : JS} (O : Nat → Int64) (hr : RD Wh nh uh lh bh R D pr I J Ih Jh IM JM) {h W n : Nat} {u l : Nat → Nat} {bk : Nat → Bool} (hh : h < 12) (hp : pr h = true) (hc : CS kI kJ h W n u l bk) (hf : ∀ k, 16 ≤ k → k ≠ 17 → kI k = mI (Ih h) I k) (h17 : kI 17 0 = -1 ∨ kI 17 = mI (Ih h) I 17) (hJ : ∀ k, 3 ≤ k → kJ k = mJ (Jh h) J k) (hm : MP IM' JM h W n u l bk) (h7 : IM' 7 0 = -1) (h1 : ∀ x, x ≠ h → IM' 1 x = IM 1 x ∧ IM' 2 x = IM 2 x ∧ IM' 3 x = IM 3 x) (h4 : ∀ x v, x ≠ h → v < 400 → IM' 4 (400 * x + v) = IM 4 (400 * x + v) ∧ IM' 5 (400 * x + v) = IM 5 (400 * x + v) ∧ IM' 6 (400 * x + v) = IM 6 (400 * x + v)) (h12 : IM' 12 = IM 12) (h13 : IM' 13 = IM 13) (h15 : IM' 15 = IM 15) : Rel pr kI kJ (upN Ih h kI) (upN Jh h kJ) IM' JM O := by
  have hr0 := hr
  obtain ⟨_, _, _, _, g1, g2, g3, g4, g5, g6⟩ := hr0
  refine ⟨_, _, _, _, _, R, D, RD_up hr (fun _ _ _ => rfl) hp hc ?_ hm (fun x W n u l bk _ hx q => MR_oth q (h1 x hx).1 (h1 x hx).2.1 (h1 x hx).2.2 (fun v hv => (h4 x v hx hv).1) (fun v hv => (h4 x v hx hv).2.1) (fun v hv => (h4 x v hx hv).2.2)) (fun x _ hx => (h1 x hx).1) (.inl (.inr h7)) hh (by rw [hf 16 (by decide) (by decide), mI_hi (by decide)]; exact g1) (by rw [h15]; exact g2) ⟨g3, by rw [hf 19 (by decide) (by decide), mI_hi (by decide)]; exact g4, by rw [h12]; exact g5, fun i hi => by rw [hf 18 (by decide) (by decide), mI_hi (by decide), h13]; exact g6 i hi⟩⟩
  rcases h17 with q | q
  · exact .inl (.inr q)
  · right
    refine ⟨by rw [q, mI_hi (by decide)], by rw [hf 21 (by decide) (by decide), mI_hi (by decide)], by rw [hf 22 (by decide) (by decide), mI_hi (by decide)], by rw [hJ 3 (by decide), mJ_hi (by decide)], by rw [hJ 4 (by decide), mJ_hi (by decide)]⟩
theorem write_d {I : IS} {J : JS} {h W n a b : Nat} {u l : Nat → Nat} {bk : Nat → Bool} (hh : h < 12) (hc : CS I J h W n u l bk) (hn : n < 400) (ha : a < 16) (hb : b < 16) (hab : a ≠ b) (hB : (q_B W n u l bk b).testBit a = false) : ∃ I2 J2 kI, fm_H_write (nI a) (nI b) I J = some (I2, J2) ∧ fm_K_unload (nI h) I2 = some kI ∧ CS kI J2 h W (n + 1) (upf u n a) (upf l n b) (upf bk n false) ∧ (∀ k, 16 ≤ k → k ≠ 17 → kI k = I k) ∧ (kI 17 0 = -1 ∨ kI 17 = I 17) ∧ (∀ k, 3 ≤ k → J2 k = J k) := by
  obtain ⟨⟨⟨hR, h34⟩, hac, hW0, _⟩, _, h21, h22⟩ := hc
  obtain ⟨r1, r2, r3, r4, r5⟩ := hR
  have hf : ∀ k, k ≠ 0 → k ≠ 1 → k ≠ 2 → k ≠ 6 → sV (sI (sI (sI I 0 n (nI a)) 1 n (nI b)) 2 n 0) 6 (nI (n + 1)) k = I k := fun k k0 k1 k2 k6 => by rw [sV_ne k6, sI_ne k2, sI_ne k1, sI_ne k0]
  have hac' : q_ac W (n + 1) (upf u n a) (upf l n b) (upf bk n false) := q_ac_add r2 hac (fun v hv => upf_ne _ _ (by omega)) (fun v hv => upf_ne _ _ (by omega)) (fun v hv => upf_ne _ _ (by omega)) (by rw [upf_same, upf_same]; exact hab) (by rw [upf_same, upf_same]; exact hB)
  obtain ⟨I2, J2, kI, a1, a2, a3, a4, a5, a6⟩ := change_d (I1 := sV (sI (sI (sI I 0 n (nI a)) 1 n (nI b)) 2 n 0) 6 (nI (n + 1))) (J := J) (h := h) (W := W) (n := n + 1) (u := upf u n a) (l := upf l n b) (bk := upf bk n false) hh ⟨by rw [hf 5 (by decide) (by decide) (by decide) (by decide)]; exact r1, r2, by rw [sV_same], by omega, fun v hv => by
      rw [sV_ne (by decide), sV_ne (by decide), sV_ne (by decide), sI_ne (by decide), sI_ne (by decide)]
      rw [show sI (sI (sI I 0 n (nI a)) 1 n (nI b)) 2 n 0 1 = sI (sI I 0 n (nI a)) 1 n (nI b) 1 from sI_ne (by decide)]
      by_cases e : v = n
      · subst e
        rw [sI_same, sI_same, sI_same, upf_same, upf_same, upf_same]
        exact ⟨rfl, rfl, rfl, ha, hb⟩
      · rw [sI_idx e, sI_idx e, sI_idx e, upf_ne _ _ e, upf_ne _ _ e, upf_ne _ _ e, sI_ne (by decide), sI_ne (by decide), sI_ne (by decide)]
        exact r5 v (by omega)⟩ hac' hW0 (by rw [hf 21 (by decide) (by decide) (by decide) (by decide)]; exact h21) (by rw [hf 22 (by decide) (by decide) (by decide) (by decide)]; exact h22)
  refine ⟨I2, J2, kI, ?_, a2, a3, fun k k1 k2 => by rw [a4 k k1 k2, hf k (by omega) (by omega) (by omega) (by omega)], a5.imp id (fun q => by rw [q, hf 17 (by decide) (by decide) (by decide) (by decide)]), a6⟩
  unfold fm_H_write
  rw [r3, c_in hn (by decide), c_gr, c_cl (by omega), nar_byte a ha, bnd_eq]
  rw [sI_ne (show (6 : Nat) ≠ 0 by decide), r3, c_in hn (by decide), c_gr, c_cl (by omega), nar_byte b hb, bnd_eq]
  rw [sI_ne (show (6 : Nat) ≠ 1 by decide), sI_ne (show (6 : Nat) ≠ 0 by decide), r3, c_in hn (by decide), c_gr, c_cl (by omega), nar_b0, bnd_eq]
  rw [sI_ne (show (6 : Nat) ≠ 2 by decide), sI_ne (show (6 : Nat) ≠ 1 by decide), sI_ne (show (6 : Nat) ≠ 0 by decide), r3, c_1, bnd_eq, a1, c_ob2]
theorem idx_ne {h x v n : Nat} (hx : x ≠ h) (hv : v < 400) (hn : n < 400) : 400 * x + v ≠ 400 * h + n := by omega
theorem trace_d {I : IS} {J : JS} {h W n a b : Nat} {u l : Nat → Nat} {bk : Nat → Bool} {IM : IS} {JM : JS} (hh : h < 12) (hc : CS I J h W n u l bk) (hm : MP IM JM h W n u l bk) (ha : a < 16) (hb : b < 16) (hab : a = b ∨ (q_B W n u l bk b).testBit a = true) : ∃ kI nM D, fm_S_trace (nI b) (nI a) I = some kI ∧ fm_M_findWhy (nI h) (nI b) (nI a) IM = some nM ∧ CS kI J h W n u l bk ∧ (∀ k, k ≠ 18 → k ≠ 19 → k ≠ 20 → kI k = I k) ∧ (∀ k, k ≠ 12 → k ≠ 13 → k ≠ 14 → nM k = IM k) ∧ Wy kI nM D := by
  have hR := hc.1.1.1
  have hW := hR.2.1
  have hD : q_d (q_v W u l bk n) a b ≤ 15 := by
    rcases hab with q | q
    · rw [q_d_0.mpr q.symm]; decide
    · refine q_d_reach (fun x y hxy => ?_) ha hb q
      apply Nat.lt_of_not_le
      intro q2
      rw [mask_hi (q_v_lt (n := n) hW) q2] at hxy; cases hxy
  obtain ⟨kI, a1, a2, a3, a4⟩ := trace_eq hR (g := a) (e0 := b) ha hb rfl hD
  obtain ⟨nM, b1, b2, b3, b4⟩ := mwhy_eq hm.1 hh (g := a) (e0 := b) ha hb rfl hD
  have e17 := a4 17 (by decide) (by decide) (by decide)
  have e21 := a4 21 (by decide) (by decide) (by decide)
  have e22 := a4 22 (by decide) (by decide) (by decide)
  refine ⟨kI, nM, _, a1, b1, ⟨HK_fr hc.1 (fun k hk => a4 k (by omega) (by omega) (by omega)) (.inl rfl) rfl rfl, fun q => ?_, by rw [e21]; exact hc.2.2.1, by rw [e22]; exact hc.2.2.2⟩, a4, b4, by omega, a2, b2, fun i hi => by rw [a3 i hi, b3 i hi]⟩
  rw [e17] at q
  obtain ⟨c1, c2⟩ := hc.2.1 q
  exact ⟨Ld_fr c1 e21 e22 rfl rfl, c2⟩
theorem Rel_why {Wh nh : Nat → Nat} {uh lh : Nat → Nat → Nat} {bh : Nat → Nat → Bool} {R : Nat → Nat} {D D' : Nat} {pr : Nat → Bool} {I kI : IS} {J : JS} {Ih : Nat → IS} {Jh : Nat → JS} {IM I1 IM' : IS} {JM : JS} (O : Nat → Int64) (hr : RD Wh nh uh lh bh R D pr I J Ih Jh IM JM) {h : Nat} (hh : h < 12) (hp : pr h = true) (hc : CS kI (mJ (Jh h) J) h (Wh h) (nh h) (uh h) (lh h) (bh h)) (hf : ∀ k, k ≠ 18 → k ≠ 19 → k ≠ 20 → kI k = mI (Ih h) I k) (hm1 : MP I1 JM h (Wh h) (nh h) (uh h) (lh h) (bh h)) (hmf : MFr h IM JM I1 JM) (hf2 : ∀ k, k ≠ 12 → k ≠ 13 → k ≠ 14 → IM' k = I1 k) (hw : Wy kI IM' D') : Rel pr kI (mJ (Jh h) J) (upN Ih h kI) (upN Jh h (mJ (Jh h) J)) IM' JM O := by
  obtain ⟨d1, d2, d3, d4, d5⟩ := hmf
  have hr0 := hr
  obtain ⟨_, _, _, _, g1, g2, _⟩ := hr0
  have f : ∀ k, 1 ≤ k → k ≤ 6 → IM' k = IM k := fun k k1 k2 => by rw [hf2 k (by omega) (by omega) (by omega), d1 k k1 k2]
  refine ⟨_, _, _, _, _, R, D', RD_up hr (fun _ _ _ => rfl) hp hc (.inr ⟨by rw [hf 17 (by decide) (by decide) (by decide), mI_hi (by decide)], by rw [hf 21 (by decide) (by decide) (by decide), mI_hi (by decide)], by rw [hf 22 (by decide) (by decide) (by decide), mI_hi (by decide)], mJ_hi (by decide), mJ_hi (by decide)⟩) (MP_0 hm1 (fun k k1 _ => hf2 k (by omega) (by omega) (by omega)) rfl rfl) (fun x W n u l bk _ _ q => MR_frame q (f 1 (by decide) (by decide)) (f 2 (by decide) (by decide)) (f 3 (by decide) (by decide)) (f 4 (by decide) (by decide)) (f 5 (by decide) (by decide)) (f 6 (by decide) (by decide))) (fun x _ _ => by rw [f 1 (by decide) (by decide)]) ?_ hh (by rw [hf 16 (by decide) (by decide) (by decide), mI_hi (by decide)]; exact g1) (by rw [hf2 15 (by decide) (by decide) (by decide), d4]; exact g2) hw⟩
  rw [hf2 7 (by decide) (by decide) (by decide), hf2 8 (by decide) (by decide) (by decide), hf2 9 (by decide) (by decide) (by decide), hf2 10 (by decide) (by decide) (by decide), hf2 11 (by decide) (by decide) (by decide)]
  exact d5
theorem ok_better : Ok_better Rel := by
  constructor
  · intro pr I J Ih Jh IM JM O ⟨Wh, nh, uh, lh, bh, R, D, hr⟩ p0 p1 p2 h hh e hp
    subst e
    have hc := RD_CS hr hh hp
    have hR := hc.1.1.1
    have hW := hR.2.1
    obtain ⟨m1, m2⟩ := RD_MP hr hh hp 0
    have hrel0 := Rel_read O hr hh hp hc (cs_0 hc) m1 m2
    unfold fm_K_better fm_M_better
    rw [find_d hh, c_ob1, has_eq hR.1 hW, c_ob1, bnd_eq, there_eq m1.1 hh, c_ob1]
    cases hb1 : hb (Wh h) p1 with
    | false => rw [bI_pos, bI_pos]; exact ⟨_, _, _, _, rfl, rfl, hrel0⟩
    | true =>
      rw [bI_neg, bI_neg, has_eq hR.1 hW, c_ob1, there_eq m1.1 hh, c_ob1]
      cases hb2 : hb (Wh h) p2 with
      | false => rw [bI_pos, bI_pos]; exact ⟨_, _, _, _, rfl, rfl, hrel0⟩
      | true =>
        obtain ⟨a, ha, rfl, wa⟩ := hb_t hb1
        obtain ⟨b, hb', rfl, wb⟩ := hb_t hb2
        obtain ⟨I1, a1, a2, a3, a4, a5⟩ := mset_d hh m1
        have hm := MFr_tr m2 a4
        rw [bI_neg, bI_neg, a1, c_ob1]
        by_cases hab : a = b
        · rw [if_pos (by rw [hab]), if_pos (by rw [hab])]
          obtain ⟨kI, nM, D', t1, t2, t3, t4, t5, t6⟩ := trace_d hh hc a3 ha hb' (.inl hab)
          rw [t1, c_ob1, t2, c_ob1]
          exact ⟨_, _, _, _, rfl, rfl, Rel_why O hr hh hp t3 t4 a3 hm t5 t6⟩
        · have hne : ¬ nI a = nI b := fun q => hab ((nI_eq (by omega) (by omega)).mp q)
          have h9 := MS_3 hW a2 b hb'
          have h92 := h9.2
          rw [if_neg hne, if_neg hne, csettled_d hc, c_ob1, hb2_in (Wh h) _ hb' ha d_BW, c_in hb' (by decide), c_gr, c_cl (by omega), h9.1]
          cases hB : (q_B (Wh h) (nh h) (uh h) (lh h) (bh h) b).testBit a with
          | true =>
            obtain ⟨kI, nM, D', t1, t2, t3, t4, t5, t6⟩ := trace_d hh hc a3 ha hb' (.inr hB)
            rw [bI_neg, if_pos ((m_bit1 (by omega) (by omega)).mpr hB), t1, c_ob1, t2, c_ob1]
            exact ⟨_, _, _, _, rfl, rfl, Rel_why O hr hh hp t3 t4 a3 hm t5 t6⟩
          | false =>
            have nb : ¬ (nI (q_B (Wh h) (nh h) (uh h) (lh h) (bh h) b) >>> (nI a &&& 31)) &&& (1 : Int32) = 1 := fun q => by rw [(m_bit1 (by omega) (by omega)).mp q] at hB; cases hB
            rw [bI_pos, if_neg nb, c_in hh (by decide), c_gr, c_cl (by omega), a3.1.2.1, hR.2.2.1]
            by_cases hn : nh h < 400
            · rw [if_pos (show nI (nh h) < 400 from nI_lt (b := 400) hn (by decide)), if_neg (show ¬ nI (nh h) = 400 from fun q => by have := (nI_eq (b := 400) (by omega) (by decide)).mp q; omega)]
              obtain ⟨I2, J2, kI, w1, w2, w3, w4, w5, w6⟩ := write_d hh hc hn ha hb' hab hB
              rw [w1, c_ob2, w2, c_ob1]
              have hi : 400 * h + nh h < 4800 := by omega
              have e6 : kI 6 0 = nI (nh h + 1) := w3.1.1.1.2.2.1
              rw [e6]
              let M4 : IS := sI (sI (sI I1 4 (400 * h + nh h) (nI a)) 5 (400 * h + nh h) (nI b)) 6 (400 * h + nh h) 0
              let M5 : IS := sV (sI M4 3 h (nI (nh h + 1))) 7 (-1)
              have f3 : M4 3 = I1 3 := by
                show sI (sI (sI I1 4 _ _) 5 _ _) 6 _ _ 3 = _
                rw [sI_ne (by decide), sI_ne (by decide), sI_ne (by decide)]
              have fM : ∀ k, k ≠ 3 → k ≠ 4 → k ≠ 5 → k ≠ 6 → k ≠ 7 → M5 k = I1 k := fun k k3 k4 k5 k6 k7 => by
                show sV (sI (sI (sI (sI I1 4 _ _) 5 _ _) 6 _ _) 3 _ _) 7 _ k = _
                rw [sV_ne k7, sI_ne k3, sI_ne k6, sI_ne k5, sI_ne k4]
              have g4 : M5 4 = sI I1 4 (400 * h + nh h) (nI a) 4 := by
                show sV (sI (sI (sI (sI I1 4 _ _) 5 _ _) 6 _ _) 3 _ _) 7 _ 4 = _
                rw [sV_ne (by decide), sI_ne (by decide), sI_ne (by decide), sI_ne (by decide)]
              have g5 : M5 5 = sI (sI I1 4 (400 * h + nh h) (nI a)) 5 (400 * h + nh h) (nI b) 5 := by
                show sV (sI (sI (sI (sI I1 4 _ _) 5 _ _) 6 _ _) 3 _ _) 7 _ 5 = _
                rw [sV_ne (by decide), sI_ne (by decide), sI_ne (by decide)]
              have g6 : M5 6 = M4 6 := by
                show sV (sI M4 3 _ _) 7 _ 6 = _
                rw [sV_ne (by decide), sI_ne (by decide)]
              have g3 : ∀ x, x ≠ h → M5 3 x = I1 3 x := fun x hx => by
                show sV (sI M4 3 _ _) 7 _ 3 x = _
                rw [sV_ne (by decide), sI_idx hx, f3]
              have g33 : M5 3 h = nI (nh h + 1) := by
                show sV (sI M4 3 _ _) 7 _ 3 h = _
                rw [sV_ne (by decide), sI_same]
              have g7 : M5 7 0 = -1 := sV_same
              refine ⟨nI (nh h + 1), kI, J2, M5, rfl, ?_, ?_⟩
              · rw [c_gr, m400 hh hn, bnd_eq, c_in hi (by decide), c_gr, c_cl (by omega), bnd_eq, c_gr, bnd_eq, c_gr, nar_b0, bnd_eq, c_gr, c_gr, show sI (sI (sI I1 4 (400 * h + nh h) (nI a)) 5 (400 * h + nh h) (nI b)) 6 (400 * h + nh h) 0 3 = I1 3 from f3, a3.1.2.1, c_1, bnd_eq, bnd_eq, c_gr]
                exact congrArg (fun x => some (x, M5)) g33
              · refine Rel_chg O hr hh hp w3 w4 w5 w6 ⟨⟨?_, g33, by omega, fun v hv => ?_⟩, fun q => ?_⟩ g7 (fun x hx => ?_) (fun x v hx hv => ?_) (by rw [fM 12 (by decide) (by decide) (by decide) (by decide) (by decide)]; exact hm.2.1) (by rw [fM 13 (by decide) (by decide) (by decide) (by decide) (by decide)]; exact hm.2.2.1) (by rw [fM 15 (by decide) (by decide) (by decide) (by decide) (by decide)]; exact hm.2.2.2.1)
                · rw [fM 1 (by decide) (by decide) (by decide) (by decide) (by decide), fM 2 (by decide) (by decide) (by decide) (by decide) (by decide)]; exact a3.1.1
                · rw [g4, g5, g6]
                  by_cases ev : v = nh h
                  · subst ev
                    rw [sI_same, sI_same, upf_same, upf_same, upf_same]
                    exact ⟨rfl, rfl, sI_same, ha, hb'⟩
                  · have ne : 400 * h + v ≠ 400 * h + nh h := by omega
                    rw [sI_idx ne, sI_idx ne, sI_ne (by decide), upf_ne _ _ ev, upf_ne _ _ ev, upf_ne _ _ ev]
                    have : M4 6 (400 * h + v) = I1 6 (400 * h + v) := by
                      show sI (sI (sI I1 4 _ _) 5 _ _) 6 _ _ 6 _ = _
                      rw [sI_idx ne, sI_ne (by decide), sI_ne (by decide)]
                    rw [this]
                    exact a3.1.2.2.2 v (by omega)
                · rw [g7] at q; exact absurd q.symm (nI_m1 (by omega))
                · rw [fM 1 (by decide) (by decide) (by decide) (by decide) (by decide), fM 2 (by decide) (by decide) (by decide) (by decide) (by decide), g3 x hx, hm.1 1 (by decide) (by decide), hm.1 2 (by decide) (by decide), hm.1 3 (by decide) (by decide)]
                  exact ⟨rfl, rfl, rfl⟩
                · have ne := idx_ne hx hv hn
                  have : M4 6 (400 * x + v) = I1 6 (400 * x + v) := by
                    show sI (sI (sI I1 4 _ _) 5 _ _) 6 _ _ 6 _ = _
                    rw [sI_idx ne, sI_ne (by decide), sI_ne (by decide)]
                  rw [g4, g5, g6, sI_idx ne, sI_idx ne, sI_ne (by decide), this, hm.1 4 (by decide) (by decide), hm.1 5 (by decide) (by decide), hm.1 6 (by decide) (by decide)]
                  exact ⟨rfl, rfl, rfl⟩
            · have hn4 : nh h = 400 := by have := hR.2.2.2.1; omega
              rw [hn4, if_neg (show ¬ nI 400 < 400 from by decide), if_pos (show nI 400 = 400 from rfl)]
              exact ⟨_, _, _, _, rfl, rfl, Rel_read O hr hh hp hc (cs_0 hc) a3 hm⟩
  · intro pr I J Ih Jh IM JM O hr p0 p1 p2 hn
    refine ⟨-1, sV IM 0 0, ?_, ?_, Rel_none hr 0 rfl rfl⟩
    · unfold fm_K_better_n; rw [find_n, c_ob1]
    · unfold fm_M_better; rw [bnd_eq, there_no (Rel_no1 hr hn 0), c_ob1, if_pos rfl]
