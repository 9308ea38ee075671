/-! A verdict is taken back; an entry is scratched; all calls -/
theorem ok_withdraw : Ok_withdraw Rel := by
  constructor
  · intro pr I J Ih Jh IM JM O ⟨Wh, nh, uh, lh, bh, R, D, hr⟩ p0 p1 h hh e hp
    subst e
    have hc := RD_CS hr hh hp
    have hR := hc.1.1.1
    have hW := hR.2.1
    have hn := hR.2.2.2.1
    obtain ⟨m1, m2⟩ := RD_MP hr hh hp 0
    have hrel0 := Rel_read O hr hh hp hc (cs_0 hc) m1 m2
    unfold fm_K_withdraw fm_M_withdraw
    rw [find_d hh, c_ob1, bnd_eq, isHeat_eq m1.1 hh hc.1.2.2.1, c_ob1, if_neg (show ¬ (1 : Int32) = 0 from by decide), c_in hh (by decide), c_gr, c_cl (by omega), m1.1.2.1, hR.2.2.1]
    by_cases h1 : p1 < 1
    · rw [if_pos h1, if_pos h1]; exact ⟨_, _, _, _, rfl, rfl, hrel0⟩
    · rw [if_neg h1, if_neg h1]
      by_cases h2 : nI (nh h) < p1
      · rw [if_pos h2, if_pos h2]; exact ⟨_, _, _, _, rfl, rfl, hrel0⟩
      · rw [if_neg h2, if_neg h2]
        have h0 : ¬ p1 < 0 := fun q => h1 (Int32.lt_trans q (by decide))
        obtain ⟨j, hj, rfl⟩ := nI_of h0
        have j1 : ¬ j < 1 := fun q => h1 (nI_lt (b := 1) q (by decide))
        have j2 : j ≤ nh h := by
          apply Nat.le_of_not_lt
          intro q; exact h2 (nI_lt q (by omega))
        obtain ⟨v, rfl⟩ : ∃ v, j = v + 1 := ⟨j - 1, by omega⟩
        have hv : v < nh h := by omega
        have ei : (400 : Int32) * nI h + nI (v + 1) - 1 = nI (400 * h + v) := by
          rw [c_lit 400, pk_mul, nI_add, show 400 * h + (v + 1) = (400 * h + v) + 1 by omega, nI_pred]
        obtain ⟨b1, b2, b3, b4, b5⟩ := hR.2.2.2.2 v hv
        obtain ⟨c1, c2, c3, _⟩ := m1.1.2.2.2 v hv
        rw [nI_pred, ei, c_in (by omega) (by decide), c_in (by omega) (by decide), c_gr, c_gr, c_gr, c_cl (by omega), c_cl (by omega), b3, c3]
        cases hbk : bh h v with
        | true => rw [bI_neg, bI_neg]; exact ⟨_, _, _, _, rfl, rfl, hrel0⟩
        | false =>
          rw [bI_pos, bI_pos, nar_b1, bnd_eq, bnd_eq]
          have hf : ∀ k, k ≠ 2 → sI (mI (Ih h) I) 2 v 1 k = mI (Ih h) I k := fun k hk => sI_ne hk
          obtain ⟨I2, J2, kI, a1, a2, a3, a4, a5, a6⟩ := change_d (I1 := sI (mI (Ih h) I) 2 v 1) (J := mJ (Jh h) J) (h := h) (W := Wh h) (n := nh h) (u := uh h) (l := lh h) (bk := upf (bh h) v true) hh ⟨by rw [hf 5 (by decide)]; exact hR.1, hW, by rw [hf 6 (by decide)]; exact hR.2.2.1, hn, fun w hw => by
              rw [hf 0 (by decide), hf 1 (by decide)]
              obtain ⟨d1, d2, d3, d4, d5⟩ := hR.2.2.2.2 w hw
              refine ⟨d1, d2, ?_, d4, d5⟩
              by_cases e : w = v
              · subst e; rw [sI_same, upf_same]; rfl
              · rw [sI_idx e, upf_ne _ _ e]; exact d3⟩ (q_ac_less hc.1.2.1 (fun w hw q => by
              unfold q_inf at q ⊢
              by_cases e : w = v
              · subst e; rw [upf_same] at q; cases q
              · rw [upf_ne _ _ e] at q; exact q)) hc.1.2.2.1 (by rw [hf 21 (by decide)]; exact hc.2.2.1) (by rw [hf 22 (by decide)]; exact hc.2.2.2)
          unfold fm_H_takeBack
          rw [c_in (by omega) (by decide), c_gr, c_cl (by omega), nar_b1, bnd_eq, a1, c_ob2, c_ob2, a2, c_ob1]
          have g7 : sV (sI (sV IM 0 0) 6 (400 * h + v) 1) 7 (-1) 7 0 = -1 := sV_same
          have fM : ∀ k, k ≠ 0 → k ≠ 6 → k ≠ 7 → sV (sI (sV IM 0 0) 6 (400 * h + v) 1) 7 (-1) k = IM k := fun k k0 k6 k7 => by rw [sV_ne k7, sI_ne k6, sV_ne k0]
          have g6 : sV (sI (sV IM 0 0) 6 (400 * h + v) 1) 7 (-1) 6 = sI (sV IM 0 0) 6 (400 * h + v) 1 6 := sV_ne (by decide)
          refine ⟨1, kI, J2, _, rfl, rfl, Rel_chg O hr hh hp a3 (fun k k1 k2 => by rw [a4 k k1 k2, hf k (by omega)]) (a5.imp id (fun q => by rw [q, hf 17 (by decide)])) a6 ⟨⟨?_, ?_, hn, fun w hw => ?_⟩, fun q => ?_⟩ g7 (fun x hx => ?_) (fun x w hx hw => ?_) (fM 12 (by decide) (by decide) (by decide)) (fM 13 (by decide) (by decide) (by decide)) (fM 15 (by decide) (by decide) (by decide))⟩
          · rw [fM 1 (by decide) (by decide) (by decide), fM 2 (by decide) (by decide) (by decide)]; exact (hr.1 h hh hp).2.2.1.1
          · rw [fM 3 (by decide) (by decide) (by decide)]; exact (hr.1 h hh hp).2.2.1.2.1
          · rw [fM 4 (by decide) (by decide) (by decide), fM 5 (by decide) (by decide) (by decide), g6]
            obtain ⟨d1, d2, d3, d4, d5⟩ := (hr.1 h hh hp).2.2.1.2.2.2 w hw
            refine ⟨d1, d2, ?_, d4, d5⟩
            by_cases e : w = v
            · subst e; rw [sI_same, upf_same]; rfl
            · rw [sI_idx (by omega), sV_ne (by decide), upf_ne _ _ e]; exact d3
          · rw [g7] at q; exact absurd q.symm (nI_m1 (by omega))
          · rw [fM 1 (by decide) (by decide) (by decide), fM 2 (by decide) (by decide) (by decide), fM 3 (by decide) (by decide) (by decide)]; exact ⟨rfl, rfl, rfl⟩
          · rw [fM 4 (by decide) (by decide) (by decide), fM 5 (by decide) (by decide) (by decide), g6, sI_idx (by omega), sV_ne (by decide)]; exact ⟨rfl, rfl, rfl⟩
  · intro pr I J Ih Jh IM JM O hr p0 p1 hn
    refine ⟨0, sV IM 0 0, ?_, ?_, Rel_none hr 0 rfl rfl⟩
    · unfold fm_K_withdraw_n; rw [find_n, c_ob1]
    · unfold fm_M_withdraw; rw [bnd_eq, isHeat_no (Rel_no1 hr hn 0), c_ob1, if_pos rfl]
theorem dif_pop {W a : Nat} (hW : W < 2 ^ 16) (ha : a < 16) (hWa : W.testBit a = true) (h : q_pop W ≠ 1) : dif W (2 ^ a) ≠ 0 := by
  intro q
  apply h
  have e : W ^^^ 2 ^ a = 0 := by
    apply mask_ext
    intro i
    have : (dif W (2 ^ a)).testBit i = false := by rw [q]; exact Nat.zero_testBit i
    rw [dif_b hW] at this
    rw [q_xor_bit, Nat.zero_testBit]
    by_cases e : a = i
    · subst e; rw [hWa, q_beq_self]; rfl
    · rw [decide_eq_false e, Bool.not_false, Bool.and_true] at this
      rw [this, q_beq_ne (fun q => e q.symm)]; rfl
  have h1 := q_pop_xor ha hWa
  rw [e, q_pop_0] at h1
  omega
theorem ok_scratch : Ok_scratch Rel := by
  constructor
  · intro pr I J Ih Jh IM JM O ⟨Wh, nh, uh, lh, bh, R, D, hr⟩ p0 p1 h hh e hp
    subst e
    have hc := RD_CS hr hh hp
    have hR := hc.1.1.1
    have hW := hR.2.1
    have h16 := q_pop_16 (Wh h)
    obtain ⟨m1, m2⟩ := RD_MP hr hh hp 0
    have hrel0 := Rel_read O hr hh hp hc (cs_0 hc) m1 m2
    unfold fm_K_scratch fm_M_scratch
    rw [find_d hh, c_ob1, has_eq hR.1 hW, c_ob1, bnd_eq, there_eq m1.1 hh, c_ob1]
    cases hb1 : hb (Wh h) p1 with
    | false => rw [bI_pos, bI_pos]; exact ⟨_, _, _, _, rfl, rfl, hrel0⟩
    | true =>
      obtain ⟨a, ha, rfl, wa⟩ := hb_t hb1
      obtain ⟨I1, a1, a2, a3, a4, a5⟩ := mset_d hh m1
      have hm := MFr_tr m2 a4
      rw [bI_neg, bI_neg, size_eq hR.1 hW, c_ob1, a1, c_ob1, a2.1, mbits_eq (by omega), c_ob1]
      by_cases h1 : q_pop (Wh h) = 1
      · rw [h1, if_pos (show nI 1 = 1 from rfl), if_pos (show nI 1 = 1 from rfl)]
        exact ⟨_, _, _, _, rfl, rfl, Rel_read O hr hh hp hc (cs_0 hc) a3 hm⟩
      · have hne : ¬ nI (q_pop (Wh h)) = 1 := fun q => h1 ((nI_eq (b := 1) (by omega) (by decide)).mp q)
        rw [if_neg hne, if_neg hne]
        have hW' := dif_pop hW ha wa h1
        have hd16 := dif_16 (k := a) hW
        have hf : ∀ k, k ≠ 5 → sV (mI (Ih h) I) 5 (nI (dif (Wh h) (2 ^ a))) k = mI (Ih h) I k := fun k hk => sV_ne hk
        obtain ⟨I2, J2, kI, b1, b2, b3, b4, b5, b6⟩ := change_d (I1 := sV (mI (Ih h) I) 5 (nI (dif (Wh h) (2 ^ a)))) (J := mJ (Jh h) J) (h := h) (W := dif (Wh h) (2 ^ a)) (n := nh h) (u := uh h) (l := lh h) (bk := bh h) hh ⟨sV_same, hd16, by rw [hf 6 (by decide)]; exact hR.2.2.1, hR.2.2.2.1, fun w hw => by rw [hf 0 (by decide), hf 1 (by decide), hf 2 (by decide)]; exact hR.2.2.2.2 w hw⟩ (q_ac_less hc.1.2.1 (fun w hw q => by
            unfold q_inf at q ⊢
            obtain ⟨q1, q2⟩ := Bool.and_eq_true_iff.1 q
            obtain ⟨q2, q3⟩ := Bool.and_eq_true_iff.1 q2
            rw [dif_b hW] at q2 q3
            rw [q1, (Bool.and_eq_true_iff.1 q2).1, (Bool.and_eq_true_iff.1 q3).1]; rfl)) hW' (by rw [hf 21 (by decide)]; exact hc.2.2.1) (by rw [hf 22 (by decide)]; exact hc.2.2.2)
        unfold fm_H_remove
        rw [hR.1, c_shl (by omega), m_dif, bnd_eq, b1, c_ob2, c_ob2, b2, c_ob1, c_in hh (by decide), c_gr, c_gr, c_cl (by omega), bnd_eq, bnd_eq]
        obtain ⟨⟨sz, g, s1, s2, s3, s4, s5, s6⟩, s7, s8, s9⟩ := a3.1
        rw [s3, m_or]
        have g7 : sV (sI I1 2 h (nI (g ||| 2 ^ a))) 7 (-1) 7 0 = -1 := sV_same
        have fM : ∀ k, k ≠ 2 → k ≠ 7 → sV (sI I1 2 h (nI (g ||| 2 ^ a))) 7 (-1) k = I1 k := fun k k2 k7 => by rw [sV_ne k7, sI_ne k2]
        have g2 : sV (sI I1 2 h (nI (g ||| 2 ^ a))) 7 (-1) 2 = sI I1 2 h (nI (g ||| 2 ^ a)) 2 := sV_ne (by decide)
        refine ⟨1, kI, J2, _, rfl, rfl, Rel_chg O hr hh hp b3 (fun k k1 k2 => by rw [b4 k k1 k2, hf k (by omega)]) (b5.imp id (fun q => by rw [q, hf 17 (by decide)])) b6 ⟨⟨⟨sz, g ||| 2 ^ a, ?_, s2, ?_, or_lt s4 (Nat.pow_lt_pow_right (by decide) ha), ⟨fun _ => hW', fun _ => s5.mpr hc.1.2.2.1⟩, fun i => ?_⟩, ?_, s8, fun w hw => ?_⟩, fun q => ?_⟩ g7 (fun x hx => ?_) (fun x w hx hw => ?_) (by rw [fM 12 (by decide) (by decide)]; exact hm.2.1) (by rw [fM 13 (by decide) (by decide)]; exact hm.2.2.1) (by rw [fM 15 (by decide) (by decide)]; exact hm.2.2.2.1)⟩
        · rw [fM 1 (by decide) (by decide)]; exact s1
        · rw [g2, sI_same]
        · rw [dif_b hW, s6 i, q_or_bit]
          by_cases q : a = i
          · subst q; rw [decide_eq_true rfl, q_beq_self]; simp
          · rw [decide_eq_false q, q_beq_ne (fun q2 => q q2.symm)]; simp
        · rw [fM 3 (by decide) (by decide)]; exact s7
        · rw [fM 4 (by decide) (by decide), fM 5 (by decide) (by decide), fM 6 (by decide) (by decide)]; exact s9 w hw
        · rw [g7] at q; exact absurd q.symm (nI_m1 (by omega))
        · rw [fM 1 (by decide) (by decide), fM 3 (by decide) (by decide), g2, sI_idx hx, hm.1 1 (by decide) (by decide), hm.1 2 (by decide) (by decide), hm.1 3 (by decide) (by decide)]; exact ⟨rfl, rfl, rfl⟩
        · rw [fM 4 (by decide) (by decide), fM 5 (by decide) (by decide), fM 6 (by decide) (by decide), hm.1 4 (by decide) (by decide), hm.1 5 (by decide) (by decide), hm.1 6 (by decide) (by decide)]; exact ⟨rfl, rfl, rfl⟩
  · intro pr I J Ih Jh IM JM O hr p0 p1 hn
    refine ⟨0, sV IM 0 0, ?_, ?_, Rel_none hr 0 rfl rfl⟩
    · unfold fm_K_scratch_n; rw [find_n, c_ob1]
    · unfold fm_M_scratch; rw [bnd_eq, there_no (Rel_no1 hr hn 0), c_ob1, if_pos rfl]
theorem ok_all : Ok_all Rel := ⟨ok_heat, ok_better, ok_whyLast, ok_why, ok_withdraw, ok_scratch, ok_settled, ok_direct, ok_orders, ok_atRank, ok_before, ok_meanRank, ok_chance, ok_order, ok_give, ok_numberOf, ok_ask, ok_tie, ok_tieEntry, ok_chains, ok_follows, ok_count⟩
