/-! The n-th order, a row's number, the question to ask -/
theorem ok_order : Ok_order Rel := by
  constructor
  · intro pr I J Ih Jh IM JM O ⟨Wh, nh, uh, lh, bh, R, D, hr⟩ p0 p1 p2 h hh e hp
    subst e
    have hc := RD_CS hr hh hp
    have hW := hc.1.1.1.2.1
    have h16 := q_pop_16 (Wh h)
    have hlt := d_lt (n := nh h) (u := uh h) (l := lh h) (bk := bh h) hW
    obtain ⟨m1, m2⟩ := RD_MP hr hh hp 0
    obtain ⟨I', J', a1, a2, a3, a4, a5, _⟩ := mcount_d hh m1
    have hm := MFr_tr m2 a5
    have hrel0 := Rel_read O hr hh hp hc (cs_0 hc) a4 hm
    unfold fm_K_order fm_M_order
    rw [find_d hh, c_ob1, size_eq hc.1.1.1.1 hW, c_ob1, bnd_eq, isHeat_eq m1.1 hh hc.1.2.2.1, c_ob1, if_neg (show ¬ (1 : Int32) = 0 from by decide), a1, c_ob2, z_in, c_gr, z_cl, mc_0 hW a3, a2.1, mbits_eq (by omega), c_ob1]
    by_cases hn0 : lg_cmp p1 0 < 0
    · rw [if_pos hn0, if_pos hn0]
      by_cases h1 : p2 < 1
      · rw [if_pos h1]; exact ⟨_, _, _, _, _, rfl, rfl, hrel0⟩
      · rw [if_neg h1]
        by_cases h2 : nI (q_pop (Wh h)) < p2
        · rw [if_pos h2]; exact ⟨_, _, _, _, _, rfl, rfl, hrel0⟩
        · rw [if_neg h2]; exact ⟨_, _, _, _, _, rfl, rfl, hrel0⟩
    · rw [if_neg hn0, if_neg hn0]
      have hp1 : ¬ p1 < 0 := fun q => hn0 ((lg_cmp_lt p1 0).mpr q)
      obtain ⟨x, hx, rfl⟩ := l_of hp1
      obtain ⟨kI, kJ, k1, k2, k3⟩ := total_d hc
      have hrel1 := Rel_read O hr hh hp k2 k3 a4 hm
      by_cases h1 : p2 < 1
      · rw [if_pos h1, if_pos h1]
        split <;> exact ⟨_, _, _, _, _, rfl, rfl, hrel0⟩
      · rw [if_neg h1, if_neg h1]
        by_cases h2 : nI (q_pop (Wh h)) < p2
        · rw [if_pos h2, if_neg (fun q => absurd h2 (Int32.not_lt.mpr q))]
          split <;> exact ⟨_, _, _, _, _, rfl, rfl, hrel0⟩
        · rw [if_neg h2, if_pos (Int32.not_lt.mp h2), k1, c_ob3]
          have h0 : ¬ p2 < 0 := fun q => h1 (Int32.lt_trans q (by decide))
          obtain ⟨r, hr', rfl⟩ := nI_of h0
          have hrp : r ≤ q_pop (Wh h) := by
            apply Nat.le_of_not_lt
            intro q; exact h2 (nI_lt q (by omega))
          by_cases hxF : x < dF (Wh h) (nh h) (uh h) (lh h) (bh h) 0
          · have l1 : lg_cmp (lN x) (lN (dF (Wh h) (nh h) (uh h) (lh h) (bh h) 0)) < 0 := by rw [lg_cmp_lt, l_lt hx (by omega)]; exact hxF
            have l2 : ¬ 0 ≤ lg_cmp (lN x) (lN (dF (Wh h) (nh h) (uh h) (lh h) (bh h) 0)) := by rw [lg_cmp_ge, l_le (by omega) hx]; omega
            obtain ⟨qI, qJ, q1, q2, q3, q4, _⟩ := load_d k2
            rw [if_pos l1, if_neg l2, q1, c_ob2, entryAt_eq (HK_Hx q2.1) (d_Ct hW) q4.2.2 hxF hrp, c_ob1, mordAt_eq (MS_Mx hW a2) (d_Ct hW) a3 hxF hrp, c_ob5]
            exact ⟨_, qI, qJ, I', J', rfl, rfl, Rel_read O hr hh hp q2 (CF_tr k3 q3) a4 hm⟩
          · have l1 : ¬ lg_cmp (lN x) (lN (dF (Wh h) (nh h) (uh h) (lh h) (bh h) 0)) < 0 := by rw [lg_cmp_lt, l_lt hx (by omega)]; exact hxF
            have l2 : 0 ≤ lg_cmp (lN x) (lN (dF (Wh h) (nh h) (uh h) (lh h) (bh h) 0)) := by rw [lg_cmp_ge, l_le (by omega) hx]; omega
            rw [if_neg l1, if_pos l2]
            exact ⟨_, kI, kJ, I', J', rfl, rfl, hrel1⟩
  · intro pr I J Ih Jh IM JM O hr p0 p1 p2 hn
    refine ⟨-1, sV IM 0 0, JM, ?_, ?_, Rel_none hr 0 rfl rfl⟩
    · unfold fm_K_order_n; rw [find_n, c_ob1]
    · unfold fm_M_order; rw [bnd_eq, isHeat_no (Rel_no1 hr hn 0), c_ob1, if_pos rfl]
theorem ok_numberOf : Ok_numberOf Rel := by
  constructor
  · intro pr I J Ih Jh IM JM O ⟨Wh, nh, uh, lh, bh, R, D, hr⟩ p0 h hh e hp
    subst e
    have hc := RD_CS hr hh hp
    have hW := hc.1.1.1.2.1
    obtain ⟨m1, m2⟩ := RD_MP hr hh hp 0
    obtain ⟨I', J', a1, a2, a3, a4, a5, a6⟩ := mcount_d hh m1
    have hm := MFr_tr m2 a5
    have hr0 := hr
    obtain ⟨_, _, _, _, g1, g2, _⟩ := hr0
    have r1 : Rw (mI (Ih h) I 16) R := by rw [mI_hi (by decide)]; exact g1
    have r2 : Rw (I' 15) R := by rw [a6 15 (by decide) (by decide) (by decide) (by decide) (by decide), sV_ne (by decide)]; exact g2
    unfold fm_K_numberOf fm_M_numberOf
    rw [find_d hh, c_ob1, bnd_eq, isHeat_eq m1.1 hh hc.1.2.2.1, c_ob1, if_neg (show ¬ (1 : Int32) = 0 from by decide), a1, c_ob2]
    rcases q_first (p := q_ro (Wh h) (q_Ab (Wh h) (nh h) (uh h) (lh h) (bh h)) R) (q_pop (Wh h)) with hy | ⟨v, v1, v2, v3⟩
    · obtain ⟨kI, kJ, k1, k2, k3, k4, _⟩ := load_d hc
      have r1' : Rw (kI 16) R := by rw [k3.1]; exact r1
      rw [allows_yes (HK_Hx hc.1) r1 hy, c_ob1, if_neg (show ¬ (1 : Int32) = 0 from by decide), k1, c_ob2, numberOfRow_eq (HK_Hx k2.1) (d_Ct hW) k4.2.2 r1' hy, c_ob1, mnum_yes (MS_Mx hW a2) (d_Ct hW) a3 r2 hy, c_ob4, if_pos rfl]
      exact ⟨_, kI, kJ, I', J', rfl, rfl, Rel_read O hr hh hp k2 k3 a4 hm⟩
    · obtain ⟨⟨z1, z2, z3⟩, hz⟩ := mnum_no (MS_Mx hW a2) (d_Ct hW) a3 r2 v1 v2 v3
      rw [allows_no (HK_Hx hc.1) r1 v1 v2 v3, c_ob1, if_pos rfl, hz, c_ob4, if_neg (by decide)]
      exact ⟨_, _, _, I', J', rfl, rfl, Rel_read O hr hh hp hc (cs_0 hc) a4 hm⟩
  · intro pr I J Ih Jh IM JM O hr p0 hn
    refine ⟨-1, sV IM 0 0, JM, ?_, ?_, Rel_none hr 0 rfl rfl⟩
    · unfold fm_K_numberOf_n; rw [find_n, c_ob1]
    · unfold fm_M_numberOf; rw [bnd_eq, isHeat_no (Rel_no1 hr hn 0), c_ob1, if_pos rfl]
theorem mpairs_d {IM : IS} {JM : JS} {h W n : Nat} {u l : Nat → Nat} {bk : Nat → Bool} (hh : h < 12) (hp : MP IM JM h W n u l bk) : ∃ I' J', fm_M_pairs (nI h) IM JM = some (I', J') ∧ MS I' W n u l bk ∧ (∀ i, i < 256 → i / 16 ≠ i % 16 → J' 2 i = lN (q_AH W (q_Ab W n u l bk) (dT W n u l bk) (dF W n u l bk) (i / 16) (i % 16))) ∧ MP I' J' h W n u l bk ∧ MFr h IM JM I' J' := by
  have hW := MR_W hp.1
  obtain ⟨I', J1, a1, a2, a3, a4, a5, _⟩ := mcount_d hh hp
  obtain ⟨J2, b1, b2, b3⟩ := mpclear_eq J1
  have hM2 : Mc J2 W (dT W n u l bk) (dF W n u l bk) := fun t ht => by rw [b3 0 (by decide), b3 1 (by decide)]; exact a3 t ht
  obtain ⟨J3, c1, c2, c3⟩ := mpairs_eq (MS_Mx hW a2) (d_Ct hW) hM2 b2
  have e0 : J3 0 = J1 0 := by rw [c3 0 (by decide), b3 0 (by decide)]
  have e1 : J3 1 = J1 1 := by rw [c3 1 (by decide), b3 1 (by decide)]
  refine ⟨I', J3, ?_, a2, c2, MP_0 a4 (fun _ _ _ => rfl) e0 e1, MFr_tr a5 (MFr_0 (fun _ _ _ _ => rfl) e0 e1)⟩
  unfold fm_M_pairs
  rw [a1, c_ob2, b1, c_ob3, c1, c_ob3]
theorem ok_ask : Ok_ask Rel := by
  constructor
  · intro pr I J Ih Jh IM JM O ⟨Wh, nh, uh, lh, bh, R, D, hr⟩ p0 p1 h hh e hp
    subst e
    have hc := RD_CS hr hh hp
    have hW := hc.1.1.1.2.1
    obtain ⟨m1, m2⟩ := RD_MP hr hh hp 0
    have hrel0 := Rel_read O hr hh hp hc (cs_0 hc) m1 m2
    unfold fm_K_ask fm_M_ask
    rw [find_d hh, c_ob1, bnd_eq, isHeat_eq m1.1 hh hc.1.2.2.1, c_ob1, if_neg (show ¬ (1 : Int32) = 0 from by decide)]
    by_cases h0 : p1 < 0
    · rw [if_pos h0, if_pos h0]; exact ⟨_, _, _, _, _, rfl, rfl, hrel0⟩
    · rw [if_neg h0, if_neg h0]
      by_cases h1 : p1 ≤ 1
      · obtain ⟨kI, kJ, k1, k2, k3, k4, _⟩ := tally_d hc
        obtain ⟨I', J', a1, a2, a3, a4, a5⟩ := mpairs_d hh m1
        have hrel := Rel_read O hr hh hp k2 k3 a4 (MFr_tr m2 a5)
        rw [if_pos h1, if_pos h1, k1, c_ob2, evenest_eq k2.1.1.1.1 hW (HK_3 k2.1) d_BW k4, c_ob1, a1, c_ob2, mask_eq a2.1 hW (MS_3 hW a2) a3, c_ob4]
        rcases q_eo_1 (op := q_open (Wh h) (q_B (Wh h) (nh h) (uh h) (lh h) (bh h))) (g := q_gap2 (Wh h) (q_Ab (Wh h) (nh h) (uh h) (lh h) (bh h)) (dT (Wh h) (nh h) (uh h) (lh h) (bh h)) (dF (Wh h) (nh h) (uh h) (lh h) (bh h))) 16 (Nat.le_refl _) with q | ⟨p, hp', q⟩
        · rw [q, if_pos rfl, if_neg (by decide)]; exact ⟨_, kI, kJ, I', J', rfl, rfl, hrel⟩
        · rw [q, if_neg (nI_m1 (by omega)), if_pos (nI_pos' (by omega))]
          by_cases hz : p1 = 0
          · rw [if_pos hz, if_pos hz]; exact ⟨_, kI, kJ, I', J', rfl, rfl, hrel⟩
          · rw [if_neg hz, if_neg hz]; exact ⟨_, kI, kJ, I', J', rfl, rfl, hrel⟩
      · rw [if_neg h1, if_neg h1]; exact ⟨_, _, _, _, _, rfl, rfl, hrel0⟩
  · intro pr I J Ih Jh IM JM O hr p0 p1 hn
    refine ⟨-1, sV IM 0 0, JM, ?_, ?_, Rel_none hr 0 rfl rfl⟩
    · unfold fm_K_ask_n; rw [find_n, c_ob1]
    · unfold fm_M_ask; rw [bnd_eq, isHeat_no (Rel_no1 hr hn 0), c_ob1, if_pos rfl]
theorem mwid_d {IM : IS} {JM : JS} {h W n : Nat} {u l : Nat → Nat} {bk : Nat → Bool} (hh : h < 12) (hp : MP IM JM h W n u l bk) : ∃ I' T, fm_M_widest (nI h) IM = some I' ∧ T < 2 ^ 16 ∧ I' 20 0 = nI T ∧ q_T (q_Bm (q_B W n u l bk)) (q_Lm W) (q_Lm T) ∧ MP I' JM h W n u l bk ∧ MFr h IM JM I' JM := by
  have hW := MR_W hp.1
  obtain ⟨I1, a1, a2, a3, a4, _⟩ := mset_d hh hp
  obtain ⟨x, T, I', b1, b2, b3, b4, b5⟩ := mwid_eq (Bm := q_B W n u l bk) (I := sV I1 20 0) (by rw [sV_ne (by decide)]; exact a2.1) hW (fun a ha => by rw [sV_ne (by decide)]; exact MS_3 hW a2 a ha) sV_same
  have hf : ∀ k, k ≠ 20 → I' k = I1 k := fun k hk => by rw [b5 k hk, sV_ne hk]
  refine ⟨I', T, ?_, b2, b3, b4, MP_0 a3 (fun k k1 _ => hf k (by omega)) rfl rfl, MFr_tr a4 (MFr_0 (fun k k1 _ _ => hf k (by omega)) rfl rfl)⟩
  unfold fm_M_widest
  rw [a1, c_ob1, bnd_eq, b1, c_ob4]
theorem q_T_mask {B : Nat → Nat → Bool} {S : Nat → Bool} {T C : Nat} (hT : T < 2 ^ 16) (hC : C < 2 ^ 16) (h1 : q_T B S (q_Lm T)) (h2 : q_T B S (q_Lm C)) : T = C := by
  apply mask_ext
  intro i
  by_cases hi : i < 16
  · exact q_T_eq h1 h2 i hi
  · rw [mask_hi hT (by omega), mask_hi hC (by omega)]
theorem ok_tie : Ok_tie Rel := by
  constructor
  · intro pr I J Ih Jh IM JM O ⟨Wh, nh, uh, lh, bh, R, D, hr⟩ p0 h hh e hp
    subst e
    have hc := RD_CS hr hh hp
    obtain ⟨m1, m2⟩ := RD_MP hr hh hp 0
    obtain ⟨kI, k1, k2, k3, m, f, p, C, r1, r2, r3, r4, r5, r6, r7, r8, r9⟩ := rows_d hc
    obtain ⟨I', T, a1, a2, a3, a4, a5, a6⟩ := mwid_d hh m1
    have hTC := q_T_mask a2 r6 a4 r8
    subst hTC
    refine ⟨nI (q_pop (Wh h) - m), kI, I', ?_, ?_, Rel_read O hr hh hp k2 k3 a5 (MFr_tr m2 a6)⟩
    · unfold fm_K_tie; rw [find_d hh, c_ob1, k1, c_ob1, r3]
    · unfold fm_M_tie; rw [bnd_eq, isHeat_eq m1.1 hh hc.1.2.2.1, c_ob1, if_neg (show ¬ (1 : Int32) = 0 from by decide), a1, c_ob1, a3, mbits_eq (by omega), c_ob1, r9]
  · intro pr I J Ih Jh IM JM O hr p0 hn
    refine ⟨0, sV IM 0 0, ?_, ?_, Rel_none hr 0 rfl rfl⟩
    · unfold fm_K_tie_n; rw [find_n, c_ob1]
    · unfold fm_M_tie; rw [bnd_eq, isHeat_no (Rel_no1 hr hn 0), c_ob1, if_pos rfl]
theorem ok_tieEntry : Ok_tieEntry Rel := by
  constructor
  · intro pr I J Ih Jh IM JM O ⟨Wh, nh, uh, lh, bh, R, D, hr⟩ p0 p1 h hh e hp
    subst e
    have hc := RD_CS hr hh hp
    obtain ⟨m1, m2⟩ := RD_MP hr hh hp 0
    unfold fm_K_tieEntry fm_M_tieEntry
    rw [find_d hh, c_ob1, bnd_eq, isHeat_eq m1.1 hh hc.1.2.2.1, c_ob1, if_neg (show ¬ (1 : Int32) = 0 from by decide)]
    by_cases h0 : 0 ≤ p1
    · obtain ⟨kI, k1, k2, k3, m, f, p, C, r1, r2, r3, r4, r5, r6, r7, r8, r9⟩ := rows_d hc
      obtain ⟨I', T, a1, a2, a3, a4, a5, a6⟩ := mwid_d hh m1
      have hTC := q_T_mask a2 r6 a4 r8
      subst hTC
      obtain ⟨i, hi, rfl⟩ := nI_of (Int32.not_lt.mpr h0)
      obtain ⟨r, t1, t2⟩ := tied_both (I := kI) (IM := I') a2 (by omega) r7 a3
      rw [if_pos h0, if_pos h0, k1, c_ob1, t1, c_ob1, a1, c_ob1, t2]
      exact ⟨r, kI, I', rfl, rfl, Rel_read O hr hh hp k2 k3 a5 (MFr_tr m2 a6)⟩
    · rw [if_neg h0, if_neg h0]
      exact ⟨_, _, _, rfl, rfl, Rel_read O hr hh hp hc (cs_0 hc) m1 m2⟩
  · intro pr I J Ih Jh IM JM O hr p0 p1 hn
    refine ⟨-1, sV IM 0 0, ?_, ?_, Rel_none hr 0 rfl rfl⟩
    · unfold fm_K_tieEntry_n; rw [find_n, c_ob1]
    · unfold fm_M_tieEntry; rw [bnd_eq, isHeat_no (Rel_no1 hr hn 0), c_ob1, if_pos rfl]
theorem mrows_d {IM : IS} {JM : JS} {h W n : Nat} {u l : Nat → Nat} {bk : Nat → Bool} (hh : h < 12) (hp : MP IM JM h W n u l bk) {m0 : Nat} (hm0 : m0 ≤ q_pop W) (hn0 : q_nu (q_Bm (q_B W n u l bk)) (q_Lm W) (q_Lm W) m0) : ∃ I' f p, fm_M_rows (nI h) IM = some (nI (q_pop W - m0), I') ∧ q_FO (q_Bm (q_B W n u l bk)) W m0 16 f p ∧ (∀ a, a < 16 → I' 16 a = oI (f a)) ∧ MP I' JM h W n u l bk ∧ MFr h IM JM I' JM := by
  have hW := MR_W hp.1
  obtain ⟨I1, a1, a2, a3, a4, _⟩ := mset_d hh hp
  obtain ⟨m, I2, b1, b2, b3, b4, I', f, p, x, b5, b6, b7, b8⟩ := mrows_eq (Bm := q_B W n u l bk) a2.1 hW (MS_3 hW a2) d_BW
  have hmm := q_nu_eq b3 hn0
  subst hmm
  have hf : ∀ k, k < 16 → I' k = I1 k := fun k hk => b8 k (by omega) (by omega) (by omega) (by omega)
  refine ⟨I', f, p, ?_, b6, b7, MP_0 a3 (fun k k1 _ => hf k (by omega)) rfl rfl, MFr_tr a4 (MFr_0 (fun k k1 _ _ => hf k (by omega)) rfl rfl)⟩
  unfold fm_M_rows
  rw [a1, c_ob1, b1, c_ob2, b4 8 (by decide) (by decide) (by decide) (by decide), a2.1, mbits_eq (by omega), c_ob1, bnd_eq, b5, c_ob4, pk_sub hm0]
theorem ok_chains : Ok_chains Rel := by
  constructor
  · intro pr I J Ih Jh IM JM O ⟨Wh, nh, uh, lh, bh, R, D, hr⟩ p0 h hh e hp
    subst e
    have hc := RD_CS hr hh hp
    obtain ⟨m1, m2⟩ := RD_MP hr hh hp 0
    obtain ⟨kI, k1, k2, k3, m, f, p, C, r1, r2, r3, r4, r5, r6, r7, r8, r9⟩ := rows_d hc
    obtain ⟨I', f', p', a1, a2, a3, a4, a5⟩ := mrows_d hh m1 r1 r2
    refine ⟨nI (q_pop (Wh h) - m), kI, I', ?_, ?_, Rel_read O hr hh hp k2 k3 a4 (MFr_tr m2 a5)⟩
    · unfold fm_K_chains; rw [find_d hh, c_ob1, k1, c_ob1, r3]
    · unfold fm_M_chains; rw [bnd_eq, isHeat_eq m1.1 hh hc.1.2.2.1, c_ob1, if_neg (show ¬ (1 : Int32) = 0 from by decide), a1, c_ob2]
  · intro pr I J Ih Jh IM JM O hr p0 hn
    refine ⟨0, sV IM 0 0, ?_, ?_, Rel_none hr 0 rfl rfl⟩
    · unfold fm_K_chains_n; rw [find_n, c_ob1]
    · unfold fm_M_chains; rw [bnd_eq, isHeat_no (Rel_no1 hr hn 0), c_ob1, if_pos rfl]
theorem ok_follows : Ok_follows Rel := by
  constructor
  · intro pr I J Ih Jh IM JM O ⟨Wh, nh, uh, lh, bh, R, D, hr⟩ p0 p1 h hh e hp
    subst e
    have hc := RD_CS hr hh hp
    have hW := hc.1.1.1.2.1
    obtain ⟨m1, m2⟩ := RD_MP hr hh hp 0
    unfold fm_K_follows fm_M_follows
    rw [find_d hh, c_ob1, has_eq hc.1.1.1.1 hW, c_ob1, bnd_eq, there_eq m1.1 hh, c_ob1]
    cases hb1 : hb (Wh h) p1 with
    | false => rw [bI_pos, bI_pos]; exact ⟨_, _, _, rfl, rfl, Rel_read O hr hh hp hc (cs_0 hc) m1 m2⟩
    | true =>
      obtain ⟨a, ha, rfl, wa⟩ := hb_t hb1
      obtain ⟨kI, k1, k2, k3, m, f, p, C, r1, r2, r3, r4, r5, r6, r7, r8, r9⟩ := rows_d hc
      obtain ⟨I', f', p', a1, a2, a3, a4, a5⟩ := mrows_d hh m1 r1 r2
      have hff := (q_FO_eq r4 a2 16 (Nat.le_refl _)).1 a ha
      rw [bI_neg, bI_neg, k1, c_ob1, c_in ha (by decide), c_gr, c_cl (by omega), r5 a ha, a1, c_ob2, c_gr, a3 a ha, hff]
      exact ⟨_, kI, I', rfl, rfl, Rel_read O hr hh hp k2 k3 a4 (MFr_tr m2 a5)⟩
  · intro pr I J Ih Jh IM JM O hr p0 p1 hn
    refine ⟨-1, sV IM 0 0, ?_, ?_, Rel_none hr 0 rfl rfl⟩
    · unfold fm_K_follows_n; rw [find_n, c_ob1]
    · unfold fm_M_follows; rw [bnd_eq, there_no (Rel_no1 hr hn 0), c_ob1, if_pos rfl]
