/-! Calls that count orders -/
theorem hb_0 {W : Nat} {x : Int32} (h : hb W x = true) : ∃ a, a < 16 ∧ x = nI a ∧ W.testBit a = true := hb_t h
theorem mc_0 {J : JS} {W n : Nat} {u l : Nat → Nat} {bk : Nat → Bool} (hW : W < 2 ^ 16) (h : Mc J W (dT W n u l bk) (dF W n u l bk)) : J 1 0 = lN (dF W n u l bk 0) := by
  apply (h 0 (Nat.zero_le _)).2
  rw [(d_Ct hW).1.2.2.1]; decide
theorem z_cl : (0 : Int32).toNatClampNeg = 0 := by decide
theorem z_in : inB (0 : Int32) 65536 = true := by decide
theorem ok_orders : Ok_orders Rel := by
  constructor
  · intro pr I J Ih Jh IM JM O ⟨Wh, nh, uh, lh, bh, R, D, hr⟩ p0 h hh e hp
    subst e
    have hc := RD_CS hr hh hp
    obtain ⟨m1, m2⟩ := RD_MP hr hh hp 0
    obtain ⟨kI, kJ, k1, k2, k3⟩ := total_d hc
    obtain ⟨I', J', a1, a2, a3, a4, a5, _⟩ := mcount_d hh m1
    refine ⟨lN (dF (Wh h) (nh h) (uh h) (lh h) (bh h) 0), kI, kJ, I', J', ?_, ?_, Rel_read O hr hh hp k2 k3 a4 (MFr_tr m2 a5)⟩
    · unfold fm_K_orders; rw [find_d hh, c_ob1, k1, c_ob3]
    · unfold fm_M_orders
      rw [bnd_eq, isHeat_eq m1.1 hh hc.1.2.2.1, c_ob1, if_neg (show ¬ (1 : Int32) = 0 from by decide), a1, c_ob2, z_in, c_gr, z_cl, mc_0 hc.1.1.1.2.1 a3]
  · intro pr I J Ih Jh IM JM O hr p0 hn
    refine ⟨0, sV IM 0 0, JM, ?_, ?_, Rel_none hr 0 rfl rfl⟩
    · unfold fm_K_orders_n; rw [find_n, c_ob1]
    · unfold fm_M_orders; rw [bnd_eq, isHeat_no (Rel_no1 hr hn 0), c_ob1, if_pos rfl]
theorem ix_r {a r : Nat} : nI a * (16 : Int32) + nI (r + 1) - 1 = nI (16 * a + r) := by
  rw [c_lit 16, pk_mul, nI_add, show a * 16 + (r + 1) = (16 * a + r) + 1 by omega, nI_pred]
theorem rank_of {x : Int32} (h1 : ¬ x < 1) (h2 : x ≤ 16) : ∃ r, r < 16 ∧ x = nI (r + 1) := by
  have h0 : ¬ x < 0 := fun q => h1 (Int32.lt_trans q (by decide))
  obtain ⟨j, hj, rfl⟩ := nI_of h0
  have a1 : ¬ j < 1 := fun q => h1 (nI_lt (b := 1) q (by decide))
  have a2 : j ≤ 16 := (nI_leI (b := 16) (by omega) (by omega)).mp h2
  exact ⟨j - 1, by omega, by rw [show j - 1 + 1 = j by omega]⟩
theorem i_le0 {x : Int32} : x ≤ 0 ↔ x < 1 := by
  rw [Int32.le_iff_toInt_le, Int32.lt_iff_toInt_lt]
  show x.toInt ≤ 0 ↔ x.toInt < 1
  omega
theorem i_ge17 {x : Int32} : (17 : Int32) ≤ x ↔ ¬ x ≤ 16 := by
  rw [Int32.le_iff_toInt_le, Int32.le_iff_toInt_le]
  show 17 ≤ x.toInt ↔ ¬ x.toInt ≤ 16
  omega
theorem mrank_d {IM : IS} {JM : JS} {h W n : Nat} {u l : Nat → Nat} {bk : Nat → Bool} (hh : h < 12) (hp : MP IM JM h W n u l bk) {a r : Nat} (ha : a < 16) (hr : r < 16) : ∃ I' J', fm_M_rank (nI h) (nI a) (nI (r + 1)) IM JM = some (lN (q_ST W (q_Ab W n u l bk) (dT W n u l bk) (dF W n u l bk) a r), I', J') ∧ MP I' J' h W n u l bk ∧ MFr h IM JM I' J' ∧ J' 1 0 = lN (dF W n u l bk 0) := by
  have hW := MR_W hp.1
  obtain ⟨I', J', a1, a2, a3, a4, a5, _⟩ := mcount_d hh hp
  refine ⟨I', J', ?_, a4, a5, mc_0 hW a3⟩
  unfold fm_M_rank
  rw [a1, c_ob2, mrank_eq (MS_Mx hW a2) (d_Ct hW) a3 ha hr, c_ob3]
theorem ok_atRank : Ok_atRank Rel := by
  constructor
  · intro pr I J Ih Jh IM JM O ⟨Wh, nh, uh, lh, bh, R, D, hr⟩ p0 p1 p2 h hh e hp
    subst e
    have hc := RD_CS hr hh hp
    have hW := hc.1.1.1.2.1
    obtain ⟨m1, m2⟩ := RD_MP hr hh hp 0
    have hrel0 := Rel_read O hr hh hp hc (cs_0 hc) m1 m2
    unfold fm_K_atRank fm_M_atRank
    rw [find_d hh, c_ob1, has_eq hc.1.1.1.1 hW, c_ob1, bnd_eq, there_eq m1.1 hh, c_ob1]
    cases hb1 : hb (Wh h) p1 with
    | false => rw [bI_pos, bI_pos]; exact ⟨_, _, _, _, _, rfl, rfl, hrel0⟩
    | true =>
      rw [bI_neg, bI_neg]
      by_cases h1 : p2 < 1
      · rw [if_pos h1, if_pos (i_le0.mpr h1)]; exact ⟨_, _, _, _, _, rfl, rfl, hrel0⟩
      · rw [if_neg h1, if_neg (fun q => h1 (i_le0.mp q))]
        by_cases h2 : p2 ≤ 16
        · rw [if_pos h2, if_neg (fun q => i_ge17.mp q h2)]
          obtain ⟨r, hr16, rfl⟩ := rank_of h1 h2
          obtain ⟨a, ha, rfl, _⟩ := hb_t hb1
          obtain ⟨kI, kJ, k1, k2, k3, k4, _⟩ := tally_d hc
          obtain ⟨I', J', a1, a2, a3, _⟩ := mrank_d hh m1 ha hr16
          rw [k1, c_ob2, ix_r, c_in (by omega) (by decide), c_gr, c_cl (by omega), a1, c_ob3, k4.2.1 _ (by omega), show (16 * a + r) / 16 = a by omega, show (16 * a + r) % 16 = r by omega]
          exact ⟨_, kI, kJ, I', J', rfl, rfl, Rel_read O hr hh hp k2 k3 a2 (MFr_tr m2 a3)⟩
        · rw [if_neg h2, if_pos (i_ge17.mpr h2)]; exact ⟨_, _, _, _, _, rfl, rfl, hrel0⟩
  · intro pr I J Ih Jh IM JM O hr p0 p1 p2 hn
    refine ⟨0, sV IM 0 0, JM, ?_, ?_, Rel_none hr 0 rfl rfl⟩
    · unfold fm_K_atRank_n; rw [find_n, c_ob1]
    · unfold fm_M_atRank; rw [bnd_eq, there_no (Rel_no1 hr hn 0), c_ob1, if_pos rfl]
theorem ok_before : Ok_before Rel := by
  constructor
  · intro pr I J Ih Jh IM JM O ⟨Wh, nh, uh, lh, bh, R, D, hr⟩ p0 p1 p2 h hh e hp
    subst e
    have hc := RD_CS hr hh hp
    have hW := hc.1.1.1.2.1
    obtain ⟨m1, m2⟩ := RD_MP hr hh hp 0
    have hrel0 := Rel_read O hr hh hp hc (cs_0 hc) m1 m2
    unfold fm_K_before fm_M_before
    rw [find_d hh, c_ob1, has_eq hc.1.1.1.1 hW, c_ob1, bnd_eq, there_eq m1.1 hh, c_ob1]
    cases hb1 : hb (Wh h) p1 with
    | false => rw [bI_pos, bI_pos]; exact ⟨_, _, _, _, _, rfl, rfl, hrel0⟩
    | true =>
      rw [bI_neg, bI_neg, has_eq hc.1.1.1.1 hW, c_ob1, there_eq m1.1 hh, c_ob1]
      cases hb2 : hb (Wh h) p2 with
      | false => rw [bI_pos, bI_pos]; exact ⟨_, _, _, _, _, rfl, rfl, hrel0⟩
      | true =>
        rw [bI_neg, bI_neg]
        by_cases he : p1 = p2
        · rw [if_pos he, if_pos he]; exact ⟨_, _, _, _, _, rfl, rfl, hrel0⟩
        · rw [if_neg he, if_neg he]
          obtain ⟨a, ha, rfl, wa⟩ := hb_t hb1
          obtain ⟨b, hb', rfl, wb⟩ := hb_t hb2
          have hab : a ≠ b := fun q => he (by rw [q])
          obtain ⟨kI, kJ, k1, k2, k3, k4, _⟩ := tally_d hc
          obtain ⟨I', J', a1, a2, a3, a4, a5, _⟩ := mcount_d hh m1
          have e1 : (16 * a + b) / 16 = a := by omega
          have e2 : (16 * a + b) % 16 = b := by omega
          rw [k1, c_ob2, c_16, c_in (by omega) (by decide), c_gr, c_cl (by omega), a1, c_ob2, mbefore_eq (MS_Mx hW a2) (d_Ct hW) a3 ha hb' wb, c_ob3, k4.2.2 (16 * a + b) (by omega) (by rw [e1, e2]; exact hab) (by rw [e1]; exact wa) (by rw [e2]; exact wb), e1, e2]
          exact ⟨_, kI, kJ, I', J', rfl, rfl, Rel_read O hr hh hp k2 k3 a4 (MFr_tr m2 a5)⟩
  · intro pr I J Ih Jh IM JM O hr p0 p1 p2 hn
    refine ⟨0, sV IM 0 0, JM, ?_, ?_, Rel_none hr 0 rfl rfl⟩
    · unfold fm_K_before_n; rw [find_n, c_ob1]
    · unfold fm_M_before; rw [bnd_eq, there_no (Rel_no1 hr hn 0), c_ob1, if_pos rfl]
theorem mmean_eq {IM : IS} {JM : JS} {h W n : Nat} {u l : Nat → Nat} {bk : Nat → Bool} (hh : h < 12) (hp : MP IM JM h W n u l bk) {a : Nat} (ha : a < 16) : ∃ I' J', iter (fun z : Int64 × Int32 × IS × JS => fm_M_meanRank_B22 (nI h) (nI a) z.1 z.2.1 z.2.2.1 z.2.2.2) FU ((0 : Int64), (1 : Int32), IM, JM) = some (1, lN (q_mr W (q_Ab W n u l bk) (dT W n u l bk) (dF W n u l bk) a 16), nI 17, I', J') ∧ MP I' J' h W n u l bk ∧ MFr h IM JM I' J' ∧ J' 1 0 = lN (dF W n u l bk 0) := by
  obtain ⟨⟨y, x, I', J'⟩, e1, e2, e3, e4, e5⟩ := iter_for (step := fun z : Int64 × Int32 × IS × JS => fm_M_meanRank_B22 (nI h) (nI a) z.1 z.2.1 z.2.2.1 z.2.2.2) (z0 := ((0 : Int64), (1 : Int32), IM, JM))
    (fun k z => z = (lN (q_mr W (q_Ab W n u l bk) (dT W n u l bk) (dF W n u l bk) a k), nI (k + 1), z.2.2.1, z.2.2.2) ∧ MP z.2.2.1 z.2.2.2 h W n u l bk ∧ MFr h IM JM z.2.2.1 z.2.2.2 ∧ (0 < k → z.2.2.2 1 0 = lN (dF W n u l bk 0))) 16 (by decide) (by
      intro k ⟨y, x, I1, J1⟩ hk ⟨e, h2, h3, _⟩
      have ey : y = lN (q_mr W (q_Ab W n u l bk) (dT W n u l bk) (dF W n u l bk) a k) := congrArg (fun z => z.1) e
      have ex : x = nI (k + 1) := congrArg (fun z => z.2.1) e
      subst ey ex
      replace h2 : MP I1 J1 h W n u l bk := h2
      replace h3 : MFr h IM JM I1 J1 := h3
      obtain ⟨I2, J2, a1, a2, a3, a4⟩ := mrank_d hh h2 ha hk
      refine ⟨(lN (q_mr W (q_Ab W n u l bk) (dT W n u l bk) (dF W n u l bk) a (k + 1)), nI (k + 1 + 1), I2, J2), ?_, rfl, a2, MFr_tr h3 a3, fun _ => a4⟩
      show fm_M_meanRank_B22 (nI h) (nI a) (lN (q_mr W (q_Ab W n u l bk) (dT W n u l bk) (dF W n u l bk) a k)) (nI (k + 1)) I1 J1 = _
      unfold fm_M_meanRank_B22
      rw [if_neg (show ¬ (17 : Int32) ≤ nI (k + 1) from nI_ge (b := 17) (by omega) (by decide)), a1, c_ob3, bnd_eq, bnd_eq, c_1, nI_l (by omega), lN_mul, lN_add]
      rfl) (by
      intro ⟨y, x, I1, J1⟩ ⟨e, _⟩
      have ex : x = nI 17 := congrArg (fun z => z.2.1) e
      subst ex
      show fm_M_meanRank_B22 (nI h) (nI a) y (nI 17) I1 J1 = _
      unfold fm_M_meanRank_B22
      rw [if_pos (by decide)]) ⟨rfl, hp, MFr_0 (fun _ _ _ _ => rfl) rfl rfl, fun q => absurd q (by decide)⟩
  have ey : y = lN (q_mr W (q_Ab W n u l bk) (dT W n u l bk) (dF W n u l bk) a 16) := congrArg (fun z => z.1) e2
  have ex : x = nI 17 := congrArg (fun z => z.2.1) e2
  subst ey ex
  exact ⟨I', J', e1, e3, e4, e5 (by decide)⟩
theorem ok_meanRank : Ok_meanRank Rel := by
  constructor
  · intro pr I J Ih Jh IM JM O ⟨Wh, nh, uh, lh, bh, R, D, hr⟩ p0 p1 p2 h hh e hp
    subst e
    have hc := RD_CS hr hh hp
    have hW := hc.1.1.1.2.1
    obtain ⟨m1, m2⟩ := RD_MP hr hh hp 0
    have hrel0 := Rel_read O hr hh hp hc (cs_0 hc) m1 m2
    unfold fm_K_meanRank fm_M_meanRank
    rw [find_d hh, c_ob1, has_eq hc.1.1.1.1 hW, c_ob1, bnd_eq, there_eq m1.1 hh, c_ob1]
    cases hb1 : hb (Wh h) p1 with
    | false => rw [bI_pos, bI_pos]; exact ⟨_, _, _, _, _, rfl, rfl, hrel0⟩
    | true =>
      obtain ⟨a, ha, rfl, wa⟩ := hb_t hb1
      obtain ⟨kI, kJ, k1, k2, k3, k4, _⟩ := tally_d hc
      obtain ⟨I', J', a1, a2, a3, a4⟩ := mmean_eq hh m1 ha
      have hlt := d_lt (n := nh h) (u := uh h) (l := lh h) (bk := bh h) hW
      have hpos := d_pos hW hc.1.2.1
      obtain ⟨g, g1, g2, g3, g4⟩ := euclid_eq (q_mr_lt (d_Ct (n := nh h) (u := uh h) (l := lh h) (bk := bh h) hW) ha wa) (show dF (Wh h) (nh h) (uh h) (lh h) (bh h) 0 < 2 ^ 63 by omega) hpos
      have hg0 : ¬ lN g = 0 := l_ne0 g2 (by omega)
      have hrel := Rel_read O hr hh hp k2 k3 a2 (MFr_tr m2 a3)
      rw [bI_neg, bI_neg, k1, c_ob2, sumRanks_eq k4.2.1 ha, c_ob1, k4.1, a1, c_ob5, z_in, c_gr, z_cl, a4, g4, c_ob1]
      unfold fm_K_inLowestTerms
      rw [g3, c_ob1, decide_eq_true hg0]
      simp only [c_gr]
      by_cases h2 : p2 = 0
      · rw [if_pos h2, if_pos h2, c_ob1]; exact ⟨_, kI, kJ, I', J', rfl, rfl, hrel⟩
      · rw [if_neg h2, if_neg h2, c_ob1]; exact ⟨_, kI, kJ, I', J', rfl, rfl, hrel⟩
  · intro pr I J Ih Jh IM JM O hr p0 p1 p2 hn
    refine ⟨0, sV IM 0 0, JM, ?_, ?_, Rel_none hr 0 rfl rfl⟩
    · unfold fm_K_meanRank_n; rw [find_n, c_ob1]
    · unfold fm_M_meanRank; rw [bnd_eq, there_no (Rel_no1 hr hn 0), c_ob1, if_pos rfl]
