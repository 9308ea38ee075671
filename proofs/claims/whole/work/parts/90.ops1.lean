/-! Calls that only read: reasons, settled pairs, counts of a heat -/
theorem cs_0 {I : IS} {J : JS} {h W n : Nat} {u l : Nat → Nat} {bk : Nat → Bool} (hc : CS I J h W n u l bk) : CF h I J I J := CF_refl hc.2.2.1 hc.2.2.2
theorem ok_whyLast : Ok_whyLast Rel := by
  intro pr I J Ih Jh IM JM O hr _
  have hr' := hr
  obtain ⟨Wh, nh, uh, lh, bh, R, D, _, _, _, _, _, _, _, g4, g5, _⟩ := hr'
  refine ⟨I 19 0, sV IM 0 0, rfl, ?_, Rel_none hr 0 rfl rfl⟩
  unfold fm_M_whyLast
  rw [bnd_eq, sV_ne (by decide), g5, g4]
theorem ok_why : Ok_why Rel := by
  intro pr I J Ih Jh IM JM O hr p0
  have hr' := hr
  obtain ⟨Wh, nh, uh, lh, bh, R, D, _, _, _, _, _, _, g3, g4, g5, g6⟩ := hr'
  have key : ∃ r, fm_K_why p0 I = some r ∧ fm_M_why p0 IM = some (r, sV IM 0 0) := by
    unfold fm_K_why fm_M_why
    rw [bnd_eq, sV_ne (by decide), sV_ne (by decide), g4, g5]
    by_cases h0 : p0 < 0
    · rw [if_pos h0, if_pos h0]; exact ⟨_, rfl, rfl⟩
    · rw [if_neg h0, if_neg h0]
      obtain ⟨j, hj, rfl⟩ := nI_of h0
      by_cases hD : j < D
      · rw [if_neg (nI_ge hD (by omega)), if_pos (nI_lt hD (by omega)), c_in (by omega) (by decide), c_gr, c_gr, c_cl (by omega), g6 j hD]
        exact ⟨_, rfl, rfl⟩
      · rw [if_pos (nI_le (by omega) (by omega)), if_neg (nI_nlt (by omega) (by omega))]
        exact ⟨_, rfl, rfl⟩
  obtain ⟨r, k1, k2⟩ := key
  exact ⟨r, sV IM 0 0, k1, k2, Rel_none hr 0 rfl rfl⟩
theorem if_bI (b : Bool) : (if bI b = 0 then some (0 : Int32) else some 1) = some (bI b) := by cases b <;> rfl
theorem msettled_d {IM : IS} {JM : JS} {h W n : Nat} {u l : Nat → Nat} {bk : Nat → Bool} (hh : h < 12) (hp : MP (sV IM 0 0) JM h W n u l bk) (x y : Int32) : ∃ I', fm_M_settled (nI h) x y IM = some (bI (hb2 W (q_B W n u l bk) x y), I') ∧ MP I' JM h W n u l bk ∧ MFr h (sV IM 0 0) JM I' JM ∧ (hb2 W (q_B W n u l bk) x y = true → MS I' W n u l bk) := by
  have hW := MR_W hp.1
  unfold fm_M_settled
  rw [bnd_eq, there_eq hp.1 hh, c_ob1]
  cases hx : hb W x with
  | false =>
    have e : hb2 W (q_B W n u l bk) x y = false := by unfold hb2; rw [hx]; rfl
    rw [bI_pos, e]
    exact ⟨_, rfl, hp, MFr_0 (fun _ _ _ _ => rfl) rfl rfl, fun q => by cases q⟩
  | true =>
    rw [bI_neg, there_eq hp.1 hh, c_ob1]
    cases hy : hb W y with
    | false =>
      have e : hb2 W (q_B W n u l bk) x y = false := by unfold hb2; rw [hx, hy]; rfl
      rw [bI_pos, e]
      exact ⟨_, rfl, hp, MFr_0 (fun _ _ _ _ => rfl) rfl rfl, fun q => by cases q⟩
    | true =>
      rw [bI_neg]
      obtain ⟨I', a1, a2, a3, a4, _⟩ := mset_d hh hp
      obtain ⟨a, ha, rfl, _⟩ := hb_t hx
      obtain ⟨b, hb', rfl, _⟩ := hb_t hy
      have h9 := MS_3 hW a2 a ha
      rw [a1, c_ob1, c_in ha (by decide), c_gr, c_cl (by omega), h9.1]
      have e : hb2 W (q_B W n u l bk) (nI a) (nI b) = (q_B W n u l bk a).testBit b := hb2_in W _ ha hb' d_BW
      rw [e]
      refine ⟨I', ?_, a3, a4, fun _ => a2⟩
      have h92 := h9.2
      cases hB : (q_B W n u l bk a).testBit b with
      | false => rw [if_neg (fun q => by rw [(m_bit1 (by omega) (by omega)).mp q] at hB; cases hB)]; rfl
      | true => rw [if_pos ((m_bit1 (by omega) (by omega)).mpr hB)]; rfl
theorem csettled_d {I : IS} {J : JS} {h W n : Nat} {u l : Nat → Nat} {bk : Nat → Bool} (hc : CS I J h W n u l bk) (x y : Int32) : fm_H_isAbove x y I = some (bI (hb2 W (q_B W n u l bk) x y)) := isAbove_eq hc.1.1.1.1 hc.1.1.1.2.1 (HK_3 hc.1) x y
theorem ok_settled : Ok_settled Rel := by
  constructor
  · intro pr I J Ih Jh IM JM O ⟨Wh, nh, uh, lh, bh, R, D, hr⟩ p0 p1 p2 h hh e hp
    subst e
    have hc := RD_CS hr hh hp
    obtain ⟨m1, m2⟩ := RD_MP hr hh hp 0
    obtain ⟨I', a1, a2, a3, _⟩ := msettled_d hh m1 p1 p2
    refine ⟨_, I', ?_, a1, Rel_read O hr hh hp hc (cs_0 hc) a2 (MFr_tr m2 a3)⟩
    unfold fm_K_settled
    rw [find_d hh, c_ob1, csettled_d hc, c_ob1, if_bI]
  · intro pr I J Ih Jh IM JM O hr p0 p1 p2 hn
    refine ⟨0, sV IM 0 0, ?_, ?_, Rel_none hr 0 rfl rfl⟩
    · unfold fm_K_settled_n; rw [find_n, c_ob1]
    · unfold fm_M_settled
      rw [bnd_eq, there_no (Rel_no1 hr hn 0), c_ob1, if_pos rfl]
theorem ok_direct : Ok_direct Rel := by
  constructor
  · intro pr I J Ih Jh IM JM O ⟨Wh, nh, uh, lh, bh, R, D, hr⟩ p0 p1 p2 h hh e hp
    subst e
    have hc := RD_CS hr hh hp
    obtain ⟨m1, m2⟩ := RD_MP hr hh hp 0
    obtain ⟨I', a1, a2, a3, a4⟩ := msettled_d hh m1 p1 p2
    have hrel := Rel_read O hr hh hp hc (cs_0 hc) a2 (MFr_tr m2 a3)
    unfold fm_K_direct fm_M_direct
    rw [find_d hh, c_ob1, csettled_d hc, c_ob1, a1, c_ob2]
    cases hb : hb2 (Wh h) (q_B (Wh h) (nh h) (uh h) (lh h) (bh h)) p1 p2 with
    | false => rw [bI_pos, bI_pos]; exact ⟨_, I', rfl, rfl, hrel⟩
    | true =>
      have hms := a4 hb
      unfold hb2 at hb
      obtain ⟨b1, b2⟩ := Bool.and_eq_true_iff.1 hb
      obtain ⟨b3, _⟩ := Bool.and_eq_true_iff.1 b2
      clear b2
      obtain ⟨a, ha, rfl, _⟩ := hb_t b1
      obtain ⟨b, hb', rfl, _⟩ := hb_t b3
      rw [bI_neg, bI_neg, c_in ha (by decide), c_in hb' (by decide), c_gr, c_gr, c_gr, c_gr, c_cl (by omega), c_cl (by omega), (hc.1.1.2 a ha).1, (hc.1.1.2 b hb').2, (hms.2 a ha).1, (hms.2 b hb').2]
      by_cases q : nI (q_B (Wh h) (nh h) (uh h) (lh h) (bh h) a) &&& nI (q_Ab (Wh h) (nh h) (uh h) (lh h) (bh h) b) = 0
      · rw [if_pos q, if_pos q]; exact ⟨_, I', rfl, rfl, hrel⟩
      · rw [if_neg q, if_neg q]; exact ⟨_, I', rfl, rfl, hrel⟩
  · intro pr I J Ih Jh IM JM O hr p0 p1 p2 hn
    refine ⟨0, sV IM 0 0, ?_, ?_, Rel_none hr 0 rfl rfl⟩
    · unfold fm_K_direct_n; rw [find_n, c_ob1]
    · unfold fm_M_direct fm_M_settled
      rw [bnd_eq, there_no (Rel_no1 hr hn 0), c_ob1, if_pos rfl, c_ob2, if_pos rfl]
theorem mcnt2_eq {I : IS} {h W n : Nat} {u l : Nat → Nat} {bk : Nat → Bool} (hm : MR I h W n u l bk) (hh : h < 12) : iter (fun z : Int32 × Int32 => fm_M_count_B60 (nI h) (nI 2) I z.1 z.2) FU ((0 : Int32), (0 : Int32)) = some (1, nI (q_cn (q_inf W u l bk) n), nI n) := by
  have hn := hm.2.2.1
  apply iter_st (fun k => (nI (q_cn (q_inf W u l bk) k), nI k)) n 0 (by omega) rfl
  · intro k hk
    show fm_M_count_B60 (nI h) (nI 2) I (nI (q_cn (q_inf W u l bk) k)) (nI k) = _
    unfold fm_M_count_B60
    rw [c_in hh (by decide), c_gr, c_cl (by omega), hm.2.1, if_neg (nI_ge hk (by omega)), if_pos (show nI 2 = 2 from rfl), minForce_eq hm hh hk, c_ob1, c_1, c_1]
    simp only [bnd_eq]
    have e : q_cn (q_inf W u l bk) (k + 1) = q_cn (q_inf W u l bk) k + q_b (q_inf W u l bk k) := rfl
    rw [e]
    cases q_inf W u l bk k with
    | false => rw [bI_pos, c_0]; rfl
    | true => rw [bI_neg]; rfl
  · show fm_M_count_B60 (nI h) (nI 2) I (nI (q_cn (q_inf W u l bk) n)) (nI n) = _
    unfold fm_M_count_B60
    rw [c_in hh (by decide), c_gr, c_cl (by omega), hm.2.1, if_pos (nI_le (Nat.le_refl _) (by omega))]
theorem mcnt3_eq {I : IS} {B : Nat → Nat} (h9 : ∀ a, a < 16 → I 9 a = nI (B a) ∧ B a < 2 ^ 16) : iter (fun z : Int32 × Int32 => fm_M_count_B103 (nI 3) I z.1 z.2) FU ((0 : Int32), (0 : Int32)) = some (1, nI (q_sum (fun a => q_pop (B a)) 16), nI 16) := by
  apply iter_st (fun k => (nI (q_sum (fun a => q_pop (B a)) k), nI k)) 16 0 (by omega) rfl
  · intro k hk
    have h92 := (h9 k hk).2
    show fm_M_count_B103 (nI 3) I (nI (q_sum (fun a => q_pop (B a)) k)) (nI k) = _
    unfold fm_M_count_B103
    rw [if_neg (n16 hk), if_pos (show nI 3 = 3 from rfl), c_in hk (by decide), c_gr, c_cl (by omega), (h9 k hk).1, mbits_eq (by omega), c_ob1, bnd_eq, bnd_eq, nI_add, c_1]
    rfl
  · show fm_M_count_B103 (nI 3) I (nI (q_sum (fun a => q_pop (B a)) 16)) (nI 16) = _
    unfold fm_M_count_B103
    rw [if_pos (by decide)]
theorem ok_count : Ok_count Rel := by
  constructor
  · intro pr I J Ih Jh IM JM O ⟨Wh, nh, uh, lh, bh, R, D, hr⟩ p0 p1 h hh e hp
    subst e
    have hc := RD_CS hr hh hp
    obtain ⟨m1, m2⟩ := RD_MP hr hh hp 0
    have hrel0 := Rel_read O hr hh hp hc (cs_0 hc) m1 m2
    unfold fm_K_count fm_M_count
    rw [bnd_eq]
    by_cases h0 : p1 < 0
    · rw [if_pos h0, if_pos h0]; exact ⟨_, _, rfl, rfl, hrel0⟩
    · rw [if_neg h0, if_neg h0]
      by_cases h3 : p1 ≤ 3
      · rw [if_pos h3, if_pos h3, find_d hh, c_ob1, isHeat_eq m1.1 hh hc.1.2.2.1, c_ob1, if_neg (show ¬ (1 : Int32) = 0 from by decide)]
        obtain ⟨I', a1, a2, a3, a4, a5⟩ := mset_d hh m1
        have hrel := Rel_read O hr hh hp hc (cs_0 hc) a3 (MFr_tr m2 a4)
        have hW := hc.1.1.1.2.1
        rw [a1, c_ob1]
        obtain ⟨j, hj, rfl⟩ := nI_of h0
        have hj3 : j ≤ 3 := (nI_leI (a := j) (b := 3) (by omega) (by omega)).mp h3
        have c0 : (nI j = 0) = (j = 0) := c_eq (b := 0) (by omega) (by decide)
        have c1 : (nI j = 1) = (j = 1) := c_eq (b := 1) (by omega) (by decide)
        have c2 : (nI j = 2) = (j = 2) := c_eq (b := 2) (by omega) (by decide)
        match j, hj3, c0, c1, c2 with
        | 0, _, _, _, _ =>
          rw [if_pos (show nI 0 = 0 from rfl), if_pos (show nI 0 = 0 from rfl), size_eq hc.1.1.1.1 hW, c_ob1, a2.1, mbits_eq (by omega), c_ob1]
          exact ⟨_, _, rfl, rfl, hrel⟩
        | 1, _, _, _, _ =>
          rw [if_neg (show ¬ nI 1 = 0 from by decide), if_neg (show ¬ nI 1 = 0 from by decide), if_pos (show nI 1 = 1 from rfl), if_pos (show nI 1 = 1 from rfl), c_in hh (by decide), c_gr, c_cl (by omega), a3.1.2.1]
          exact ⟨_, _, by rw [hc.1.1.1.2.2.1], rfl, hrel⟩
        | 2, _, _, _, _ =>
          rw [if_neg (show ¬ nI 2 = 0 from by decide), if_neg (show ¬ nI 2 = 0 from by decide), if_neg (show ¬ nI 2 = 1 from by decide), if_neg (show ¬ nI 2 = 1 from by decide), if_pos (show nI 2 = 2 from rfl), vif_eq hc.1.1.1, c_ob1, mcnt2_eq a3.1 hh, c_ob3]
          refine ⟨_, I', rfl, ?_, hrel⟩
          unfold fm_M_count_j100
          rw [iter_st (fun _ => (nI (q_cn (q_inf (Wh h) (uh h) (lh h) (bh h)) (nh h)), (0 : Int32))) 0 0 (by decide) rfl (fun k hk => absurd hk (Nat.not_lt_zero _)) (z := (nI (q_cn (q_inf (Wh h) (uh h) (lh h) (bh h)) (nh h)), (0 : Int32))) (by
            show fm_M_count_B103 (nI 2) I' _ 0 = _
            unfold fm_M_count_B103
            rw [if_neg (by decide), if_neg (by decide)])]
          rfl
        | 3, _, _, _, _ =>
          rw [if_neg (show ¬ nI 3 = 0 from by decide), if_neg (show ¬ nI 3 = 0 from by decide), if_neg (show ¬ nI 3 = 1 from by decide), if_neg (show ¬ nI 3 = 1 from by decide), if_neg (show ¬ nI 3 = 2 from by decide), pairs_eq (HK_3 hc.1), c_ob1]
          rw [iter_st (z0 := ((0 : Int32), (0 : Int32))) (fun _ => ((0 : Int32), (0 : Int32))) 0 0 (by decide) rfl (fun k hk => absurd hk (Nat.not_lt_zero _)) (z := ((0 : Int32), (0 : Int32))) (by
            show fm_M_count_B60 (nI h) (nI 3) I' 0 0 = _
            unfold fm_M_count_B60
            rw [c_in hh (by decide), c_gr, if_neg (show ¬ nI 3 = 2 from by decide)]
            split <;> rfl)]
          rw [c_ob3]
          refine ⟨_, I', rfl, ?_, hrel⟩
          unfold fm_M_count_j100
          rw [mcnt3_eq (MS_3 hW a2)]
          rfl
      · rw [if_neg h3, if_neg h3]; exact ⟨_, _, rfl, rfl, hrel0⟩
  · intro pr I J Ih Jh IM JM O hr p0 p1 hn
    unfold fm_K_count_n fm_M_count
    rw [bnd_eq]
    by_cases h0 : p1 < 0
    · rw [if_pos h0, if_pos h0]; exact ⟨_, _, rfl, rfl, Rel_none hr 0 rfl rfl⟩
    · rw [if_neg h0, if_neg h0]
      by_cases h3 : p1 ≤ 3
      · rw [if_pos h3, if_pos h3, find_n, c_ob1, isHeat_no (Rel_no1 hr hn 0), c_ob1, if_pos rfl]; exact ⟨_, _, rfl, rfl, Rel_none hr 0 rfl rfl⟩
      · rw [if_neg h3, if_neg h3]; exact ⟨_, _, rfl, rfl, Rel_none hr 0 rfl rfl⟩
