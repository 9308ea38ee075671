/-! The reference's sums over all sets -/
theorem mbits_eq {w : Nat} (hw : w < 2147483648) : fm_M_bits (nI w) = some (nI (q_pop w)) := by
  unfold fm_M_bits
  rw [iter_st (step := fun z : Int32 × Int32 => fm_M_bits_B4 (nI w) z.1 z.2) (fun k => (nI (q_cn (fun i => w.testBit i) k), nI k)) 16 0 (z := (nI (q_pop w), nI 16)) (z0 := ((0 : Int32), (0 : Int32))) (by decide) rfl (by
    intro k hk
    show fm_M_bits_B4 (nI w) _ (nI k) = _
    unfold fm_M_bits_B4
    rw [if_neg (n16 hk), m_bit (by omega) (by omega), bnd_eq, bnd_eq, nI_add, c_1]
    have e1 : w / 2 ^ k % 2 = q_b (w.testBit k) := by
      rw [Nat.testBit_eq_decide_div_mod_eq]
      rcases Nat.mod_two_eq_zero_or_one (w / 2 ^ k) with h | h <;> rw [h] <;> rfl
    rw [e1]; rfl) (by
    show fm_M_bits_B4 (nI w) _ (nI 16) = _
    rfl)]
  rfl
theorem mrank_eq {I : IS} {J : JS} {W : Nat} {A : Nat → Nat} {T F : Nat → Nat} (hx : Mx I W A) (hc : Ct W A T F) (hM : Mc J W T F) {a r : Nat} (ha : a < 16) (hr : r < 16) : iter (fun z : Int64 × Int32 => fm_M_rank_B11 (nI a) (nI (r + 1)) I J z.1 z.2) FU ((0 : Int64), (0 : Int32)) = some (1, lN (q_ST W A T F a r), nI (W + 1)) := by
  obtain ⟨h8, hW, h10⟩ := id hx
  obtain ⟨y, a1, a2⟩ := for2r (fm_M_rank_B11 (nI a) (nI (r + 1)) I J) (fun s y => y = lN (q_sum (q_fS W A T F a r) s)) (W + 1) (by omega) (I0 := (0 : Int64)) l_0 (by
    intro s y hs hy
    subst hy
    have hs16 : s < 65536 := by omega
    have hTs := (hM s (by omega)).1
    have hTb := hc.2.1 s
    refine ⟨_, ?_, rfl⟩
    unfold fm_M_rank_B11
    rw [h8, if_neg (nI_nlt (by omega) (by omega)), c_in hs16 (by decide), c_gr, c_cl (by omega), hTs, q_sum_s]
    by_cases e : T s = 0
    · rw [if_pos ((l_cmp0' (by omega)).2 e), bnd_eq, c_1, show q_fS W A T F a r s = 0 by unfold q_fS; rw [e, Nat.zero_mul, Nat.mul_zero]]; rfl
    · have hsub : q_sub s W := by
        apply Classical.byContradiction
        intro q; exact e (hc.2.2.2 s q)
      have hp := q_pop_16 s
      rw [if_neg (fun q => e ((l_cmp0' (by omega)).1 q)), mbits_eq (by omega), c_ob1, nI_pred]
      have hq : (nI (q_pop s) = nI r) ↔ q_pop s = r := nI_eq (by omega) (by omega)
      by_cases e2 : q_pop s = r
      · rw [if_pos (hq.2 e2), mmay_eq h8 hW h10 ha (by omega), c_ob1]
        cases hm : q_mc W A s a with
        | false =>
          rw [bI_pos, bnd_eq, c_1, show q_fS W A T F a r s = 0 by unfold q_fS; rw [hm, Bool.false_and]; exact Nat.zero_mul _]; rfl
        | true =>
          have hsub2 := q_sub_or hsub (q_mc_sub s a hm).2
          have hle := q_sub_le hsub2
          have hlt : s ||| 2 ^ a < 65536 := by omega
          rw [bI_neg, c_shl (by omega), m_or, c_gr, c_in hlt (by decide), c_gr, c_cl (show s ||| 2 ^ a < 2147483648 by omega), (hM _ hle).2 (q_T_on hc.1 hs16 ha hm (by omega)), lN_mul, lN_add, bnd_eq, bnd_eq, c_1, show q_fS W A T F a r s = T s * F (s ||| 2 ^ a) by unfold q_fS; rw [hm, e2, q_beq_self]; exact Nat.one_mul _]
      · rw [if_neg (fun q => e2 (hq.1 q)), bnd_eq, c_1, show q_fS W A T F a r s = 0 by unfold q_fS; rw [q_beq_ne e2, Bool.and_false]; exact Nat.zero_mul _]; rfl) (by
    intro y hy
    unfold fm_M_rank_B11
    rw [h8, if_pos (nI_lt (by omega) (by omega))])
  rw [a1, a2, q_sum_top hW (fun s hs => q_fS_0 hc hs _ _)]
  rfl
theorem mbefore_eq {I : IS} {J : JS} {W : Nat} {A : Nat → Nat} {T F : Nat → Nat} (hx : Mx I W A) (hc : Ct W A T F) (hM : Mc J W T F) {a b : Nat} (ha : a < 16) (hb : b < 16) (hWb : W.testBit b = true) : iter (fun z : Int64 × Int32 => fm_M_before_B41 (nI a) (nI b) I J z.1 z.2) FU ((0 : Int64), (0 : Int32)) = some (1, lN (q_AH W A T F a b), nI (W + 1)) := by
  obtain ⟨h8, hW, h10⟩ := id hx
  obtain ⟨y, a1, a2⟩ := for2r (fm_M_before_B41 (nI a) (nI b) I J) (fun s y => y = lN (q_sum (q_fA W A T F a b) s)) (W + 1) (by omega) (I0 := (0 : Int64)) l_0 (by
    intro s y hs hy
    subst hy
    have hs16 : s < 65536 := by omega
    have hTs := (hM s (by omega)).1
    have hTb := hc.2.1 s
    refine ⟨_, ?_, rfl⟩
    unfold fm_M_before_B41
    rw [h8, if_neg (nI_nlt (by omega) (by omega)), c_in hs16 (by decide), c_gr, c_cl (by omega), hTs, q_sum_s]
    by_cases e : T s = 0
    · rw [if_pos ((l_cmp0' (by omega)).2 e), bnd_eq, c_1, show q_fA W A T F a b s = 0 by unfold q_fA; rw [e, Nat.zero_mul, Nat.mul_zero]]; rfl
    · have hsub : q_sub s W := by
        apply Classical.byContradiction
        intro q; exact e (hc.2.2.2 s q)
      rw [if_neg (fun q => e ((l_cmp0' (by omega)).1 q))]
      cases hsb : s.testBit b with
      | false =>
        rw [if_pos ((m_bit0 (by omega) (by omega)).2 hsb), mmay_eq h8 hW h10 ha (by omega), c_ob1]
        cases hm : q_mc W A s a with
        | false =>
          rw [bI_pos, bnd_eq, c_1, show q_fA W A T F a b s = 0 by unfold q_fA; rw [hm, Bool.false_and]; exact Nat.zero_mul _]; rfl
        | true =>
          have hsub2 := q_sub_or hsub (q_mc_sub s a hm).2
          have hle := q_sub_le hsub2
          have hlt : s ||| 2 ^ a < 65536 := by omega
          rw [bI_neg, c_shl (by omega), m_or, c_gr, c_in hlt (by decide), c_gr, c_cl (show s ||| 2 ^ a < 2147483648 by omega), (hM _ hle).2 (q_T_on hc.1 hs16 ha hm (by omega)), lN_mul, lN_add, bnd_eq, bnd_eq, c_1, show q_fA W A T F a b s = T s * F (s ||| 2 ^ a) by unfold q_fA; rw [hm, hWb, hsb]; exact Nat.one_mul _]
      | true =>
        rw [if_neg (fun q => by rw [(m_bit0 (by omega) (by omega)).1 q] at hsb; cases hsb), bnd_eq, c_1, show q_fA W A T F a b s = 0 by unfold q_fA; rw [hsb, Bool.not_true, Bool.and_false, Bool.and_false]; exact Nat.zero_mul _]; rfl) (by
    intro y hy
    unfold fm_M_before_B41
    rw [h8, if_pos (nI_lt (by omega) (by omega))])
  rw [a1, a2, q_sum_top hW (fun s hs => q_fA_0 hc hs _ _)]
  rfl
theorem mpadd_eq {a rest : Nat} (ha : a < 16) (hr : rest < 2147483648) (w : Int64) (J : JS) : ∃ J', iter (fun z : Int32 × JS => fm_M_pairs_B103 (nI a) w (nI rest) z.1 z.2) FU ((0 : Int32), J) = some (1, nI 16, J') ∧ (∀ i, i < 256 → J' 2 i = if i / 16 = a ∧ rest.testBit (i % 16) = true then J 2 i + w else J 2 i) ∧ (∀ k, k ≠ 2 → J' k = J k) := by
  obtain ⟨J', a1, a2, a3⟩ := for2 (fm_M_pairs_B103 (nI a) w (nI rest)) (fun b z => (∀ i, i < 256 → z 2 i = if i / 16 = a ∧ i % 16 < b ∧ rest.testBit (i % 16) = true then J 2 i + w else J 2 i) ∧ (∀ k, k ≠ 2 → z k = J k)) 16 (by decide) (I0 := J) ⟨fun i hi => by rw [if_neg (by omega)], fun _ _ => rfl⟩ (by
    intro b J1 hb ⟨b1, b2⟩
    cases hrb : rest.testBit b with
    | false =>
      refine ⟨J1, ?_, ?_, b2⟩
      · unfold fm_M_pairs_B103
        rw [if_neg (n16 hb), if_neg (fun q => by rw [(m_bit1 (by omega) (by omega)).1 q] at hrb; cases hrb), bnd_eq, c_1]
      · intro i hi
        rw [b1 i hi]
        by_cases q : i / 16 = a ∧ i % 16 < b ∧ rest.testBit (i % 16) = true
        · rw [if_pos q, if_pos ⟨q.1, by omega, q.2.2⟩]
        · rw [if_neg q, if_neg]
          intro q'
          apply q
          refine ⟨q'.1, ?_, q'.2.2⟩
          have : i % 16 ≠ b := by intro e; rw [e, hrb] at q'; cases q'.2.2
          omega
    | true =>
      have hidx : 16 * a + b < 256 := by omega
      refine ⟨sJ J1 2 (16 * a + b) (J1 2 (16 * a + b) + w), ?_, ?_, ?_⟩
      · unfold fm_M_pairs_B103
        rw [if_neg (n16 hb), if_pos ((m_bit1 (by omega) (by omega)).2 hrb), show (16 : Int32) * nI a + nI b = nI (16 * a + b) by rw [c_lit 16, pk_mul, nI_add], c_in hidx (by decide), c_gr, c_gr, c_cl (by omega), bnd_eq, bnd_eq, c_1]
      · intro i hi
        by_cases e : i = 16 * a + b
        · subst e
          have e1 : (16 * a + b) / 16 = a := by omega
          have e2 : (16 * a + b) % 16 = b := by omega
          rw [sJ_same, b1 _ hi, e1, e2, if_neg (by omega), if_pos ⟨rfl, by omega, hrb⟩]
        · rw [sJ_idx e, b1 i hi]
          by_cases q : i / 16 = a ∧ i % 16 < b ∧ rest.testBit (i % 16) = true
          · rw [if_pos q, if_pos ⟨q.1, by omega, q.2.2⟩]
          · rw [if_neg q, if_neg]
            intro q'
            apply q
            exact ⟨q'.1, by omega, q'.2.2⟩
      · intro k hk; rw [sJ_ne hk]; exact b2 k hk) (fun _ _ => rfl)
  refine ⟨J', a1, ?_, a3⟩
  intro i hi
  rw [a2 i hi]
  by_cases q : i / 16 = a ∧ rest.testBit (i % 16) = true
  · rw [if_pos q, if_pos ⟨q.1, by omega, q.2⟩]
  · rw [if_neg q, if_neg]
    intro q'; exact q ⟨q'.1, q'.2.2⟩
theorem mpin_eq {I : IS} {W : Nat} {A : Nat → Nat} {T F : Nat → Nat} (hx : Mx I W A) (hc : Ct W A T F) {s : Nat} (hs : q_sub s W) (hT : 0 < T s) {J : JS} (hM : Mc J W T F) (h2 : ∀ i, i < 256 → i / 16 ≠ i % 16 → J 2 i = lN (q_sum (q_fA W A T F (i / 16) (i % 16)) s)) : ∃ J', iter (fun z : Int32 × JS => fm_M_pairs_B50 I (nI s) z.1 z.2) FU ((0 : Int32), J) = some (1, nI 16, J') ∧ (∀ i, i < 256 → i / 16 ≠ i % 16 → J' 2 i = lN (q_sum (q_fA W A T F (i / 16) (i % 16)) (s + 1))) ∧ (∀ k, k ≠ 2 → J' k = J k) := by
  obtain ⟨h8, hW, h10⟩ := id hx
  have hs16 : s < 65536 := q_sub_lt (n := 16) hW hs
  have hsle := q_sub_le hs
  obtain ⟨J', a1, a2, a3⟩ := for2 (fm_M_pairs_B50 I (nI s)) (fun m z => (∀ i, i < 256 → i / 16 ≠ i % 16 → z 2 i = lN (q_sum (q_fA W A T F (i / 16) (i % 16)) s + q_b (decide (i / 16 < m)) * q_fA W A T F (i / 16) (i % 16) s)) ∧ (∀ k, k ≠ 2 → z k = J k)) 16 (by decide) (I0 := J) ⟨fun i hi hne => by rw [h2 i hi hne, decide_eq_false (Nat.not_lt_zero _)]; congr 1; show _ = _ + 0 * _; omega, fun _ _ => rfl⟩ (by
    intro a J1 ha ⟨b2, b3⟩
    have same : ∀ i, i / 16 ≠ a → decide (i / 16 < a + 1) = decide (i / 16 < a) := by
      intro i q
      by_cases q' : i / 16 < a
      · rw [decide_eq_true q', decide_eq_true (by omega)]
      · rw [decide_eq_false q', decide_eq_false (by omega)]
    cases hm : q_mc W A s a with
    | false =>
      refine ⟨J1, ?_, ?_, b3⟩
      · unfold fm_M_pairs_B50
        rw [if_neg (n16 ha), mmay_eq h8 hW h10 ha (by omega), c_ob1, hm, bI_pos, bnd_eq, c_1]
      · intro i hi hne
        rw [b2 i hi hne]
        by_cases q : i / 16 = a
        · have : q_fA W A T F (i / 16) (i % 16) s = 0 := by unfold q_fA; rw [q, hm, Bool.false_and]; exact Nat.zero_mul _
          rw [this, Nat.mul_zero, Nat.mul_zero]
        · rw [same i q]
    | true =>
      have hsub2 := q_sub_or hs (q_mc_sub s a hm).2
      have hle2 := q_sub_le hsub2
      have hlt2 : s ||| 2 ^ a < 65536 := by omega
      have g3 : J1 0 s = lN (T s) := by rw [b3 0 (by decide)]; exact (hM s hsle).1
      have g4 : J1 1 (s ||| 2 ^ a) = lN (F (s ||| 2 ^ a)) := by rw [b3 1 (by decide)]; exact (hM _ hle2).2 (q_T_on hc.1 hs16 ha hm hT)
      have hdl : dif (dif W s) (2 ^ a) < 2147483648 := Nat.lt_of_le_of_lt (Nat.le_trans (dif_le _ _) (dif_le _ _)) (w31 hW)
      obtain ⟨J3, c1, c2, c3⟩ := mpadd_eq ha hdl (lN (T s * F (s ||| 2 ^ a))) J1
      refine ⟨J3, ?_, ?_, fun k hk => (c3 k hk).trans (b3 k hk)⟩
      · unfold fm_M_pairs_B50
        rw [if_neg (n16 ha), mmay_eq h8 hW h10 ha (by omega), c_ob1, hm, bI_neg, c_in hs16 (by decide), c_gr, c_shl (by omega), m_or, c_in hlt2 (by decide), c_gr, c_cl (show s < 2147483648 by omega), c_cl (show s ||| 2 ^ a < 2147483648 by omega), g3, g4, lN_mul, bnd_eq, h8, m_dif, m_dif, bnd_eq, c1, c_ob3, bnd_eq, c_1]
      · intro i hi hne
        rw [c2 i hi, b2 i hi hne]
        by_cases q : i / 16 = a
        · rw [q, decide_eq_false (Nat.lt_irrefl _), decide_eq_true (Nat.lt_succ_self _)]
          have e3 : (dif (dif W s) (2 ^ a)).testBit (i % 16) = (W.testBit (i % 16) && !(s.testBit (i % 16))) := by
            rw [dif_bit (by have := dif_le W s; omega), dif_bit (by omega), q_tb2, q_beq_ne (by omega)]; simp
          cases hr : (dif (dif W s) (2 ^ a)).testBit (i % 16) with
          | true =>
            rw [if_pos ⟨rfl, rfl⟩, lN_add]
            congr 1
            have : q_fA W A T F a (i % 16) s = T s * F (s ||| 2 ^ a) := by
              unfold q_fA
              rw [hm, ← e3, hr]; exact Nat.one_mul _
            rw [this]
            show _ + 0 * _ + _ = _ + 1 * _
            omega
          | false =>
            rw [if_neg (fun q' => by cases q'.2)]
            have : q_fA W A T F a (i % 16) s = 0 := by
              unfold q_fA
              rw [← e3, hr, Bool.and_false]; exact Nat.zero_mul _
            rw [this, Nat.mul_zero, Nat.mul_zero]
        · rw [if_neg (fun q' => q q'.1), same i q]) (fun _ _ => rfl)
  refine ⟨J', a1, ?_, a3⟩
  intro i hi hne
  rw [a2 i hi hne, decide_eq_true (by omega), q_sum_s]
  congr 1
  show _ + 1 * _ = _
  omega
/-- the reference's pairs -/
theorem mpairs_eq {I : IS} {W : Nat} {A : Nat → Nat} {T F : Nat → Nat} (hx : Mx I W A) (hc : Ct W A T F) {J : JS} (hM : Mc J W T F) (h2 : ∀ i, i < 256 → J 2 i = 0) : ∃ J', iter (fun z : Int32 × JS => fm_M_pairs_B29 I z.1 z.2) FU ((0 : Int32), J) = some (1, nI (W + 1), J') ∧ (∀ i, i < 256 → i / 16 ≠ i % 16 → J' 2 i = lN (q_AH W A T F (i / 16) (i % 16))) ∧ (∀ k, k ≠ 2 → J' k = J k) := by
  obtain ⟨h8, hW, h10⟩ := id hx
  obtain ⟨J', a1, a2, a3⟩ := for2 (fm_M_pairs_B29 I) (fun s z => (∀ i, i < 256 → i / 16 ≠ i % 16 → z 2 i = lN (q_sum (q_fA W A T F (i / 16) (i % 16)) s)) ∧ (∀ k, k ≠ 2 → z k = J k)) (W + 1) (by omega) (I0 := J) ⟨fun i hi _ => by rw [h2 i hi]; exact l_0, fun _ _ => rfl⟩ (by
    intro s J1 hs ⟨b1, b2⟩
    have hs16 : s < 65536 := by omega
    have hM1 : Mc J1 W T F := fun t ht => by rw [b2 0 (by decide), b2 1 (by decide)]; exact hM t ht
    have hTs := (hM1 s (by omega)).1
    have hTb := hc.2.1 s
    by_cases e : T s = 0
    · refine ⟨J1, ?_, ?_, b2⟩
      · unfold fm_M_pairs_B29
        rw [h8, if_neg (nI_nlt (by omega) (by omega)), c_in hs16 (by decide), c_gr, c_cl (by omega), hTs, if_pos ((l_cmp0' (by omega)).2 e), bnd_eq, c_1]
      · intro i hi hne
        rw [b1 i hi hne, q_sum_s, show q_fA W A T F (i / 16) (i % 16) s = 0 by unfold q_fA; rw [e, Nat.zero_mul, Nat.mul_zero]]; rfl
    · have hsub : q_sub s W := by
        apply Classical.byContradiction
        intro q; exact e (hc.2.2.2 s q)
      obtain ⟨J3, d1, d2, d3⟩ := mpin_eq hx hc hsub (by omega) hM1 b1
      refine ⟨J3, ?_, d2, fun k hk => (d3 k hk).trans (b2 k hk)⟩
      unfold fm_M_pairs_B29
      rw [h8, if_neg (nI_nlt (by omega) (by omega)), c_in hs16 (by decide), c_gr, c_cl (by omega), hTs, if_neg (fun q => e ((l_cmp0' (by omega)).1 q)), d1, c_ob3, bnd_eq, c_1]) (by
    intro J1 _
    unfold fm_M_pairs_B29
    rw [h8, if_pos (nI_lt (by omega) (by omega))])
  refine ⟨J', a1, fun i hi hne => ?_, a3⟩
  rw [a2 i hi hne, q_sum_top hW (fun s hs => q_fA_0 hc hs _ _)]
  rfl
theorem mpclear_eq (J : JS) : ∃ J', iter (fun z : Int32 × JS => fm_M_pairs_B7 z.1 z.2) FU ((0 : Int32), J) = some (1, nI 256, J') ∧ (∀ i, i < 256 → J' 2 i = 0) ∧ (∀ k, k ≠ 2 → J' k = J k) := by
  apply for2 fm_M_pairs_B7 (fun s z => (∀ t, t < s → z 2 t = 0) ∧ (∀ k, k ≠ 2 → z k = J k)) 256 (by decide) (I0 := J) ⟨fun t ht => absurd ht (Nat.not_lt_zero _), fun _ _ => rfl⟩
  · intro s J1 hs ⟨b1, b2⟩
    refine ⟨sJ J1 2 s 0, ?_, ?_, ?_⟩
    · unfold fm_M_pairs_B7
      rw [if_neg (show ¬ (256 : Int32) ≤ nI s from nI_ge hs (by decide)), c_in hs (by decide), c_gr, c_cl (by omega), bnd_eq, bnd_eq, c_1]
    · intro t ht
      by_cases e : t = s
      · subst e; exact sJ_same
      · rw [sJ_idx e]; exact b1 t (by omega)
    · intro k q; rw [sJ_ne q]; exact b2 k q
  · intro J1 _; rfl
