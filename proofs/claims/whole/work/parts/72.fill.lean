/-! The class's tally -/
def q_fS (W : Nat) (A : Nat → Nat) (T F : Nat → Nat) (a r s : Nat) : Nat := q_b (q_mc W A s a && Nat.beq (q_pop s) r) * (T s * F (s ||| 2 ^ a))
def q_fA (W : Nat) (A : Nat → Nat) (T F : Nat → Nat) (a b s : Nat) : Nat := q_b (q_mc W A s a && (W.testBit b && !(s.testBit b))) * (T s * F (s ||| 2 ^ a))
theorem add_eq {a rest : Nat} (ha : a < 16) (hr : rest < 2 ^ 16) (w : Int64) (J : JS) : ∃ J', fm_T_add (nI a) (nI rest) w J = some J' ∧ (∀ i, i < 256 → J' 2 i = if i / 16 = a ∧ a < i % 16 ∧ rest.testBit (i % 16) = true then J 2 i + w else J 2 i) ∧ (∀ k, k ≠ 2 → J' k = J k) := by
  unfold fm_T_add
  obtain ⟨J', a1, a2, a3⟩ := for2s (fm_T_add_B5 (nI a) (nI rest) w) (fun b z => (∀ i, i < 256 → z 2 i = if i / 16 = a ∧ a < i % 16 ∧ i % 16 < b ∧ rest.testBit (i % 16) = true then J 2 i + w else J 2 i) ∧ (∀ k, k ≠ 2 → z k = J k)) (a + 1) 16 (by omega) (by decide) (I0 := J) ⟨fun i hi => by rw [if_neg (by omega)], fun _ _ => rfl⟩ (by
    intro b J1 hb1 hb ⟨b1, b2⟩
    cases hrb : rest.testBit b with
    | false =>
      refine ⟨J1, ?_, ?_, b2⟩
      · unfold fm_T_add_B5
        rw [if_neg (n16 hb), if_pos ((m_bit0 (by omega) (by omega)).2 hrb), bnd_eq, c_1]
      · intro i hi
        rw [b1 i hi]
        by_cases q : i / 16 = a ∧ a < i % 16 ∧ i % 16 < b ∧ rest.testBit (i % 16) = true
        · rw [if_pos q, if_pos ⟨q.1, q.2.1, by omega, q.2.2.2⟩]
        · rw [if_neg q, if_neg]
          intro q'
          apply q
          refine ⟨q'.1, q'.2.1, ?_, q'.2.2.2⟩
          have : i % 16 ≠ b := by intro e; rw [e, hrb] at q'; cases q'.2.2.2
          omega
    | true =>
      have hidx : a * 16 + b < 256 := by omega
      refine ⟨sJ J1 2 (a * 16 + b) (J1 2 (a * 16 + b) + w), ?_, ?_, ?_⟩
      · unfold fm_T_add_B5
        rw [if_neg (n16 hb), if_neg (fun q => by have := (m_bit0 (by omega) (by omega)).1 q; rw [hrb] at this; cases this), show nI a * (16 : Int32) + nI b = nI (a * 16 + b) by rw [c_lit 16, pk_mul, nI_add], c_in hidx (by decide), c_gr, c_gr, c_cl (by omega), bnd_eq, bnd_eq, c_1]
      · intro i hi
        by_cases e : i = a * 16 + b
        · subst e
          have e1 : (a * 16 + b) / 16 = a := by omega
          have e2 : (a * 16 + b) % 16 = b := by omega
          rw [sJ_same, b1 _ hi, e1, e2, if_neg (by omega), if_pos ⟨rfl, by omega, by omega, hrb⟩]
        · rw [sJ_idx e, b1 i hi]
          by_cases q : i / 16 = a ∧ a < i % 16 ∧ i % 16 < b ∧ rest.testBit (i % 16) = true
          · rw [if_pos q, if_pos ⟨q.1, q.2.1, by omega, q.2.2.2⟩]
          · rw [if_neg q, if_neg]
            intro q'
            apply q
            exact ⟨q'.1, q'.2.1, by omega, q'.2.2.2⟩
      · intro k hk; rw [sJ_ne hk]; exact b2 k hk) (fun _ _ => rfl)
  refine ⟨J', ?_, ?_, a3⟩
  · rw [bnd_eq, c_1, a1, c_ob3]
  · intro i hi
    rw [a2 i hi]
    by_cases q : i / 16 = a ∧ a < i % 16 ∧ rest.testBit (i % 16) = true
    · rw [if_pos q, if_pos ⟨q.1, q.2.1, by omega, q.2.2⟩]
    · rw [if_neg q, if_neg]
      intro q'; exact q ⟨q'.1, q'.2.1, q'.2.2.2⟩
theorem behind_eq {I : IS} {W : Nat} {B A : Nat → Nat} {T F : Nat → Nat} (hx : Cx I W B A) (hc : Ct W A T F) {s : Nat} (hs : q_sub s W) (hT : 0 < T s) {J : JS} (h3 : ∀ t, q_sub t W → J 3 t = lN (T t)) (h4 : ∀ t, q_sub t W → 0 < T t → J 4 t = lN (F t)) (h1 : ∀ i, i < 256 → J 1 i = lN (q_sum (q_fS W A T F (i / 16) (i % 16)) s)) (h2 : ∀ i, i < 256 → i / 16 < i % 16 → J 2 i = lN (q_sum (q_fA W A T F (i / 16) (i % 16)) s)) : ∃ J', fm_L_fillBehind (nI s) I J = some J' ∧ (∀ i, i < 256 → J' 1 i = lN (q_sum (q_fS W A T F (i / 16) (i % 16)) (s + 1))) ∧ (∀ i, i < 256 → i / 16 < i % 16 → J' 2 i = lN (q_sum (q_fA W A T F (i / 16) (i % 16)) (s + 1))) ∧ (∀ k, k ≠ 1 → k ≠ 2 → J' k = J k) := by
  obtain ⟨h5, hW, hb, hBW, hA⟩ := hx
  have hs16 : s < 65536 := q_sub_lt (n := 16) hW hs
  obtain ⟨rd, r1, r2, r3⟩ := ready_mc hb h5 hW hBW hA s
  have hdl : dif W s < 2 ^ 16 := Nat.lt_of_le_of_lt (dif_le _ _) hW
  have hp : q_pop s ≤ 16 := q_pop_16 s
  obtain ⟨J', a1, a2, a3, a4⟩ := for2 (fm_L_fillBehind_B26 (nI s) (nI (q_pop s)) (nI (dif W s)) (nI rd)) (fun m z => (∀ i, i < 256 → z 1 i = lN (q_sum (q_fS W A T F (i / 16) (i % 16)) s + q_b (decide (i / 16 < m)) * q_fS W A T F (i / 16) (i % 16) s)) ∧ (∀ i, i < 256 → i / 16 < i % 16 → z 2 i = lN (q_sum (q_fA W A T F (i / 16) (i % 16)) s + q_b (decide (i / 16 < m)) * q_fA W A T F (i / 16) (i % 16) s)) ∧ (∀ k, k ≠ 1 → k ≠ 2 → z k = J k)) 16 (by decide) (I0 := J) ⟨fun i hi => by rw [h1 i hi, decide_eq_false (Nat.not_lt_zero _)]; congr 1; show _ = _ + 0 * _; omega, fun i hi hlt => by rw [h2 i hi hlt, decide_eq_false (Nat.not_lt_zero _)]; congr 1; show _ = _ + 0 * _; omega, fun _ _ _ => rfl⟩ (by
    intro a J1 ha ⟨b1, b2, b3⟩
    have same : ∀ i, i / 16 ≠ a → decide (i / 16 < a + 1) = decide (i / 16 < a) := by
      intro i q
      by_cases q' : i / 16 < a
      · rw [decide_eq_true q', decide_eq_true (by omega)]
      · rw [decide_eq_false q', decide_eq_false (by omega)]
    cases hm : q_mc W A s a with
    | false =>
      refine ⟨J1, ?_, ?_, ?_, b3⟩
      · unfold fm_L_fillBehind_B26
        rw [if_neg (n16 ha), if_pos ((m_bit0 (by omega) (by omega)).2 (by rw [r3, hm])), bnd_eq, c_1]
      · intro i hi
        rw [b1 i hi]
        by_cases q : i / 16 = a
        · have : q_fS W A T F (i / 16) (i % 16) s = 0 := by unfold q_fS; rw [q, hm, Bool.false_and]; exact Nat.zero_mul _
          rw [this, Nat.mul_zero, Nat.mul_zero]
        · rw [same i q]
      · intro i hi hlt
        rw [b2 i hi hlt]
        by_cases q : i / 16 = a
        · have : q_fA W A T F (i / 16) (i % 16) s = 0 := by unfold q_fA; rw [q, hm, Bool.false_and]; exact Nat.zero_mul _
          rw [this, Nat.mul_zero, Nat.mul_zero]
        · rw [same i q]
    | true =>
      have hsub2 := q_sub_or hs (q_mc_sub s a hm).2
      have hlt2 : s ||| 2 ^ a < 65536 := q_sub_lt (n := 16) hW hsub2
      have hsne : s ≠ W := by
        intro e; subst e
        have := q_mc_sub s a hm
        rw [this.1] at this; cases this.2
      have hpl : q_pop s < 16 := by
        have := q_sub_pop_lt hW hs hsne
        have := q_pop_16 W
        omega
      have hidx : a * 16 + q_pop s < 256 := by omega
      have g3 : J1 3 s = lN (T s) := by rw [b3 3 (by decide) (by decide)]; exact h3 s hs
      have g4 : J1 4 (s ||| 2 ^ a) = lN (F (s ||| 2 ^ a)) := by rw [b3 4 (by decide) (by decide)]; exact h4 _ hsub2 (q_T_on hc.1 hs16 ha hm hT)
      generalize hJ2 : sJ J1 1 (a * 16 + q_pop s) (J1 1 (a * 16 + q_pop s) + lN (T s * F (s ||| 2 ^ a))) = J2
      obtain ⟨J3, c1, c2, c3⟩ := add_eq ha hdl (lN (T s * F (s ||| 2 ^ a))) J2
      refine ⟨J3, ?_, ?_, ?_, ?_⟩
      · unfold fm_L_fillBehind_B26
        rw [if_neg (n16 ha), if_neg (fun q => by have := (m_bit0 (by omega) (by omega)).1 q; rw [r3, hm] at this; cases this), c_in hs16 (by decide), c_gr, c_shl (by omega), m_or, c_in hlt2 (by decide), c_gr, c_cl (show s < 2147483648 by omega), c_cl (show s ||| 2 ^ a < 2147483648 by omega), g3, g4, lN_mul, bnd_eq, show nI a * (16 : Int32) + nI (q_pop s) = nI (a * 16 + q_pop s) by rw [c_lit 16, pk_mul, nI_add], c_in hidx (by decide), c_gr, c_gr, c_cl (show a * 16 + q_pop s < 2147483648 by omega), bnd_eq, hJ2, c1, c_ob1, bnd_eq, c_1]
      · intro i hi
        rw [c3 1 (by decide), ← hJ2]
        by_cases e : i = a * 16 + q_pop s
        · subst e
          have e1 : (a * 16 + q_pop s) / 16 = a := by omega
          have e2 : (a * 16 + q_pop s) % 16 = q_pop s := by omega
          rw [sJ_same, b1 _ hi, lN_add, e1, e2, decide_eq_false (Nat.lt_irrefl _), decide_eq_true (Nat.lt_succ_self _)]
          congr 1
          unfold q_fS
          rw [hm, q_beq_self]
          show _ + 0 * _ + _ = _ + 1 * (1 * _)
          omega
        · rw [sJ_idx e, b1 i hi]
          by_cases q : i / 16 = a
          · have : q_fS W A T F (i / 16) (i % 16) s = 0 := by
              unfold q_fS
              rw [q_beq_ne (show q_pop s ≠ i % 16 by omega), Bool.and_false]; exact Nat.zero_mul _
            rw [this, Nat.mul_zero, Nat.mul_zero]
          · rw [same i q]
      · intro i hi hlt
        have e0 : J2 2 i = J1 2 i := by rw [← hJ2, sJ_ne (by decide)]
        rw [c2 i hi, e0, b2 i hi hlt]
        by_cases q : i / 16 = a
        · rw [q, decide_eq_false (Nat.lt_irrefl _), decide_eq_true (Nat.lt_succ_self _)]
          have e3 : (dif W s).testBit (i % 16) = (W.testBit (i % 16) && !(s.testBit (i % 16))) := dif_bit (by omega) _
          cases hr : (dif W s).testBit (i % 16) with
          | true =>
            rw [if_pos ⟨rfl, by omega, rfl⟩, lN_add]
            congr 1
            have : q_fA W A T F a (i % 16) s = T s * F (s ||| 2 ^ a) := by
              unfold q_fA
              rw [hm, ← e3, hr]; exact Nat.one_mul _
            rw [this]
            show _ + 0 * _ + _ = _ + 1 * _
            omega
          | false =>
            rw [if_neg (fun q' => by cases q'.2.2)]
            have : q_fA W A T F a (i % 16) s = 0 := by
              unfold q_fA
              rw [← e3, hr, Bool.and_false]; exact Nat.zero_mul _
            rw [this, Nat.mul_zero, Nat.mul_zero]
        · rw [if_neg (fun q' => q q'.1), same i q]
      · intro k q1 q2
        rw [c3 k q2, ← hJ2, sJ_ne q1]; exact b3 k q1 q2) (fun _ _ => rfl)
  refine ⟨J', ?_, ?_, ?_, a4⟩
  · unfold fm_L_fillBehind
    rw [bitCount_eq hs16, c_ob1, bnd_eq, r1, c_ob1, h5, m_dif, a1, c_ob3]
  · intro i hi
    rw [a2 i hi, decide_eq_true (by omega)]
    congr 1
    show _ + 1 * _ = _ + _
    omega
  · intro i hi hlt
    rw [a3 i hi hlt, decide_eq_true (by omega)]
    congr 1
    show _ + 1 * _ = _ + _
    omega
