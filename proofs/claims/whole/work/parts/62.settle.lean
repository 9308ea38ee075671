/-! What settle leaves: the class's and the reference's -/
theorem leadIn_eq {I : IS} {B : Nat → Nat} {k : Nat} (hk : k < 16) (hB : ∀ j, j < 16 → B j < 2 ^ 16) (h3 : ∀ j, j < 16 → I 3 j = nI (B j)) : ∃ z, iter (fun z : Int32 × IS => fm_H_leadOn_B10 (nI k) z.1 z.2) FU ((0 : Int32), I) = some (1, nI 16, z) ∧ (∀ j, j < 16 → z 3 j = nI (q_ws k B j)) ∧ (∀ k', k' ≠ 3 → z k' = I k') := by
  obtain ⟨z, h1, h4, h5⟩ := for2 (fm_H_leadOn_B10 (nI k)) (fun a z => (∀ j, j < 16 → z 3 j = nI (if j < a then q_ws k B j else B j)) ∧ (∀ k', k' ≠ 3 → z k' = I k')) 16 (by decide) (I0 := I) ⟨fun j hj => by rw [if_neg (Nat.not_lt_zero _)]; exact h3 j hj, fun _ _ => rfl⟩ (by
    intro a I1 ha ⟨h2, h4⟩
    have e1 : I1 3 a = nI (B a) := by have := h2 a ha; rw [if_neg (Nat.lt_irrefl _)] at this; exact this
    have e2 : I1 3 k = nI (B k) := by
      have := h2 k hk
      rw [q_ws_self] at this
      split at this <;> exact this
    have st : fm_H_leadOn_B10 (nI k) (nI a) I1 = some (0, nI (a + 1), cond ((B a).testBit k) (sI I1 3 a (nI (B a ||| B k))) I1) := by
      unfold fm_H_leadOn_B10
      rw [if_neg (n16 ha), c_in ha (by decide), c_gr, c_cl (by omega), e1, holds_b (w31 (hB a ha)) (by omega), c_ob1, c_in hk (by decide), c_cl (show k < 2147483648 by omega), e2, m_or, c_gr, c_gr, c_gr, bnd_eq, bnd_eq, bnd_eq, c_1]
      cases (B a).testBit k with
      | false => rw [bI_pos]; rfl
      | true => rw [bI_neg]; rfl
    refine ⟨_, st, ?_, ?_⟩
    · intro j hj
      show cond ((B a).testBit k) (sI I1 3 a (nI (B a ||| B k))) I1 3 j = _
      by_cases e : j = a
      · subst e
        rw [if_pos (by omega)]
        unfold q_ws
        cases (B j).testBit k with
        | false => exact e1
        | true => show sI I1 3 j _ 3 j = _; exact sI_same
      · have e3 : (if j < a + 1 then q_ws k B j else B j) = (if j < a then q_ws k B j else B j) := by
          by_cases q : j < a
          · rw [if_pos q, if_pos (by omega)]
          · rw [if_neg q, if_neg (by omega)]
        rw [e3, ← h2 j hj]
        cases (B a).testBit k with
        | false => rfl
        | true => show sI I1 3 a _ 3 j = _; rw [sI_idx e]
    · intro k' hk'
      show cond ((B a).testBit k) (sI I1 3 a (nI (B a ||| B k))) I1 k' = _
      cases (B a).testBit k with
      | false => exact h4 k' hk'
      | true => show sI I1 3 a _ k' = _; rw [sI_ne hk']; exact h4 k' hk') (fun _ _ => rfl)
  refine ⟨z, h1, fun j hj => ?_, h5⟩
  have := h4 j hj
  rw [if_pos hj] at this
  exact this
theorem q_wn_lt {B : Nat → Nat} (hB : ∀ j, j < 16 → B j < 2 ^ 16) : ∀ k, k ≤ 16 → ∀ j, j < 16 → q_wn B k j < 2 ^ 16
  | 0, _ => hB
  | k + 1, hk => by
    intro j hj
    have ih := q_wn_lt hB k (by omega)
    show q_ws k (q_wn B k) j < 2 ^ 16
    unfold q_ws
    cases (q_wn B k j).testBit k with
    | false => exact ih j hj
    | true => exact Nat.or_lt_two_pow (ih j hj) (ih k (by omega))
theorem leadOn_eq {I : IS} {B : Nat → Nat} (hB : ∀ j, j < 16 → B j < 2 ^ 16) (h3 : ∀ j, j < 16 → I 3 j = nI (B j)) : ∃ I', fm_H_leadOn I = some I' ∧ (∀ j, j < 16 → I' 3 j = nI (q_wn B 16 j)) ∧ (∀ k', k' ≠ 3 → I' k' = I k') := by
  unfold fm_H_leadOn
  obtain ⟨I1, h1, h4, h5⟩ := for2 fm_H_leadOn_B2 (fun k z => (∀ j, j < 16 → z 3 j = nI (q_wn B k j)) ∧ (∀ k', k' ≠ 3 → z k' = I k')) 16 (by decide) (I0 := I) ⟨h3, fun _ _ => rfl⟩ (by
    intro k I1 hk ⟨h2, h4⟩
    obtain ⟨I2, g1, g2, g3⟩ := leadIn_eq (I := I1) hk (q_wn_lt hB k (by omega)) h2
    refine ⟨I2, ?_, g2, fun k' hk' => (g3 k' hk').trans (h4 k' hk')⟩
    unfold fm_H_leadOn_B2
    rw [if_neg (n16 hk), g1, c_ob3, bnd_eq, c_1]) (fun _ _ => rfl)
  rw [h1, c_ob3]
  exact ⟨I1, rfl, h4, h5⟩
theorem q_tr_lt (B : Nat → Nat) {k : Nat} (hk : k ≤ 16) (b : Nat) : q_tr B k b < 2 ^ 16 := by
  apply Nat.lt_pow_two_of_testBit
  intro i hi
  rw [q_tr_bit, decide_eq_false (by omega)]; rfl
theorem turnIn_eq {I : IS} {B : Nat → Nat} {k : Nat} (hk : k < 16) (hB : ∀ j, j < 16 → B j < 2 ^ 16) (h3 : ∀ j, j < 16 → I 3 j = nI (B j)) (h4 : ∀ j, j < 16 → I 4 j = nI (q_tr B k j)) : ∃ z, iter (fun z : Int32 × IS => fm_H_turn_B10 (nI k) z.1 z.2) FU ((0 : Int32), I) = some (1, nI 16, z) ∧ (∀ j, j < 16 → z 4 j = nI (q_tr B (k + 1) j)) ∧ (∀ k', k' ≠ 4 → z k' = I k') := by
  obtain ⟨z, h1, h5, h6⟩ := for2 (fm_H_turn_B10 (nI k)) (fun a z => (∀ j, j < 16 → z 4 j = nI (if j < a then q_tr B (k + 1) j else q_tr B k j)) ∧ (∀ k', k' ≠ 4 → z k' = I k')) 16 (by decide) (I0 := I) ⟨fun j hj => by rw [if_neg (Nat.not_lt_zero _)]; exact h4 j hj, fun _ _ => rfl⟩ (by
    intro a I1 ha ⟨h2, h5⟩
    have e1 : I1 4 a = nI (q_tr B k a) := by have := h2 a ha; rw [if_neg (Nat.lt_irrefl _)] at this; exact this
    have e2 : I1 3 k = nI (B k) := by rw [h5 3 (by decide)]; exact h3 k hk
    have st : fm_H_turn_B10 (nI k) (nI a) I1 = some (0, nI (a + 1), cond ((B k).testBit a) (sI I1 4 a (nI (q_tr B k a ||| 2 ^ k))) I1) := by
      unfold fm_H_turn_B10
      rw [if_neg (n16 ha), c_in hk (by decide), c_gr, c_cl (show k < 2147483648 by omega), e2, holds_b (w31 (hB k hk)) (by omega), c_ob1, c_in ha (by decide), c_cl (show a < 2147483648 by omega), e1, c_shl (by omega), m_or, c_gr, c_gr, bnd_eq, bnd_eq, bnd_eq, c_1]
      cases (B k).testBit a with
      | false => rw [bI_pos]; rfl
      | true => rw [bI_neg]; rfl
    refine ⟨_, st, ?_, ?_⟩
    · intro j hj
      show cond ((B k).testBit a) (sI I1 4 a (nI (q_tr B k a ||| 2 ^ k))) I1 4 j = _
      by_cases e : j = a
      · subst e
        rw [if_pos (by omega)]
        show _ = nI (cond ((B k).testBit j) (q_tr B k j ||| 2 ^ k) (q_tr B k j))
        cases (B k).testBit j with
        | false => exact e1
        | true => show sI I1 4 j _ 4 j = _; exact sI_same
      · have e3 : (if j < a + 1 then q_tr B (k + 1) j else q_tr B k j) = (if j < a then q_tr B (k + 1) j else q_tr B k j) := by
          by_cases q : j < a
          · rw [if_pos q, if_pos (by omega)]
          · rw [if_neg q, if_neg (by omega)]
        rw [e3, ← h2 j hj]
        cases (B k).testBit a with
        | false => rfl
        | true => show sI I1 4 a _ 4 j = _; rw [sI_idx e]
    · intro k' hk'
      show cond ((B k).testBit a) (sI I1 4 a (nI (q_tr B k a ||| 2 ^ k))) I1 k' = _
      cases (B k).testBit a with
      | false => exact h5 k' hk'
      | true => show sI I1 4 a _ k' = _; rw [sI_ne hk']; exact h5 k' hk') (fun _ _ => rfl)
  refine ⟨z, h1, fun j hj => ?_, h6⟩
  have := h5 j hj
  rw [if_pos hj] at this
  exact this
theorem turn_eq {I : IS} {B : Nat → Nat} (hB : ∀ j, j < 16 → B j < 2 ^ 16) (h3 : ∀ j, j < 16 → I 3 j = nI (B j)) (h4 : ∀ j, j < 16 → I 4 j = nI 0) : ∃ I', fm_H_turn I = some I' ∧ (∀ j, j < 16 → I' 4 j = nI (q_tr B 16 j)) ∧ (∀ k', k' ≠ 4 → I' k' = I k') := by
  unfold fm_H_turn
  obtain ⟨I1, h1, h5, h6⟩ := for2 fm_H_turn_B2 (fun k z => (∀ j, j < 16 → z 4 j = nI (q_tr B k j)) ∧ (∀ k', k' ≠ 4 → z k' = I k')) 16 (by decide) (I0 := I) ⟨h4, fun _ _ => rfl⟩ (by
    intro k I1 hk ⟨h2, h5⟩
    obtain ⟨I2, g1, g2, g3⟩ := turnIn_eq (I := I1) hk hB (fun j hj => by rw [h5 3 (by decide)]; exact h3 j hj) h2
    refine ⟨I2, ?_, g2, fun k' hk' => (g3 k' hk').trans (h5 k' hk')⟩
    unfold fm_H_turn_B2
    rw [if_neg (n16 hk), g1, c_ob3, bnd_eq, c_1]) (fun _ _ => rfl)
  rw [h1, c_ob3]
  exact ⟨I1, rfl, h5, h6⟩
theorem q_v_lt {W : Nat} {u l : Nat → Nat} {bk : Nat → Bool} {n a : Nat} (hW : W < 2 ^ 16) : q_v W u l bk n a < 2 ^ 16 := by
  apply q_sub_lt hW
  intro i hi
  obtain ⟨v, _, h2, _, h4⟩ := q_v_bit.1 hi
  rw [← h4]; exact (q_inf_W h2).2.2
theorem mark_eq {I : IS} {W n : Nat} {u l : Nat → Nat} {bk : Nat → Bool} (h : HR I W n u l bk) (h3 : ∀ j, j < 16 → I 3 j = nI 0) : ∃ z, iter (fun z : Int32 × IS => fm_H_settle_B18 z.1 z.2) FU ((0 : Int32), I) = some (1, nI n, z) ∧ (∀ j, j < 16 → z 3 j = nI (q_v W u l bk n j)) ∧ (∀ k', k' ≠ 3 → z k' = I k') := by
  have hn := h.2.2.2.1
  obtain ⟨z, h1, h4, h5⟩ := for2 fm_H_settle_B18 (fun v z => (∀ j, j < 16 → z 3 j = nI (q_v W u l bk v j)) ∧ (∀ k', k' ≠ 3 → z k' = I k')) n (by omega) (I0 := I) ⟨h3, fun _ _ => rfl⟩ (by
    intro v I1 hv ⟨h2, h4⟩
    have hR : HR I1 W n u l bk := HR_frame h (h4 0 (by decide)) (h4 1 (by decide)) (h4 2 (by decide)) (h4 5 (by decide)) (h4 6 (by decide))
    obtain ⟨g0, g1, g2, gu, gl⟩ := hR.2.2.2.2 v hv
    have st : fm_H_settle_B18 (nI v) I1 = some (0, nI (v + 1), cond (q_inf W u l bk v) (sI I1 3 (u v) (nI (q_v W u l bk v (u v) ||| 2 ^ (l v)))) I1) := by
      unfold fm_H_settle_B18
      rw [hR.2.2.1, if_neg (nI_ge hv (by omega)), inForce_eq hR hv, c_ob1, c_in (show v < 400 by omega) (by decide), c_gr, c_cl (by omega), g0, g1, c_in gu (by decide), c_gr, c_gr, c_gr, c_cl (by omega), h2 _ gu, c_shl (by omega), m_or, bnd_eq, bnd_eq, bnd_eq, c_1]
      cases q_inf W u l bk v with
      | false => rw [bI_pos]; rfl
      | true => rw [bI_neg]; rfl
    refine ⟨_, st, ?_, ?_⟩
    · intro j hj
      show cond (q_inf W u l bk v) (sI I1 3 (u v) (nI (q_v W u l bk v (u v) ||| 2 ^ (l v)))) I1 3 j = nI (cond (q_inf W u l bk v && Nat.beq (u v) j) (q_v W u l bk v j ||| 2 ^ (l v)) (q_v W u l bk v j))
      cases q_inf W u l bk v with
      | false => exact h2 j hj
      | true =>
        rw [Bool.true_and]
        show sI I1 3 (u v) _ 3 j = _
        by_cases e : j = u v
        · subst e; rw [sI_same, q_beq_self]; rfl
        · rw [sI_idx e, q_beq_ne (fun q => e q.symm)]; exact h2 j hj
    · intro k' hk'
      show cond (q_inf W u l bk v) (sI I1 3 (u v) (nI (q_v W u l bk v (u v) ||| 2 ^ (l v)))) I1 k' = _
      cases q_inf W u l bk v with
      | false => exact h4 k' hk'
      | true => show sI I1 3 (u v) _ k' = _; rw [sI_ne hk']; exact h4 k' hk') (by
    intro I1 ⟨h2, h4⟩
    unfold fm_H_settle_B18
    rw [h4 6 (by decide), h.2.2.1, if_pos (nI_le (Nat.le_refl _) (by omega))])
  exact ⟨z, h1, h4, h5⟩
/-- a heat's store with what is settled -/
def HS (I : IS) (W n : Nat) (u l : Nat → Nat) (bk : Nat → Bool) : Prop := HR I W n u l bk ∧ ∀ a, a < 16 → I 3 a = nI (q_B W n u l bk a) ∧ I 4 a = nI (q_Ab W n u l bk a)
theorem settle_eq {I : IS} {J : JS} {W n : Nat} {u l : Nat → Nat} {bk : Nat → Bool} (h : HR I W n u l bk) : ∃ I' J', fm_H_settle I J = some (I', J') ∧ HS I' W n u l bk ∧ I' 7 0 = 0 ∧ I' 8 0 = 0 ∧ J' 0 0 = 0 ∧ (∀ k, k ≠ 3 → k ≠ 4 → k ≠ 7 → k ≠ 8 → I' k = I k) ∧ (∀ k, k ≠ 0 → J' k = J k) := by
  obtain ⟨I1, a1, a2, a3⟩ := fillI_eq 3 16 0 I (by decide)
  obtain ⟨I2, b1, b2, b3⟩ := fillI_eq 4 16 0 I1 (by decide)
  have f2 : ∀ k, k ≠ 3 → k ≠ 4 → I2 k = I k := fun k h3 h4 => (b3 k h4).trans (a3 k h3)
  have hR2 : HR I2 W n u l bk := HR_frame h (f2 0 (by decide) (by decide)) (f2 1 (by decide) (by decide)) (f2 2 (by decide) (by decide)) (f2 5 (by decide) (by decide)) (f2 6 (by decide) (by decide))
  obtain ⟨I3, c1, c2, c3⟩ := mark_eq hR2 (fun j hj => by rw [b3 3 (by decide), a2 j hj]; rfl)
  obtain ⟨I4, d1, d2, d3⟩ := leadOn_eq (I := I3) (fun j hj => q_v_lt (n := n) (a := j) h.2.1) c2
  obtain ⟨I5, e1, e2, e3⟩ := turn_eq (I := I4) (q_wn_lt (fun j hj => q_v_lt (n := n) (a := j) h.2.1) 16 (Nat.le_refl _)) d2 (fun j hj => by rw [d3 4 (by decide), show I3 4 = I2 4 from c3 4 (by decide), b2 j hj]; rfl)
  refine ⟨sV (sV I5 7 0) 8 0, sL J 0 0, ?_, ?_, ?_, ?_, ?_, ?_, ?_⟩
  · unfold fm_H_settle
    rw [a1, c_ob1, b1, c_ob1, c1, c_ob3, d1, c_ob1, e1, c_ob1]
    rfl
  · have f5 : ∀ k, k ≠ 3 → k ≠ 4 → k ≠ 7 → k ≠ 8 → sV (sV I5 7 0) 8 0 k = I k := fun k h3 h4 h7 h8 => by
      rw [sV_ne h8, sV_ne h7, e3 k h4, d3 k h3, show I3 k = I2 k from c3 k h3, f2 k h3 h4]
    refine ⟨HR_frame h (f5 0 (by decide) (by decide) (by decide) (by decide)) (f5 1 (by decide) (by decide) (by decide) (by decide)) (f5 2 (by decide) (by decide) (by decide) (by decide)) (f5 5 (by decide) (by decide) (by decide) (by decide)) (f5 6 (by decide) (by decide) (by decide) (by decide)), fun a ha => ?_⟩
    rw [sV_ne (by decide), sV_ne (by decide), sV_ne (by decide), sV_ne (by decide), e3 3 (by decide)]
    exact ⟨d2 a ha, e2 a ha⟩
  · rw [sV_ne (by decide)]; exact sV_same
  · exact sV_same
  · exact sL_same
  · intro k h3 h4 h7 h8
    rw [sV_ne h8, sV_ne h7, e3 k h4, d3 k h3, show I3 k = I2 k from c3 k h3, f2 k h3 h4]
  · intro k hk; exact sL_ne hk
