/-! The reference's heat and what its settle leaves -/
/-- heat h of the reference: the size sz, the scratched ones g -/
def MR (I : IS) (h W n : Nat) (u l : Nat → Nat) (bk : Nat → Bool) : Prop :=
  (∃ sz g, I 1 h = nI sz ∧ sz ≤ 16 ∧ I 2 h = nI g ∧ g < 2 ^ 16 ∧ (0 < sz ↔ W ≠ 0) ∧ ∀ a, W.testBit a = (decide (a < sz) && !(g.testBit a))) ∧ I 3 h = nI n ∧ n ≤ 400 ∧ ∀ v, v < n → I 4 (400 * h + v) = nI (u v) ∧ I 5 (400 * h + v) = nI (l v) ∧ I 6 (400 * h + v) = bI (bk v) ∧ u v < 16 ∧ l v < 16
theorem MR_frame {I I' : IS} {h W n : Nat} {u l : Nat → Nat} {bk : Nat → Bool} (hm : MR I h W n u l bk) (h1 : I' 1 = I 1) (h2 : I' 2 = I 2) (h3 : I' 3 = I 3) (h4 : I' 4 = I 4) (h5 : I' 5 = I 5) (h6 : I' 6 = I 6) : MR I' h W n u l bk := by
  unfold MR at hm ⊢
  rw [h1, h2, h3, h4, h5, h6]; exact hm
theorem MR_W {I : IS} {h W n : Nat} {u l : Nat → Nat} {bk : Nat → Bool} (hm : MR I h W n u l bk) : W < 2 ^ 16 := by
  obtain ⟨⟨sz, g, _, h1, _, _, _, h2⟩, _⟩ := hm
  apply Nat.lt_pow_two_of_testBit
  intro i hi
  rw [h2, decide_eq_false (by omega)]; rfl
theorem n12 {h : Nat} (hh : h < 12) : ¬ (12 : Int32) ≤ nI h := nI_ge hh (by decide)
theorem there_eq {I : IS} {h W n : Nat} {u l : Nat → Nat} {bk : Nat → Bool} (hm : MR I h W n u l bk) (hh : h < 12) (x : Int32) : fm_M_there (nI h) x I = some (bI (hb W x)) := by
  obtain ⟨⟨sz, g, h1, hs, h2, hg, _, hW⟩, _⟩ := hm
  unfold fm_M_there
  rw [if_neg (nI_pos (by omega)), if_neg (n12 hh), c_in hh (by decide), c_gr, c_cl (by omega), h1, h2, c_gr]
  rcases c_ix x (n := 16) (by decide) with q | q | ⟨a, ha, rfl⟩
  · rw [if_pos q, hb_lo W q]; rfl
  · rw [if_neg (fun q' => absurd (Int32.le_trans q (Int32.le_of_lt q')) (by decide)), if_pos (Int32.le_trans (nI_le hs (by decide)) q), hb_hi W q]; rfl
  · rw [if_neg (nI_pos (by omega)), hb_in W ha, hW]
    by_cases e : sz ≤ a
    · rw [if_pos (nI_le e (by omega)), decide_eq_false (by omega)]; rfl
    · rw [if_neg (nI_ge (by omega) (by omega)), decide_eq_true (by omega)]
      cases hb : g.testBit a with
      | false => rw [if_pos ((m_bit0 (by omega) (by omega)).2 hb)]; rfl
      | true => rw [if_neg (fun q => by rw [(m_bit0 (by omega) (by omega)).1 q] at hb; cases hb)]; rfl
/-- no such heat -/
theorem there_no {I : IS} {x : Int32} (h : ∀ k, k < 12 → x = nI k → I 1 k = 0) (y : Int32) : fm_M_there x y I = some 0 := by
  unfold fm_M_there
  rcases c_ix x (n := 12) (by decide) with q | q | ⟨a, ha, rfl⟩
  · rw [if_pos q]
  · rw [if_neg (fun q' => absurd (Int32.le_trans q (Int32.le_of_lt q')) (by decide)), if_pos (show (12 : Int32) ≤ x from q)]
  · rw [if_neg (nI_pos (by omega)), if_neg (n12 ha), c_in ha (by decide), c_gr, c_cl (by omega), h a ha rfl]
    by_cases e : y < 0
    · rw [if_pos e]
    · rw [if_neg e, if_pos (Int32.not_lt.mp e)]
theorem isHeat_no {I : IS} {x : Int32} (h : ∀ k, k < 12 → x = nI k → I 1 k = 0) : fm_M_isHeat x I = some 0 := by
  unfold fm_M_isHeat
  rcases c_ix x (n := 12) (by decide) with q | q | ⟨a, ha, rfl⟩
  · rw [if_pos q]
  · rw [if_neg (fun q' => absurd (Int32.le_trans q (Int32.le_of_lt q')) (by decide)), if_pos (show (12 : Int32) ≤ x from q)]
  · rw [if_neg (nI_pos (by omega)), if_neg (n12 ha), c_in ha (by decide), c_gr, c_cl (by omega), h a ha rfl, if_pos (by decide)]
theorem isHeat_eq {I : IS} {h W n : Nat} {u l : Nat → Nat} {bk : Nat → Bool} (hm : MR I h W n u l bk) (hh : h < 12) (hW0 : W ≠ 0) : fm_M_isHeat (nI h) I = some 1 := by
  obtain ⟨⟨sz, g, h1, hs, h2, hg, h0, hW⟩, _⟩ := hm
  unfold fm_M_isHeat
  rw [if_neg (nI_pos (by omega)), if_neg (n12 hh), c_in hh (by decide), c_gr, c_cl (by omega), h1, if_neg (nI_nle (h0.2 hW0) (by omega))]
theorem m400 {h v : Nat} (hh : h < 12) (hv : v < 400) : (400 : Int32) * nI h + nI v = nI (400 * h + v) := by
  rw [c_lit 400, pk_mul, nI_add]
theorem minForce_eq {I : IS} {h W n : Nat} {u l : Nat → Nat} {bk : Nat → Bool} (hm : MR I h W n u l bk) (hh : h < 12) {v : Nat} (hv : v < n) : fm_M_inForce (nI h) (nI v) I = some (bI (q_inf W u l bk v)) := by
  have hn := hm.2.2.1
  obtain ⟨g4, g5, g6, gu, gl⟩ := hm.2.2.2 v hv
  unfold fm_M_inForce q_inf
  rw [m400 hh (by omega), bnd_eq, c_in (show 400 * h + v < 4800 by omega) (by decide), c_gr, c_cl (by omega), g4, g5, g6, there_eq hm hh, there_eq hm hh, hb_in W gu, hb_in W gl]
  cases bk v with
  | true => rfl
  | false =>
    rw [bI_pos, c_gr, c_ob1]
    cases W.testBit (u v) with
    | false => rfl
    | true =>
      rw [bI_neg, c_gr, c_ob1]
      cases W.testBit (l v) <;> rfl
/-- the bits of W below k -/
def q_lo (W : Nat) : Nat → Nat
  | 0 => 0
  | k + 1 => cond (W.testBit k) (q_lo W k ||| 2 ^ k) (q_lo W k)
theorem q_lo_bit (W : Nat) : ∀ k i, (q_lo W k).testBit i = (decide (i < k) && W.testBit i)
  | 0, i => by show (0 : Nat).testBit i = _; rw [Nat.zero_testBit]; simp
  | k + 1, i => by
    show (cond (W.testBit k) (q_lo W k ||| 2 ^ k) (q_lo W k)).testBit i = _
    have ih := q_lo_bit W k i
    by_cases e : i = k
    · subst e
      cases h : W.testBit i with
      | false => rw [cond_false, ih]; simp
      | true => rw [cond_true, q_or_bit, ih, q_beq_self]; simp
    · have e1 : decide (i < k) = decide (i < k + 1) := by
        by_cases q : i < k
        · rw [decide_eq_true q, decide_eq_true (by omega)]
        · rw [decide_eq_false q, decide_eq_false (by omega)]
      cases h : W.testBit k with
      | false => rw [cond_false, ih, e1]
      | true => rw [cond_true, q_or_bit, ih, q_beq_ne e, e1]; simp
theorem q_lo_16 {W : Nat} (hW : W < 2 ^ 16) : q_lo W 16 = W := by
  apply Nat.eq_of_testBit_eq
  intro i
  rw [q_lo_bit]
  by_cases h : i < 16
  · rw [decide_eq_true h]; rfl
  · rw [q_hi hW (by omega)]; simp
theorem mclear_eq {I : IS} {h W n : Nat} {u l : Nat → Nat} {bk : Nat → Bool} (hm : MR I h W n u l bk) (hh : h < 12) (h8 : I 8 0 = nI 0) : ∃ I', iter (fun z : Int32 × IS => fm_M_settle_B26 (nI h) z.1 z.2) FU ((0 : Int32), I) = some (1, nI 16, I') ∧ I' 8 0 = nI W ∧ (∀ j, j < 16 → I' 9 j = nI 0 ∧ I' 10 j = nI 0) ∧ (∀ k, k ≠ 8 → k ≠ 9 → k ≠ 10 → I' k = I k) := by
  obtain ⟨I', h1, h2, h3, h4⟩ := for2 (fm_M_settle_B26 (nI h)) (fun a z => z 8 0 = nI (q_lo W a) ∧ (∀ j, j < a → z 9 j = nI 0 ∧ z 10 j = nI 0) ∧ (∀ k, k ≠ 8 → k ≠ 9 → k ≠ 10 → z k = I k)) 16 (by decide) (I0 := I) ⟨h8, fun j hj => absurd hj (Nat.not_lt_zero _), fun _ _ _ _ => rfl⟩ (by
    intro a I1 ha ⟨h1, h2, h3⟩
    have hm1 : MR (sI (sI I1 9 a 0) 10 a 0) h W n u l bk := by
      apply MR_frame hm <;> rw [sI_ne (by decide), sI_ne (by decide), h3 _ (by decide) (by decide) (by decide)]
    have st : fm_M_settle_B26 (nI h) (nI a) I1 = some (0, nI (a + 1), cond (W.testBit a) (sV (sI (sI I1 9 a 0) 10 a 0) 8 (nI (q_lo W a ||| 2 ^ a))) (sI (sI I1 9 a 0) 10 a 0)) := by
      unfold fm_M_settle_B26
      rw [if_neg (n16 ha), c_in ha (by decide), c_gr, c_cl (by omega), bnd_eq, c_gr, bnd_eq, there_eq hm1 hh, c_ob1, hb_in W ha, sI_ne (k' := 8) (by decide), sI_ne (k' := 8) (by decide), h1, c_shl (by omega), m_or, bnd_eq, bnd_eq, bnd_eq, c_1]
      cases W.testBit a with
      | false => rw [bI_pos]; rfl
      | true => rw [bI_neg]; rfl
    refine ⟨_, st, ?_, ?_, ?_⟩
    · show _ = nI (cond (W.testBit a) (q_lo W a ||| 2 ^ a) (q_lo W a))
      cases W.testBit a with
      | false => rw [cond_false, cond_false, sI_ne (by decide), sI_ne (by decide)]; exact h1
      | true => rw [cond_true, cond_true]; exact sV_same
    · intro j hj
      have key : sI (sI I1 9 a 0) 10 a 0 9 j = nI 0 ∧ sI (sI I1 9 a 0) 10 a 0 10 j = nI 0 := by
        by_cases e : j = a
        · subst e
          rw [sI_same, sI_ne (by decide), sI_same]; exact ⟨rfl, rfl⟩
        · rw [sI_idx e, sI_ne (k' := 10) (by decide), sI_ne (k' := 9) (by decide), sI_idx e]; exact h2 j (by omega)
      cases W.testBit a with
      | false => exact key
      | true => rw [cond_true, sV_ne (by decide), sV_ne (by decide)]; exact key
    · intro k h8 h9 h10
      have key : sI (sI I1 9 a 0) 10 a 0 k = I k := by rw [sI_ne h10, sI_ne h9, h3 k h8 h9 h10]
      cases W.testBit a with
      | false => exact key
      | true => rw [cond_true, sV_ne h8]; exact key) (fun _ _ => rfl)
  refine ⟨I', h1, ?_, h3, h4⟩
  rw [h2, q_lo_16 (MR_W hm)]
theorem mmark_eq {I : IS} {h W n : Nat} {u l : Nat → Nat} {bk : Nat → Bool} (hm : MR I h W n u l bk) (hh : h < 12) (h9 : ∀ j, j < 16 → I 9 j = nI 0) : ∃ z, iter (fun z : Int32 × IS => fm_M_settle_B75 (nI h) z.1 z.2) FU ((0 : Int32), I) = some (1, nI n, z) ∧ (∀ j, j < 16 → z 9 j = nI (q_v W u l bk n j)) ∧ (∀ k', k' ≠ 9 → z k' = I k') := by
  have hn := hm.2.2.1
  obtain ⟨z, h1, h4, h5⟩ := for2 (fm_M_settle_B75 (nI h)) (fun v z => (∀ j, j < 16 → z 9 j = nI (q_v W u l bk v j)) ∧ (∀ k', k' ≠ 9 → z k' = I k')) n (by omega) (I0 := I) ⟨h9, fun _ _ => rfl⟩ (by
    intro v I1 hv ⟨h2, h4⟩
    have hR : MR I1 h W n u l bk := MR_frame hm (h4 1 (by decide)) (h4 2 (by decide)) (h4 3 (by decide)) (h4 4 (by decide)) (h4 5 (by decide)) (h4 6 (by decide))
    obtain ⟨g0, g1, g2, gu, gl⟩ := hR.2.2.2 v hv
    have st : fm_M_settle_B75 (nI h) (nI v) I1 = some (0, nI (v + 1), cond (q_inf W u l bk v) (sI I1 9 (u v) (nI (q_v W u l bk v (u v) ||| 2 ^ (l v)))) I1) := by
      unfold fm_M_settle_B75
      rw [c_in hh (by decide), c_gr, c_cl (by omega), hR.2.1, if_neg (nI_ge hv (by omega)), minForce_eq hR hh hv, c_ob1, m400 hh (by omega), c_in (show 400 * h + v < 4800 by omega) (by decide), c_cl (by omega), g0, g1, c_in gu (by decide), c_gr, c_gr, c_gr, c_gr, c_gr, c_cl (by omega), h2 _ gu, c_shl (by omega), m_or, bnd_eq, bnd_eq, bnd_eq, c_1]
      cases q_inf W u l bk v with
      | false => rw [bI_pos]; rfl
      | true => rw [bI_neg]; rfl
    refine ⟨_, st, ?_, ?_⟩
    · intro j hj
      show cond (q_inf W u l bk v) (sI I1 9 (u v) (nI (q_v W u l bk v (u v) ||| 2 ^ (l v)))) I1 9 j = nI (cond (q_inf W u l bk v && Nat.beq (u v) j) (q_v W u l bk v j ||| 2 ^ (l v)) (q_v W u l bk v j))
      cases q_inf W u l bk v with
      | false => exact h2 j hj
      | true =>
        rw [Bool.true_and]
        show sI I1 9 (u v) _ 9 j = _
        by_cases e : j = u v
        · subst e; rw [sI_same, q_beq_self]; rfl
        · rw [sI_idx e, q_beq_ne (fun q => e q.symm)]; exact h2 j hj
    · intro k' hk'
      show cond (q_inf W u l bk v) (sI I1 9 (u v) (nI (q_v W u l bk v (u v) ||| 2 ^ (l v)))) I1 k' = _
      cases q_inf W u l bk v with
      | false => exact h4 k' hk'
      | true => show sI I1 9 (u v) _ k' = _; rw [sI_ne hk']; exact h4 k' hk') (by
    intro I1 ⟨h2, h4⟩
    unfold fm_M_settle_B75
    rw [c_in hh (by decide), c_gr, c_cl (by omega), h4 3 (by decide), hm.2.1, if_pos (nI_le (Nat.le_refl _) (by omega))])
  exact ⟨z, h1, h4, h5⟩
theorem mleadIn_eq {I : IS} {B : Nat → Nat} {k : Nat} (hk : k < 16) (hB : ∀ j, j < 16 → B j < 2 ^ 16) (h3 : ∀ j, j < 16 → I 9 j = nI (B j)) : ∃ z, iter (fun z : Int32 × IS => fm_M_settle_B159 (nI k) z.1 z.2) FU ((0 : Int32), I) = some (1, nI 16, z) ∧ (∀ j, j < 16 → z 9 j = nI (q_ws k B j)) ∧ (∀ k', k' ≠ 9 → z k' = I k') := by
  obtain ⟨z, h1, h4, h5⟩ := for2 (fm_M_settle_B159 (nI k)) (fun a z => (∀ j, j < 16 → z 9 j = nI (if j < a then q_ws k B j else B j)) ∧ (∀ k', k' ≠ 9 → z k' = I k')) 16 (by decide) (I0 := I) ⟨fun j hj => by rw [if_neg (Nat.not_lt_zero _)]; exact h3 j hj, fun _ _ => rfl⟩ (by
    intro a I1 ha ⟨h2, h4⟩
    have e1 : I1 9 a = nI (B a) := by have := h2 a ha; rw [if_neg (Nat.lt_irrefl _)] at this; exact this
    have e2 : I1 9 k = nI (B k) := by
      have := h2 k hk
      rw [q_ws_self] at this
      split at this <;> exact this
    have st : fm_M_settle_B159 (nI k) (nI a) I1 = some (0, nI (a + 1), cond ((B a).testBit k) (sI I1 9 a (nI (B a ||| B k))) I1) := by
      unfold fm_M_settle_B159
      rw [if_neg (n16 ha), c_in ha (by decide), c_gr, c_cl (by omega), e1, c_in hk (by decide), c_cl (show k < 2147483648 by omega), e2, m_or, c_gr, c_gr, c_gr, bnd_eq, bnd_eq, bnd_eq, c_1]
      cases hb : (B a).testBit k with
      | false => rw [if_neg (fun q => by rw [(m_bit1 (by have := hB a ha; omega) (by omega)).1 q] at hb; cases hb)]; rfl
      | true => rw [if_pos ((m_bit1 (by have := hB a ha; omega) (by omega)).2 hb)]; rfl
    refine ⟨_, st, ?_, ?_⟩
    · intro j hj
      show cond ((B a).testBit k) (sI I1 9 a (nI (B a ||| B k))) I1 9 j = _
      by_cases e : j = a
      · subst e
        rw [if_pos (by omega)]
        unfold q_ws
        cases (B j).testBit k with
        | false => exact e1
        | true => show sI I1 9 j _ 9 j = _; exact sI_same
      · have e3 : (if j < a + 1 then q_ws k B j else B j) = (if j < a then q_ws k B j else B j) := by
          by_cases q : j < a
          · rw [if_pos q, if_pos (by omega)]
          · rw [if_neg q, if_neg (by omega)]
        rw [e3, ← h2 j hj]
        cases (B a).testBit k with
        | false => rfl
        | true => show sI I1 9 a _ 9 j = _; rw [sI_idx e]
    · intro k' hk'
      show cond ((B a).testBit k) (sI I1 9 a (nI (B a ||| B k))) I1 k' = _
      cases (B a).testBit k with
      | false => exact h4 k' hk'
      | true => show sI I1 9 a _ k' = _; rw [sI_ne hk']; exact h4 k' hk') (fun _ _ => rfl)
  refine ⟨z, h1, fun j hj => ?_, h5⟩
  have := h4 j hj
  rw [if_pos hj] at this
  exact this
theorem mlead_eq {I : IS} {B : Nat → Nat} (hB : ∀ j, j < 16 → B j < 2 ^ 16) (h3 : ∀ j, j < 16 → I 9 j = nI (B j)) : ∃ I', iter (fun z : Int32 × IS => fm_M_settle_B151 z.1 z.2) FU ((0 : Int32), I) = some (1, nI 16, I') ∧ (∀ j, j < 16 → I' 9 j = nI (q_wn B 16 j)) ∧ (∀ k', k' ≠ 9 → I' k' = I k') :=
  for2 fm_M_settle_B151 (fun k z => (∀ j, j < 16 → z 9 j = nI (q_wn B k j)) ∧ (∀ k', k' ≠ 9 → z k' = I k')) 16 (by decide) (I0 := I) ⟨h3, fun _ _ => rfl⟩ (by
    intro k I1 hk ⟨h2, h4⟩
    obtain ⟨I2, g1, g2, g3⟩ := mleadIn_eq (I := I1) hk (q_wn_lt hB k (by omega)) h2
    refine ⟨I2, ?_, g2, fun k' hk' => (g3 k' hk').trans (h4 k' hk')⟩
    unfold fm_M_settle_B151
    rw [if_neg (n16 hk), g1, c_ob3, bnd_eq, c_1]) (fun _ _ => rfl)
theorem mturnIn_eq {I : IS} {B : Nat → Nat} {k : Nat} (hk : k < 16) (hB : ∀ j, j < 16 → B j < 2 ^ 16) (h3 : ∀ j, j < 16 → I 9 j = nI (B j)) (h4 : ∀ j, j < 16 → I 10 j = nI (q_tr B k j)) : ∃ z, iter (fun z : Int32 × IS => fm_M_settle_B220 (nI k) z.1 z.2) FU ((0 : Int32), I) = some (1, nI 16, z) ∧ (∀ j, j < 16 → z 10 j = nI (q_tr B (k + 1) j)) ∧ (∀ k', k' ≠ 10 → z k' = I k') := by
  obtain ⟨z, h1, h5, h6⟩ := for2 (fm_M_settle_B220 (nI k)) (fun a z => (∀ j, j < 16 → z 10 j = nI (if j < a then q_tr B (k + 1) j else q_tr B k j)) ∧ (∀ k', k' ≠ 10 → z k' = I k')) 16 (by decide) (I0 := I) ⟨fun j hj => by rw [if_neg (Nat.not_lt_zero _)]; exact h4 j hj, fun _ _ => rfl⟩ (by
    intro a I1 ha ⟨h2, h5⟩
    have e1 : I1 10 a = nI (q_tr B k a) := by have := h2 a ha; rw [if_neg (Nat.lt_irrefl _)] at this; exact this
    have e2 : I1 9 k = nI (B k) := by rw [h5 9 (by decide)]; exact h3 k hk
    have st : fm_M_settle_B220 (nI k) (nI a) I1 = some (0, nI (a + 1), cond ((B k).testBit a) (sI I1 10 a (nI (q_tr B k a ||| 2 ^ k))) I1) := by
      unfold fm_M_settle_B220
      rw [if_neg (n16 ha), c_in hk (by decide), c_gr, c_cl (show k < 2147483648 by omega), e2, c_in ha (by decide), c_cl (show a < 2147483648 by omega), e1, c_shl (by omega), m_or, c_gr, c_gr, bnd_eq, bnd_eq, bnd_eq, c_1]
      cases hb : (B k).testBit a with
      | false => rw [if_neg (fun q => by rw [(m_bit1 (by have := hB k hk; omega) (by omega)).1 q] at hb; cases hb)]; rfl
      | true => rw [if_pos ((m_bit1 (by have := hB k hk; omega) (by omega)).2 hb)]; rfl
    refine ⟨_, st, ?_, ?_⟩
    · intro j hj
      show cond ((B k).testBit a) (sI I1 10 a (nI (q_tr B k a ||| 2 ^ k))) I1 10 j = _
      by_cases e : j = a
      · subst e
        rw [if_pos (by omega)]
        show _ = nI (cond ((B k).testBit j) (q_tr B k j ||| 2 ^ k) (q_tr B k j))
        cases (B k).testBit j with
        | false => exact e1
        | true => show sI I1 10 j _ 10 j = _; exact sI_same
      · have e3 : (if j < a + 1 then q_tr B (k + 1) j else q_tr B k j) = (if j < a then q_tr B (k + 1) j else q_tr B k j) := by
          by_cases q : j < a
          · rw [if_pos q, if_pos (by omega)]
          · rw [if_neg q, if_neg (by omega)]
        rw [e3, ← h2 j hj]
        cases (B k).testBit a with
        | false => rfl
        | true => show sI I1 10 a _ 10 j = _; rw [sI_idx e]
    · intro k' hk'
      show cond ((B k).testBit a) (sI I1 10 a (nI (q_tr B k a ||| 2 ^ k))) I1 k' = _
      cases (B k).testBit a with
      | false => exact h5 k' hk'
      | true => show sI I1 10 a _ k' = _; rw [sI_ne hk']; exact h5 k' hk') (fun _ _ => rfl)
  refine ⟨z, h1, fun j hj => ?_, h6⟩
  have := h5 j hj
  rw [if_pos hj] at this
  exact this
theorem mturn_eq {I : IS} {B : Nat → Nat} (hB : ∀ j, j < 16 → B j < 2 ^ 16) (h3 : ∀ j, j < 16 → I 9 j = nI (B j)) (h4 : ∀ j, j < 16 → I 10 j = nI 0) : ∃ I', iter (fun z : Int32 × IS => fm_M_settle_B212 z.1 z.2) FU ((0 : Int32), I) = some (1, nI 16, I') ∧ (∀ j, j < 16 → I' 10 j = nI (q_tr B 16 j)) ∧ (∀ k', k' ≠ 10 → I' k' = I k') :=
  for2 fm_M_settle_B212 (fun k z => (∀ j, j < 16 → z 10 j = nI (q_tr B k j)) ∧ (∀ k', k' ≠ 10 → z k' = I k')) 16 (by decide) (I0 := I) ⟨h4, fun _ _ => rfl⟩ (by
    intro k I1 hk ⟨h2, h5⟩
    obtain ⟨I2, g1, g2, g3⟩ := mturnIn_eq (I := I1) hk hB (fun j hj => by rw [h5 9 (by decide)]; exact h3 j hj) h2
    refine ⟨I2, ?_, g2, fun k' hk' => (g3 k' hk').trans (h5 k' hk')⟩
    unfold fm_M_settle_B212
    rw [if_neg (n16 hk), g1, c_ob3, bnd_eq, c_1]) (fun _ _ => rfl)
/-- the reference's tables of one heat -/
def MS (I : IS) (W n : Nat) (u l : Nat → Nat) (bk : Nat → Bool) : Prop := I 8 0 = nI W ∧ ∀ a, a < 16 → I 9 a = nI (q_B W n u l bk a) ∧ I 10 a = nI (q_Ab W n u l bk a)
theorem msettle_eq {I : IS} {h W n : Nat} {u l : Nat → Nat} {bk : Nat → Bool} (hm : MR I h W n u l bk) (hh : h < 12) (hr : I 7 0 = nI h → MS I W n u l bk) : ∃ I', fm_M_settle (nI h) I = some I' ∧ MS I' W n u l bk ∧ I' 7 0 = nI h ∧ (∀ k, k ≠ 7 → k ≠ 8 → k ≠ 9 → k ≠ 10 → k ≠ 11 → I' k = I k) ∧ ((I 7 0 = nI h ∧ I' = I) ∨ I' 11 0 = 0) := by
  unfold fm_M_settle
  by_cases e : I 7 0 = nI h
  · rw [if_pos e]
    exact ⟨I, rfl, hr e, e, fun _ _ _ _ _ _ => rfl, .inl ⟨e, rfl⟩⟩
  · rw [if_neg e]
    let I0 : IS := sV (sV (sV I 7 (nI h)) 11 0) 8 0
    have f0 : ∀ k, k ≠ 7 → k ≠ 8 → k ≠ 11 → I0 k = I k := fun k h7 h8 h11 => by
      show sV (sV (sV I 7 (nI h)) 11 0) 8 0 k = _
      rw [sV_ne h8, sV_ne h11, sV_ne h7]
    have hm0 : MR I0 h W n u l bk := MR_frame hm (f0 1 (by decide) (by decide) (by decide)) (f0 2 (by decide) (by decide) (by decide)) (f0 3 (by decide) (by decide) (by decide)) (f0 4 (by decide) (by decide) (by decide)) (f0 5 (by decide) (by decide) (by decide)) (f0 6 (by decide) (by decide) (by decide))
    obtain ⟨I1, a1, a2, a3, a4⟩ := mclear_eq hm0 hh sV_same
    have hm1 : MR I1 h W n u l bk := MR_frame hm0 (a4 1 (by decide) (by decide) (by decide)) (a4 2 (by decide) (by decide) (by decide)) (a4 3 (by decide) (by decide) (by decide)) (a4 4 (by decide) (by decide) (by decide)) (a4 5 (by decide) (by decide) (by decide)) (a4 6 (by decide) (by decide) (by decide))
    obtain ⟨I2, b1, b2, b3⟩ := mmark_eq hm1 hh (fun j hj => (a3 j hj).1)
    obtain ⟨I3, c1, c2, c3⟩ := mlead_eq (I := I2) (fun j hj => q_v_lt (n := n) (a := j) (MR_W hm)) b2
    obtain ⟨I4, d1, d2, d3⟩ := mturn_eq (I := I3) (q_wn_lt (fun j hj => q_v_lt (n := n) (a := j) (MR_W hm)) 16 (Nat.le_refl _)) c2 (fun j hj => by rw [c3 10 (by decide), b3 10 (by decide)]; exact (a3 j hj).2)
    have f4 : ∀ k, k ≠ 8 → k ≠ 9 → k ≠ 10 → I4 k = I0 k := fun k h8 h9 h10 => by rw [d3 k h10, c3 k h9, b3 k h9, a4 k h8 h9 h10]
    refine ⟨I4, ?_, ⟨?_, ?_⟩, ?_, ?_, .inr ?_⟩
    · rw [bnd_eq, bnd_eq, bnd_eq, a1, c_ob3, b1, c_ob3, c1, c_ob3, d1, c_ob3]
    · rw [d3 8 (by decide), c3 8 (by decide), b3 8 (by decide)]; exact a2
    · intro a ha
      rw [d3 9 (by decide)]
      exact ⟨c2 a ha, d2 a ha⟩
    · rw [f4 7 (by decide) (by decide) (by decide)]
      show sV (sV (sV I 7 (nI h)) 11 0) 8 0 7 0 = _
      rw [sV_ne (by decide), sV_ne (by decide)]; exact sV_same
    · intro k h7 h8 h9 h10 h11
      rw [f4 k h8 h9 h10, f0 k h7 h8 h11]
    · rw [f4 11 (by decide) (by decide) (by decide)]
      show sV (sV (sV I 7 (nI h)) 11 0) 8 0 11 0 = _
      rw [sV_ne (by decide)]; exact sV_same
