/-! The class's heat in these words -/
theorem fillI_eq (k n : Nat) (x : Int32) (I : IS) (hn : n < 70000) : ∃ I', fm_A_fillI k n x I = some I' ∧ (∀ j, j < n → I' k j = x) ∧ (∀ k', k' ≠ k → I' k' = I k') := by
  unfold fm_A_fillI
  obtain ⟨z, h1, h2, h3, h4⟩ := iter_for (step := fun z : Int32 × IS => fm_A_fillI_B5 k n x (Int32.ofNat n) z.1 z.2) (fun i z => z.1 = nI i ∧ (∀ j, j < i → z.2 k j = x) ∧ (∀ k', k' ≠ k → z.2 k' = I k')) n hn (by
    intro i ⟨x1, I1⟩ hi ⟨h1, h2, h3⟩
    subst h1
    refine ⟨(nI (i + 1), sI I1 k i x), ?_, rfl, ?_, ?_⟩
    · show fm_A_fillI_B5 k n x (nI n) (nI i) I1 = _
      unfold fm_A_fillI_B5
      rw [if_neg (nI_ge hi (by omega)), c_in hi (by omega), c_gr, c_cl (by omega), bnd_eq, bnd_eq, c_1]
    · intro j hj
      by_cases e : j = i
      · subst e; exact sI_same
      · show sI I1 k i x k j = x
        rw [sI_idx e]; exact h2 j (by omega)
    · intro k' hk'
      show sI I1 k i x k' = _
      rw [sI_ne hk']; exact h3 k' hk') (by
    intro ⟨x1, I1⟩ ⟨h1, _⟩
    subst h1
    show fm_A_fillI_B5 k n x (nI n) (nI n) I1 = _
    unfold fm_A_fillI_B5
    rw [if_pos (nI_le (Nat.le_refl _) (by omega))]) (z0 := ((0 : Int32), I)) ⟨rfl, fun j hj => absurd hj (Nat.not_lt_zero _), fun _ _ => rfl⟩
  obtain ⟨x1, I1⟩ := z
  rw [bnd_eq, h1, c_ob3]
  exact ⟨I1, rfl, h3, h4⟩
theorem fillJ_eq (k n : Nat) (x : Int64) (J : JS) (hn : n < 70000) : ∃ J', fm_A_fillJ k n x J = some J' ∧ (∀ j, j < n → J' k j = x) ∧ (∀ k', k' ≠ k → J' k' = J k') := by
  unfold fm_A_fillJ
  obtain ⟨z, h1, h2, h3, h4⟩ := iter_for (step := fun z : Int32 × JS => fm_A_fillJ_B6 k n x (Int32.ofNat n) z.1 z.2) (fun i z => z.1 = nI i ∧ (∀ j, j < i → z.2 k j = x) ∧ (∀ k', k' ≠ k → z.2 k' = J k')) n hn (by
    intro i ⟨x1, I1⟩ hi ⟨h1, h2, h3⟩
    subst h1
    refine ⟨(nI (i + 1), sJ I1 k i x), ?_, rfl, ?_, ?_⟩
    · show fm_A_fillJ_B6 k n x (nI n) (nI i) I1 = _
      unfold fm_A_fillJ_B6
      rw [if_neg (nI_ge hi (by omega)), c_in hi (by omega), c_gr, c_cl (by omega), bnd_eq, bnd_eq, c_1]
    · intro j hj
      by_cases e : j = i
      · subst e; exact sJ_same
      · show sJ I1 k i x k j = x
        rw [sJ_idx e]; exact h2 j (by omega)
    · intro k' hk'
      show sJ I1 k i x k' = _
      rw [sJ_ne hk']; exact h3 k' hk') (by
    intro ⟨x1, I1⟩ ⟨h1, _⟩
    subst h1
    show fm_A_fillJ_B6 k n x (nI n) (nI n) I1 = _
    unfold fm_A_fillJ_B6
    rw [if_pos (nI_le (Nat.le_refl _) (by omega))]) (z0 := ((0 : Int32), J)) ⟨rfl, fun j hj => absurd hj (Nat.not_lt_zero _), fun _ _ => rfl⟩
  obtain ⟨x1, I1⟩ := z
  rw [bnd_eq, h1, c_ob3]
  exact ⟨I1, rfl, h3, h4⟩
/-- whether the number is that of an entry of W -/
def hb (W : Nat) (x : Int32) : Bool := (decide (0 ≤ x) && decide (x < 16)) && W.testBit x.toNatClampNeg
theorem hb_in (W : Nat) {a : Nat} (ha : a < 16) : hb W (nI a) = W.testBit a := by
  unfold hb
  rw [c_cl (by omega), decide_eq_true (nI_pos' (by omega)), decide_eq_true (by rw [c_ltl (by decide) (by omega)]; exact ha)]; rfl
theorem hb_lo (W : Nat) {x : Int32} (h : x < 0) : hb W x = false := by
  unfold hb
  rw [decide_eq_false (fun q => absurd h (Int32.not_lt.mpr q))]; rfl
theorem hb_hi (W : Nat) {x : Int32} (h : (16 : Int32) ≤ x) : hb W x = false := by
  unfold hb
  rw [decide_eq_false (p := x < 16) (fun q => absurd q (Int32.not_lt.mpr h))]
  cases decide (0 ≤ x) <;> rfl
theorem hb_t {W : Nat} {x : Int32} (h : hb W x = true) : ∃ a, a < 16 ∧ x = nI a ∧ W.testBit a = true := by
  rcases c_ix x (n := 16) (by decide) with q | q | ⟨a, ha, rfl⟩
  · rw [hb_lo W q] at h; cases h
  · rw [hb_hi W q] at h; cases h
  · rw [hb_in W ha] at h; exact ⟨a, ha, rfl, h⟩
theorem has_eq {I : IS} {W : Nat} (h5 : I 5 0 = nI W) (hW : W < 2 ^ 16) (x : Int32) : fm_H_has x I = some (bI (hb W x)) := by
  unfold fm_H_has
  rcases c_ix x (n := 16) (by decide) with q | q | ⟨a, ha, rfl⟩
  · rw [if_pos q, hb_lo W q]; rfl
  · rw [if_neg (fun q' => absurd (Int32.le_trans q (Int32.le_of_lt q')) (by decide)), if_pos (show (16 : Int32) ≤ x from q), hb_hi W q]; rfl
  · rw [if_neg (nI_pos (by omega)), if_neg (n16 ha), h5, holds_b (w31 hW) (by omega), c_ob1, hb_in W ha]
    cases W.testBit a <;> rfl
def HR (I : IS) (W n : Nat) (u l : Nat → Nat) (bk : Nat → Bool) : Prop := I 5 0 = nI W ∧ W < 2 ^ 16 ∧ I 6 0 = nI n ∧ n ≤ 400 ∧ ∀ v, v < n → I 0 v = nI (u v) ∧ I 1 v = nI (l v) ∧ I 2 v = bI (bk v) ∧ u v < 16 ∧ l v < 16
theorem HR_frame {I I' : IS} {W n : Nat} {u l : Nat → Nat} {bk : Nat → Bool} (h : HR I W n u l bk) (h0 : I' 0 = I 0) (h1 : I' 1 = I 1) (h2 : I' 2 = I 2) (h5 : I' 5 = I 5) (h6 : I' 6 = I 6) : HR I' W n u l bk := by
  unfold HR at h ⊢
  rw [h0, h1, h2, h5, h6]; exact h
theorem inForce_eq {I : IS} {W n : Nat} {u l : Nat → Nat} {bk : Nat → Bool} (h : HR I W n u l bk) {v : Nat} (hv : v < n) : fm_H_inForce (nI v) I = some (bI (q_inf W u l bk v)) := by
  obtain ⟨h5, hW, h6, hn, hh⟩ := h
  obtain ⟨h0, h1, h2, hu, hl⟩ := hh v hv
  unfold fm_H_inForce q_inf
  rw [c_in (show v < 400 by omega) (by omega), c_gr, c_cl (by omega), h2, h0, h1, h5, holds_b (w31 hW) (by omega), holds_b (w31 hW) (by omega)]
  cases bk v with
  | true => rfl
  | false =>
    rw [bI_pos, c_gr, c_ob1]
    cases W.testBit (u v) with
    | false => rfl
    | true =>
      rw [bI_neg, c_gr, c_ob1]
      cases W.testBit (l v) <;> rfl
theorem vif_eq {I : IS} {W n : Nat} {u l : Nat → Nat} {bk : Nat → Bool} (h : HR I W n u l bk) : fm_H_verdictsInForce I = some (nI (q_cn (q_inf W u l bk) n)) := by
  have hn := h.2.2.2.1
  unfold fm_H_verdictsInForce
  rw [iter_st (step := fun z : Int32 × Int32 => fm_H_verdictsInForce_B4 I z.1 z.2) (fun k => (nI (q_cn (q_inf W u l bk) k), nI k)) n 0 (z := (nI (q_cn (q_inf W u l bk) n), nI n)) (z0 := ((0 : Int32), (0 : Int32))) (by omega) rfl (by
    intro k hk
    show fm_H_verdictsInForce_B4 I _ (nI k) = _
    unfold fm_H_verdictsInForce_B4
    rw [h.2.2.1, if_neg (nI_ge hk (by omega)), inForce_eq h hk, c_ob1]
    have e : q_cn (q_inf W u l bk) (k + 1) = q_cn (q_inf W u l bk) k + q_b (q_inf W u l bk k) := rfl
    rw [e]
    cases q_inf W u l bk k with
    | false => rw [bI_pos, bnd_eq, bnd_eq, c_0, c_1]; rfl
    | true => rw [bI_neg, bnd_eq, bnd_eq, c_1, c_1]; rfl) (by
    show fm_H_verdictsInForce_B4 I _ (nI n) = _
    unfold fm_H_verdictsInForce_B4
    rw [h.2.2.1, if_pos (nI_le (Nat.le_refl _) (by omega))])]
  rfl
theorem pairs_eq {I : IS} {B : Nat → Nat} (h3 : ∀ a, a < 16 → I 3 a = nI (B a) ∧ B a < 2 ^ 16) : fm_H_settledPairs I = some (nI (q_sum (fun a => q_pop (B a)) 16)) := by
  unfold fm_H_settledPairs
  rw [iter_st (step := fun z : Int32 × Int32 => fm_H_settledPairs_B4 I z.1 z.2) (fun k => (nI (q_sum (fun a => q_pop (B a)) k), nI k)) 16 0 (z := (nI (q_sum (fun a => q_pop (B a)) 16), nI 16)) (z0 := ((0 : Int32), (0 : Int32))) (by omega) rfl (by
    intro k hk
    show fm_H_settledPairs_B4 I _ (nI k) = _
    unfold fm_H_settledPairs_B4
    rw [if_neg (n16 hk), c_in hk (by decide), c_gr, c_cl (by omega), (h3 k hk).1, bitCount_eq (h3 k hk).2, c_ob1, bnd_eq, bnd_eq, nI_add, c_1]
    rfl) (by
    show fm_H_settledPairs_B4 I _ (nI 16) = _
    unfold fm_H_settledPairs_B4
    rw [if_pos (by decide)])]
  rfl
/-- dif is empty -/
theorem dif_0 {w s : Nat} (hw : w < 2 ^ 32) : (dif w s = 0) ↔ w &&& s = w := by
  constructor
  · intro h
    apply Nat.eq_of_testBit_eq
    intro i
    have h1 : (dif w s).testBit i = false := by rw [h, Nat.zero_testBit]
    rw [dif_bit hw] at h1
    rw [Nat.testBit_and]
    cases hw : w.testBit i <;> cases hs : s.testBit i <;> simp [hw, hs] at h1 ⊢
  · intro h
    apply Nat.eq_of_testBit_eq
    intro i
    rw [dif_bit hw, Nat.zero_testBit]
    have h1 : (w &&& s).testBit i = w.testBit i := by rw [h]
    rw [Nat.testBit_and] at h1
    cases hw : w.testBit i <;> cases hs : s.testBit i <;> simp [hw, hs] at h1 ⊢
theorem nI0_eq {n : Nat} (h : n < 2147483648) : (nI n = 0) = (n = 0) := by rw [← nI_0, c_eq h (by decide)]
theorem mayCome_eq {I : IS} {W : Nat} {A : Nat → Nat} (h5 : I 5 0 = nI W) (hW : W < 2 ^ 16) (h4 : ∀ a, a < 16 → I 4 a = nI (A a) ∧ A a < 2 ^ 16) {a s : Nat} (ha : a < 16) : fm_H_mayCome (nI a) (nI s) I = some (bI (q_mc W A s a)) := by
  have hd : dif W s < 2147483648 := Nat.lt_of_le_of_lt (dif_le W s) (w31 hW)
  have hd2 : dif (A a) s < 2147483648 := Nat.lt_of_le_of_lt (dif_le _ s) (w31 (h4 a ha).2)
  unfold fm_H_mayCome q_mc
  rw [h5, m_dif, holds_b hd (by omega), c_ob1, c_in ha (by decide), c_cl (by omega), (h4 a ha).1, m_dif, dif_bit (by omega)]
  cases hx : (W.testBit a && !(s.testBit a)) with
  | false => rfl
  | true =>
    rw [bI_neg, c_gr]
    have hi : (nI (dif (A a) s) = 0) ↔ A a &&& s = A a := by rw [nI0_eq hd2]; exact dif_0 (by have := (h4 a ha).2; omega)
    by_cases e : A a &&& s = A a
    · rw [if_pos (hi.2 e), e, q_beq_self]; rfl
    · rw [if_neg (fun q => e (hi.1 q)), q_beq_ne e]; rfl
