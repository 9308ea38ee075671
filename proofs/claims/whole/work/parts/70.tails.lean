/-! The class's tails; the whole lattice -/
theorem q_T_on {mc : Nat → Nat → Bool} {W : Nat} {T F : Nat → Nat} (h : q_TF mc W T F) {s a : Nat} (hs : s < 2 ^ 16) (ha : a < 16) (hm : mc s a = true) (hT : 0 < T s) : 0 < T (s ||| 2 ^ a) := by
  have hsa := (h.1 s a hm).1
  have hlt := q_or_lt hs ha
  have hne : s ||| 2 ^ a ≠ 0 := by have := q_lt_or hsa; omega
  rw [h.2.2.2.1 _ hlt hne]
  have h1 := q_sum_ge (f := fun a' => q_b ((s ||| 2 ^ a).testBit a' && mc ((s ||| 2 ^ a) ^^^ 2 ^ a') a') * T ((s ||| 2 ^ a) ^^^ 2 ^ a')) ha
  have h2 : q_b ((s ||| 2 ^ a).testBit a && mc ((s ||| 2 ^ a) ^^^ 2 ^ a) a) * T ((s ||| 2 ^ a) ^^^ 2 ^ a) = T s := by
    rw [q_or_xor2 hsa, hm, q_or_bit, q_beq_self]
    simp [q_b]
  have h1 : q_b ((s ||| 2 ^ a).testBit a && mc ((s ||| 2 ^ a) ^^^ 2 ^ a) a) * T ((s ||| 2 ^ a) ^^^ 2 ^ a) ≤ _ := h1
  rw [h2] at h1
  exact Nat.lt_of_lt_of_le hT h1
theorem gather_eq {I : IS} {W : Nat} {B A : Nat → Nat} {T F : Nat → Nat} (hx : Cx I W B A) (hc : Ct W A T F) {s : Nat} (hs : q_sub s W) (hT : 0 < T s) (hne : s ≠ W) {J : JS} (h4 : ∀ t, q_sub t W → s < t → 0 < T t → J 4 t = lN (F t)) : fm_L_gather (nI s) I J = some (lN (F s)) := by
  obtain ⟨h5, hW, hb, hBW, hA⟩ := hx
  have hs16 : s < 65536 := q_sub_lt (n := 16) hW hs
  obtain ⟨rd, r1, r2, r3⟩ := ready_mc hb h5 hW hBW hA s
  unfold fm_L_gather
  rw [r1, c_ob1]
  rw [iter_st (step := fun z : Int64 × Int32 => fm_L_gather_B19 (nI s) J (nI rd) z.1 z.2) (fun m => (lN (q_sum (fun a => q_b (q_mc W A s a) * F (s ||| 2 ^ a)) m), nI m)) 16 0 (z := (lN (F s), nI 16)) (z0 := ((0 : Int64), (0 : Int32))) (by decide) (by
      show ((0 : Int64), (0 : Int32)) = (lN 0, nI 0)
      rw [← l_0]; rfl) (by
    intro a ha
    show fm_L_gather_B19 (nI s) J (nI rd) _ (nI a) = _
    unfold fm_L_gather_B19
    have e1 : q_sum (fun a => q_b (q_mc W A s a) * F (s ||| 2 ^ a)) (a + 1) = q_sum (fun a => q_b (q_mc W A s a) * F (s ||| 2 ^ a)) a + q_b (q_mc W A s a) * F (s ||| 2 ^ a) := rfl
    rw [e1]
    cases hm : q_mc W A s a with
    | false =>
      rw [if_neg (n16 ha), if_pos ((m_bit0 (by omega) (by omega)).2 (by rw [r3, hm])), bnd_eq, c_1, show q_b false * F (s ||| 2 ^ a) = 0 from Nat.zero_mul _]; rfl
    | true =>
      have hsub := q_sub_or hs (q_mc_sub s a hm).2
      have hlt : s ||| 2 ^ a < 65536 := q_sub_lt (n := 16) hW hsub
      rw [if_neg (n16 ha), if_neg (fun q => by have := (m_bit0 (by omega) (by omega)).1 q; rw [r3, hm] at this; cases this), c_shl (by omega), m_or, c_in hlt (by decide), c_gr, c_cl (by omega), h4 _ hsub (q_lt_or (q_mc_sub s a hm).1) (q_T_on hc.1 hs16 ha hm hT), lN_add, bnd_eq, bnd_eq, c_1, show q_b true * F (s ||| 2 ^ a) = F (s ||| 2 ^ a) from Nat.one_mul _]) (by
    show fm_L_gather_B19 (nI s) J (nI rd) _ (nI 16) = _
    unfold fm_L_gather_B19
    rw [if_pos (by decide), ← hc.1.2.2.2.2.2 s hs16 hT hne])]
  rfl
theorem tails_eq {I : IS} {W : Nat} {B A : Nat → Nat} {T F : Nat → Nat} (hx : Cx I W B A) (hc : Ct W A T F) {J : JS} (h3 : ∀ t, q_sub t W → J 3 t = lN (T t)) : ∃ J', fm_L_countTails I J = some J' ∧ (∀ t, q_sub t W → 0 < T t → J' 4 t = lN (F t)) ∧ (∀ k, k ≠ 4 → J' k = J k) := by
  obtain ⟨h5, hW, hb, hBW, hA⟩ := id hx
  have h2 := q_two_pop W
  have h0p : 0 < 2 ^ q_pop W := Nat.two_pow_pos _
  have hsW : q_sub W W := fun _ h => h
  unfold fm_L_countTails
  obtain ⟨J', a1, a2, a3⟩ := for3 (fm_L_countTails_B25 I (nI (2 ^ q_pop W))) (fun i => nI (q_nth W (2 ^ q_pop W - i))) (fun i z => (∀ t, q_sub t W → q_nth W (2 ^ q_pop W - i) ≤ t → 0 < T t → z 4 t = lN (F t)) ∧ (∀ k, k ≠ 4 → z k = J k)) 1 (2 ^ q_pop W) h0p (by omega) (I0 := sJ J 4 W 1) ⟨fun t ht hle hT => by
      rw [q_nth_top hW] at hle
      have : t = W := Nat.le_antisymm (q_sub_le ht) hle
      subst this
      rw [sJ_same, hc.1.2.2.2.2.1]; rfl, fun k hk => sJ_ne hk⟩ (by
    intro i J2 hi1 hi ⟨b1, b2⟩
    generalize hj : 2 ^ q_pop W - (i + 1) = j
    have hj1 : 2 ^ q_pop W - i = j + 1 := by omega
    rw [hj1] at b1 ⊢
    have hjlt : j + 1 < 2 ^ q_pop W := by omega
    have hpos : q_nth W j < q_nth W (j + 1) := q_nth_lt hW (by omega) hjlt
    have hlt1 := nth_lt hW (j + 1)
    have hlt := nth_lt hW j
    have hsub := q_nth_sub W j
    have ex : (nI (q_nth W (j + 1)) - 1) &&& I 5 0 = nI (q_nth W j) := by
      rw [h5, show nI (q_nth W (j + 1)) - 1 = nI (q_nth W (j + 1) - 1) from pk_sub (b := 1) (by omega), m_and, q_nth_prev (show q_nth W (j + 1) - 1 + 1 = q_nth W (j + 1) by omega)]
    have hTs : J2 3 (q_nth W j) = lN (T (q_nth W j)) := by rw [b2 3 (by decide)]; exact h3 _ hsub
    have hTb := hc.2.1 (q_nth W j)
    have old : ∀ t, q_sub t W → q_nth W j < t → 0 < T t → J2 4 t = lN (F t) := by
      intro t ht hlt hT
      apply b1 t ht _ hT
      apply Nat.le_of_not_lt
      intro q
      exact q_nth_gap hW hjlt hlt q ht
    by_cases e : T (q_nth W j) = 0
    · refine ⟨J2, ?_, fun t ht hle hT => ?_, b2⟩
      · unfold fm_L_countTails_B25
        rw [if_neg (nI_ge hi (by omega)), ex, bnd_eq, c_in hlt (by decide), c_gr, c_cl (by omega), hTs, if_pos ((l_cmp0 (by omega)).2 e), bnd_eq, c_1]
      · apply old t ht _ hT
        apply Nat.lt_of_le_of_ne hle
        intro q; subst q; omega
    · have hneW : q_nth W j ≠ W := by
        intro q
        have := q_sub_le (q_nth_sub W (j + 1))
        omega
      refine ⟨sJ J2 4 (q_nth W j) (lN (F (q_nth W j))), ?_, fun t ht hle hT => ?_, fun k hk => by rw [sJ_ne hk]; exact b2 k hk⟩
      · unfold fm_L_countTails_B25
        rw [if_neg (nI_ge hi (by omega)), ex, bnd_eq, c_in hlt (by decide), c_gr, c_cl (by omega), hTs, if_neg (fun q => e ((l_cmp0 (by omega)).1 q)), gather_eq hx hc hsub (by omega) hneW old, c_ob1, c_gr, bnd_eq, bnd_eq, c_1]
      · by_cases q : t = q_nth W j
        · subst q; exact sJ_same
        · rw [sJ_idx q]; exact old t ht (by omega) hT) (by
    intro J1 _
    unfold fm_L_countTails_B25
    rw [if_pos (nI_le (Nat.le_refl _) (by omega))])
  refine ⟨J', ?_, ?_, a3⟩
  · rw [h5, c_in (show W < 65536 from hW) (by decide), c_gr, c_cl (by omega), bnd_eq, size_eq h5 hW, c_ob1, sets_eq, bnd_eq, bnd_eq, show (nI W, (1 : Int32), sJ J 4 W 1) = (nI (q_nth W (2 ^ q_pop W - 1)), nI 1, sJ J 4 W 1) by rw [q_nth_top hW]; rfl, a1, c_ob4]
  · intro t ht hT
    apply a2 t ht _ hT
    rw [Nat.sub_self, q_nth_0]; exact Nat.zero_le _
/-- the lattice holds the heat -/
def Ld (I : IS) (J : JS) (W : Nat) (B : Nat → Nat) (T F : Nat → Nat) : Prop := Bars I B ∧ (∀ t, q_sub t W → J 3 t = lN (T t)) ∧ (∀ t, q_sub t W → 0 < T t → J 4 t = lN (F t))
theorem load_eq {I : IS} {J : JS} {W : Nat} {B A : Nat → Nat} {T F : Nat → Nat} (h5 : I 5 0 = nI W) (hW : W < 2 ^ 16) (hB : ∀ j, j < 16 → B j < 2 ^ 16) (h3 : ∀ j, j < 16 → I 3 j = nI (B j)) (h1 : I 21 0 = 0) (h2 : I 22 0 = 0) (hBW : ∀ x a, (B x).testBit a = true → W.testBit x = true) (hA : ∀ a x, (A a).testBit x = (B x).testBit a) (hc : Ct W A T F) : ∃ I' J', fm_L_load I J = some (I', J') ∧ Ld I' J' W B T F ∧ I' 21 0 = 0 ∧ I' 22 0 = 0 ∧ (∀ k, k ≠ 21 → k ≠ 22 → I' k = I k) ∧ (∀ k, k ≠ 3 → k ≠ 4 → J' k = J k) := by
  obtain ⟨I1, a1, a2, a3, a4, a5⟩ := setBars_eq hB h3 h1 h2
  have hx : Cx I1 W B A := ⟨by rw [a5 5 (by decide) (by decide)]; exact h5, hW, a2, hBW, hA⟩
  obtain ⟨J1, b1, b2, b3⟩ := heads_eq hx hc J
  obtain ⟨J2, c1, c2, c3⟩ := tails_eq hx hc b2
  refine ⟨I1, J2, ?_, ⟨a2, fun t ht => by rw [c3 3 (by decide)]; exact b2 t ht, c2⟩, a3, a4, a5, fun k q1 q2 => (c3 k q2).trans (b3 k q1)⟩
  unfold fm_L_load
  rw [a1, c_ob1, b1, c_ob1, c1, c_ob1]
