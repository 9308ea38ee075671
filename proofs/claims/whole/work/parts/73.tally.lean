/-! The class's tally, filled -/
def q_ST (W : Nat) (A : Nat → Nat) (T F : Nat → Nat) (a r : Nat) : Nat := q_sum (q_fS W A T F a r) (2 ^ 16)
def q_AH (W : Nat) (A : Nat → Nat) (T F : Nat → Nat) (a b : Nat) : Nat := q_sum (q_fA W A T F a b) (2 ^ 16)
theorem q_sum_top {f : Nat → Nat} {W : Nat} (hW : W < 2 ^ 16) (h : ∀ s, ¬ q_sub s W → f s = 0) : q_sum f (W + 1) = q_sum f (2 ^ 16) := by
  obtain ⟨d, hd⟩ := Nat.le.dest (show W + 1 ≤ 2 ^ 16 from hW)
  have h1 : q_sum (fun i => f (W + 1 + i)) d = 0 := q_sum_zero (fun i _ => h _ (fun hs => by have := q_sub_le hs; omega))
  rw [← hd, q_sum_split f (W + 1) d, h1]; rfl
theorem q_sum_s (f : Nat → Nat) (n : Nat) : q_sum f (n + 1) = q_sum f n + f n := rfl
theorem q_fS_0 {W : Nat} {A : Nat → Nat} {T F : Nat → Nat} (hc : Ct W A T F) {s : Nat} (h : ¬ q_sub s W) (a r : Nat) : q_fS W A T F a r s = 0 := by
  unfold q_fS; rw [hc.2.2.2 s h, Nat.zero_mul, Nat.mul_zero]
theorem q_fA_0 {W : Nat} {A : Nat → Nat} {T F : Nat → Nat} (hc : Ct W A T F) {s : Nat} (h : ¬ q_sub s W) (a b : Nat) : q_fA W A T F a b s = 0 := by
  unfold q_fA; rw [hc.2.2.2 s h, Nat.zero_mul, Nat.mul_zero]
/-- of each two, one is ahead -/
theorem q_AH_cut {W : Nat} {A : Nat → Nat} {T F : Nat → Nat} (hc : Ct W A T F) {a b : Nat} (ha : a < 16) (hb : b < 16) (hab : a ≠ b) (hWa : W.testBit a = true) (hWb : W.testBit b = true) : q_AH W A T F a b + q_AH W A T F b a = F 0 := by
  rw [← q_cut hc.1 (C := fun s => !(s.testBit a) && !(s.testBit b)) (by show (!(Nat.testBit 0 a) && !(Nat.testBit 0 b)) = true; rw [Nat.zero_testBit, Nat.zero_testBit]; rfl) (by show (!(W.testBit a) && !(W.testBit b)) = false; rw [hWa]; rfl) (by
    intro s x _ h
    have h : (!((s ||| 2 ^ x).testBit a) && !((s ||| 2 ^ x).testBit b)) = true := h
    show (!(s.testBit a) && !(s.testBit b)) = true
    rw [q_or_bit, q_or_bit] at h
    cases h1 : s.testBit a with
    | true => rw [h1] at h; simp at h
    | false =>
      cases h2 : s.testBit b with
      | true => rw [h2] at h; simp at h
      | false => rfl)]
  unfold q_AH
  rw [← q_sum_add]
  apply q_sum_congr
  intro s _
  have key : ∀ x, x < 16 → q_b (((!(s.testBit a) && !(s.testBit b)) && q_mc W A s x) && !(!((s ||| 2 ^ x).testBit a) && !((s ||| 2 ^ x).testBit b))) * (T s * F (s ||| 2 ^ x)) = q_b (Nat.beq x a) * q_fA W A T F a b s + q_b (Nat.beq x b) * q_fA W A T F b a s := by
    intro x _
    unfold q_fA
    rw [q_or_bit, q_or_bit, hWa, hWb]
    by_cases e1 : x = a
    · subst e1
      rw [q_beq_self, q_beq_ne hab]
      cases hm : q_mc W A s x with
      | false => simp [q_b]
      | true =>
        rw [(q_mc_sub s x hm).1]
        cases s.testBit b <;> simp [q_b]
    · by_cases e2 : x = b
      · subst e2
        rw [q_beq_self, q_beq_ne e1]
        cases hm : q_mc W A s x with
        | false => simp [q_b]
        | true =>
          rw [(q_mc_sub s x hm).1]
          cases s.testBit a <;> simp [q_b]
      · rw [q_beq_ne e1, q_beq_ne e2, q_beq_ne (fun q => e1 q.symm), q_beq_ne (fun q => e2 q.symm)]
        cases s.testBit a <;> cases s.testBit b <;> simp [q_b]
  rw [q_sum_congr key, q_sum_add, q_sum_one (i := a) ha (fun j _ hj => by rw [q_beq_ne hj]; exact Nat.zero_mul _), q_sum_one (i := b) hb (fun j _ hj => by rw [q_beq_ne hj]; exact Nat.zero_mul _), q_beq_self, q_beq_self]
  show _ = 1 * _ + 1 * _
  omega
/-- every order ends with all -/
theorem q_total {W : Nat} {A : Nat → Nat} {T F : Nat → Nat} (hc : Ct W A T F) (hW0 : W ≠ 0) : T W = F 0 := by
  obtain ⟨hm, hW16, hT0, hT, hFW, hF⟩ := id hc.1
  rw [← q_cut hc.1 (C := fun s => !(Nat.beq s W)) (by show (!(Nat.beq 0 W)) = true; rw [q_beq_ne (fun q => hW0 q.symm)]; rfl) (by show (!(Nat.beq W W)) = false; rw [q_beq_self]; rfl) (by
    intro s x hx _
    show (!(Nat.beq s W)) = true
    rw [q_beq_ne]
    · rfl
    · intro e; subst e; have := hm s x hx; rw [this.1] at this; cases this.2)]
  rw [hT W hW16 hW0]
  have e1 : ∀ s, s < 2 ^ 16 → q_sum (fun a => q_b (((!(Nat.beq s W)) && q_mc W A s a) && !(!(Nat.beq (s ||| 2 ^ a) W))) * (T s * F (s ||| 2 ^ a))) 16 = q_sum (fun a => q_b (Nat.beq s (W ^^^ 2 ^ a)) * (q_b (W.testBit a && q_mc W A (W ^^^ 2 ^ a) a) * T (W ^^^ 2 ^ a))) 16 := by
    intro s _
    apply q_sum_congr
    intro a _
    cases hma : q_mc W A s a with
    | false =>
      rw [Bool.and_false, Bool.false_and]
      by_cases e : s = W ^^^ 2 ^ a
      · subst e; rw [hma, Bool.and_false]; show 0 * _ = _ * (0 * _); rw [Nat.zero_mul, Nat.zero_mul, Nat.mul_zero]
      · rw [q_beq_ne e]; show 0 * _ = 0 * _; rw [Nat.zero_mul, Nat.zero_mul]
    | true =>
      obtain ⟨g1, g2⟩ := hm s a hma
      have hne : s ≠ W := by intro e; subst e; rw [g1] at g2; cases g2
      rw [q_beq_ne hne]
      by_cases e : s = W ^^^ 2 ^ a
      · have e2 : s ||| 2 ^ a = W := by rw [e, q_xor_or g2]
        rw [e2, q_beq_self, ← e, q_beq_self, hma, g2, hFW]
        simp [q_b]
      · have e2 : s ||| 2 ^ a ≠ W := by intro q; apply e; rw [← q, q_or_xor2 g1]
        rw [q_beq_ne e2, q_beq_ne e]; simp [q_b]
  rw [q_sum_congr e1, q_sum_swap]
  apply q_sum_congr
  intro a ha
  rw [q_sum_one (i := W ^^^ 2 ^ a) (q_xor_lt hW16 ha) (fun j _ hj => by rw [q_beq_ne hj]; exact Nat.zero_mul _), q_beq_self]
  show _ = 1 * _
  omega
/-- an entry stands at one rank in each order -/
theorem q_ST_le {W : Nat} {A : Nat → Nat} {T F : Nat → Nat} (hc : Ct W A T F) {a : Nat} (ha : a < 16) (hWa : W.testBit a = true) (r : Nat) : q_ST W A T F a r ≤ F 0 := by
  rw [← q_cut hc.1 (C := fun s => !(s.testBit a)) (by show (!(Nat.testBit 0 a)) = true; rw [Nat.zero_testBit]; rfl) (by show (!(W.testBit a)) = false; rw [hWa]; rfl) (by
    intro s x _ h
    have h : (!((s ||| 2 ^ x).testBit a)) = true := h
    show (!(s.testBit a)) = true
    rw [q_or_bit] at h
    cases h1 : s.testBit a with
    | true => rw [h1] at h; simp at h
    | false => rfl)]
  apply q_sum_le
  intro s _
  have h1 := q_sum_ge (f := fun x => q_b (((!(s.testBit a)) && q_mc W A s x) && !(!((s ||| 2 ^ x).testBit a))) * (T s * F (s ||| 2 ^ x))) ha
  apply Nat.le_trans _ h1
  show q_fS W A T F a r s ≤ q_b (((!(s.testBit a)) && q_mc W A s a) && !(!((s ||| 2 ^ a).testBit a))) * (T s * F (s ||| 2 ^ a))
  unfold q_fS
  apply Nat.mul_le_mul_right
  cases hm : q_mc W A s a with
  | false => exact Nat.zero_le _
  | true =>
    rw [q_or_bit, q_beq_self, (q_mc_sub s a hm).1]
    show _ ≤ 1
    exact q_b_le _
theorem lN_eqsub {x y z : Nat} (h : x + y = z) : lN z - lN x = lN y := by
  rw [← h, Nat.add_comm, ← lN_add, Int64.add_sub_cancel]
theorem compIn_eq {I : IS} {W : Nat} {A : Nat → Nat} {T F : Nat → Nat} (h5 : I 5 0 = nI W) (hW : W < 2 ^ 16) (hc : Ct W A T F) {a : Nat} (ha : a < 16) {J : JS} (h0 : J 0 0 = lN (F 0)) (h2 : ∀ i, i < 256 → i / 16 < i % 16 ∨ (i % 16 < i / 16 ∧ i % 16 < a ∧ W.testBit (i / 16) = true ∧ W.testBit (i % 16) = true) → J 2 i = lN (q_AH W A T F (i / 16) (i % 16))) : ∃ J', iter (fun z : Int32 × JS => fm_T_complete_B12 I (nI a) z.1 z.2) FU (nI (a + 1), J) = some (1, nI 16, J') ∧ (∀ i, i < 256 → i / 16 < i % 16 ∨ (i % 16 < i / 16 ∧ i % 16 < a + 1 ∧ W.testBit (i / 16) = true ∧ W.testBit (i % 16) = true) → J' 2 i = lN (q_AH W A T F (i / 16) (i % 16))) ∧ (∀ k, k ≠ 2 → J' k = J k) := by
  obtain ⟨J', a1, a2, a3⟩ := for2s (fm_T_complete_B12 I (nI a)) (fun b z => (∀ i, i < 256 → i / 16 < i % 16 ∨ (i % 16 < i / 16 ∧ (i % 16 < a ∨ (i % 16 = a ∧ i / 16 < b)) ∧ W.testBit (i / 16) = true ∧ W.testBit (i % 16) = true) → z 2 i = lN (q_AH W A T F (i / 16) (i % 16))) ∧ (∀ k, k ≠ 2 → z k = J k)) (a + 1) 16 (by omega) (by decide) (I0 := J) ⟨fun i hi q => h2 i hi (by
      rcases q with q | ⟨q1, q2, q3, q4⟩
      · exact .inl q
      · exact .inr ⟨q1, by omega, q3, q4⟩), fun _ _ => rfl⟩ (by
    intro b J1 hb1 hb ⟨b1, b2⟩
    cases hl : (W.testBit a && W.testBit b) with
    | false =>
      refine ⟨J1, ?_, ?_, b2⟩
      · unfold fm_T_complete_B12
        rw [if_neg (n16 hb), has_eq h5 hW, c_ob1, hb_in W ha, has_eq h5 hW, c_ob1, hb_in W hb]
        cases hwa : W.testBit a with
        | false => rw [bI_pos, bnd_eq, c_1]
        | true =>
          rw [bI_neg]
          rw [hwa, Bool.true_and] at hl
          rw [hl, bI_pos, bnd_eq, c_1]
      · intro i hi q
        apply b1 i hi
        rcases q with q | ⟨q1, q2, q3, q4⟩
        · exact .inl q
        · refine .inr ⟨q1, ?_, q3, q4⟩
          rcases q2 with q2 | ⟨q2, q5⟩
          · exact .inl q2
          · right
            refine ⟨q2, ?_⟩
            have : i / 16 ≠ b := by
              intro e
              rw [e] at q3; rw [q2] at q4
              rw [q3, q4] at hl; cases hl
            omega
    | true =>
      obtain ⟨hwa, hwb⟩ := Bool.and_eq_true_iff.1 hl
      have hi1 : a * 16 + b < 256 := by omega
      have hi2 : b * 16 + a < 256 := by omega
      have v1 : J1 2 (a * 16 + b) = lN (q_AH W A T F a b) := by
        have := b1 (a * 16 + b) hi1 (.inl (by omega))
        rw [show (a * 16 + b) / 16 = a by omega, show (a * 16 + b) % 16 = b by omega] at this
        exact this
      refine ⟨sJ J1 2 (b * 16 + a) (lN (q_AH W A T F b a)), ?_, ?_, ?_⟩
      · unfold fm_T_complete_B12
        rw [if_neg (n16 hb), has_eq h5 hW, c_ob1, hb_in W ha, has_eq h5 hW, c_ob1, hb_in W hb, hwa, hwb, bI_neg, bI_neg, show nI a * (16 : Int32) + nI b = nI (a * 16 + b) by rw [c_lit 16, pk_mul, nI_add], show nI b * (16 : Int32) + nI a = nI (b * 16 + a) by rw [c_lit 16, pk_mul, nI_add], c_in hi1 (by decide), c_gr, c_in hi2 (by decide), c_gr, c_cl (show a * 16 + b < 2147483648 by omega), c_cl (show b * 16 + a < 2147483648 by omega), v1, b2 0 (by decide), h0, lN_eqsub (q_AH_cut hc ha hb (by omega) hwa hwb), bnd_eq, bnd_eq, c_1]
      · intro i hi q
        by_cases e : i = b * 16 + a
        · subst e
          rw [sJ_same, show (b * 16 + a) / 16 = b by omega, show (b * 16 + a) % 16 = a by omega]
        · rw [sJ_idx e]
          apply b1 i hi
          rcases q with q | ⟨q1, q2, q3, q4⟩
          · exact .inl q
          · refine .inr ⟨q1, ?_, q3, q4⟩
            rcases q2 with q2 | ⟨q2, q5⟩
            · exact .inl q2
            · right; exact ⟨q2, by omega⟩
      · intro k hk; rw [sJ_ne hk]; exact b2 k hk) (fun _ _ => rfl)
  refine ⟨J', a1, fun i hi q => a2 i hi ?_, a3⟩
  rcases q with q | ⟨q1, q2, q3, q4⟩
  · exact .inl q
  · exact .inr ⟨q1, by omega, q3, q4⟩
/-- a heat's tally -/
def Tl (J : JS) (W : Nat) (A : Nat → Nat) (T F : Nat → Nat) : Prop := J 0 0 = lN (F 0) ∧ (∀ i, i < 256 → J 1 i = lN (q_ST W A T F (i / 16) (i % 16))) ∧ (∀ i, i < 256 → i / 16 ≠ i % 16 → W.testBit (i / 16) = true → W.testBit (i % 16) = true → J 2 i = lN (q_AH W A T F (i / 16) (i % 16)))
theorem complete_eq {I : IS} {W : Nat} {A : Nat → Nat} {T F : Nat → Nat} (h5 : I 5 0 = nI W) (hW : W < 2 ^ 16) (hc : Ct W A T F) {J : JS} (h0 : J 0 0 = lN (F 0)) (h1 : ∀ i, i < 256 → J 1 i = lN (q_ST W A T F (i / 16) (i % 16))) (h2 : ∀ i, i < 256 → i / 16 < i % 16 → J 2 i = lN (q_AH W A T F (i / 16) (i % 16))) : ∃ J', fm_T_complete I J = some (sV I 7 1, J') ∧ Tl J' W A T F ∧ (∀ k, k ≠ 2 → J' k = J k) := by
  unfold fm_T_complete
  obtain ⟨J', a1, a2, a3⟩ := for2 (fm_T_complete_B2 I) (fun a z => (∀ i, i < 256 → i / 16 < i % 16 ∨ (i % 16 < i / 16 ∧ i % 16 < a ∧ W.testBit (i / 16) = true ∧ W.testBit (i % 16) = true) → z 2 i = lN (q_AH W A T F (i / 16) (i % 16))) ∧ (∀ k, k ≠ 2 → z k = J k)) 16 (by decide) (I0 := J) ⟨fun i hi q => by
      rcases q with q | ⟨_, q, _⟩
      · exact h2 i hi q
      · exact absurd q (Nat.not_lt_zero _), fun _ _ => rfl⟩ (by
    intro a J1 ha ⟨b1, b2⟩
    obtain ⟨J2, c1, c2, c3⟩ := compIn_eq h5 hW hc ha (J := J1) (by rw [b2 0 (by decide)]; exact h0) b1
    refine ⟨J2, ?_, c2, fun k hk => (c3 k hk).trans (b2 k hk)⟩
    unfold fm_T_complete_B2
    rw [if_neg (n16 ha), c_1, bnd_eq, c1, c_ob3, bnd_eq]) (fun _ _ => rfl)
  refine ⟨J', ?_, ⟨by rw [a3 0 (by decide)]; exact h0, fun i hi => by rw [a3 1 (by decide)]; exact h1 i hi, fun i hi hne hw1 hw2 => a2 i hi ?_⟩, a3⟩
  · rw [a1, c_ob3, bnd_eq]
  · by_cases q : i / 16 < i % 16
    · exact .inl q
    · exact .inr ⟨by omega, by omega, hw1, hw2⟩
theorem fill_eq {I : IS} {W : Nat} {B A : Nat → Nat} {T F : Nat → Nat} (hx : Cx I W B A) (hc : Ct W A T F) {J : JS} (h0 : J 0 0 = lN (F 0)) (h3 : ∀ t, q_sub t W → J 3 t = lN (T t)) (h4 : ∀ t, q_sub t W → 0 < T t → J 4 t = lN (F t)) : ∃ J', fm_L_fill I J = some (sV I 7 1, J') ∧ Tl J' W A T F ∧ (∀ k, k ≠ 1 → k ≠ 2 → J' k = J k) := by
  obtain ⟨h5, hW, hb, hBW, hA⟩ := id hx
  have h2p := q_two_pop W
  have h0p : 0 < 2 ^ q_pop W := Nat.two_pow_pos _
  obtain ⟨Ja, a1, a2, a3⟩ := fillJ_eq 1 256 0 J (by decide)
  obtain ⟨Jb, b1, b2, b3⟩ := fillJ_eq 2 256 0 Ja (by decide)
  have fb : ∀ k, k ≠ 1 → k ≠ 2 → Jb k = J k := fun k q1 q2 => (b3 k q2).trans (a3 k q1)
  have thr0 : q_thr W 0 = 0 := by unfold q_thr; rw [if_pos h0p, q_nth_0]
  obtain ⟨Jc, c1, c2, c3, c4⟩ := for3 (fm_L_fill_B19 I (nI (2 ^ q_pop W))) (fun i => nI (q_nth W i)) (fun j z => (∀ i, i < 256 → z 1 i = lN (q_sum (q_fS W A T F (i / 16) (i % 16)) (q_thr W j))) ∧ (∀ i, i < 256 → i / 16 < i % 16 → z 2 i = lN (q_sum (q_fA W A T F (i / 16) (i % 16)) (q_thr W j))) ∧ (∀ k, k ≠ 1 → k ≠ 2 → z k = J k)) 0 (2 ^ q_pop W) (Nat.zero_le _) (by omega) (I0 := Jb) ⟨fun i hi => by rw [thr0, b3 1 (by decide), a2 i hi]; exact l_0, fun i hi _ => by rw [thr0, b2 i hi]; exact l_0, fb⟩ (by
    intro j J1 _ hj ⟨d1, d2, d3⟩
    have hth : q_thr W j = q_nth W j := by unfold q_thr; rw [if_pos hj]
    rw [hth] at d1 d2
    have hsub := q_nth_sub W j
    have hlt := nth_lt hW j
    have hTs : J1 3 (q_nth W j) = lN (T (q_nth W j)) := by rw [d3 3 (by decide) (by decide)]; exact h3 _ hsub
    have hTb := hc.2.1 (q_nth W j)
    have nxt : ∀ J3 : JS, ((∀ i, i < 256 → J3 1 i = lN (q_sum (q_fS W A T F (i / 16) (i % 16)) (q_nth W j + 1))) ∧ (∀ i, i < 256 → i / 16 < i % 16 → J3 2 i = lN (q_sum (q_fA W A T F (i / 16) (i % 16)) (q_nth W j + 1)))) → ((∀ i, i < 256 → J3 1 i = lN (q_sum (q_fS W A T F (i / 16) (i % 16)) (q_thr W (j + 1)))) ∧ (∀ i, i < 256 → i / 16 < i % 16 → J3 2 i = lN (q_sum (q_fA W A T F (i / 16) (i % 16)) (q_thr W (j + 1))))) := by
      intro J3 hJ3
      apply q_thr_next hW (P := fun k => (∀ i, i < 256 → J3 1 i = lN (q_sum (q_fS W A T F (i / 16) (i % 16)) k)) ∧ (∀ i, i < 256 → i / 16 < i % 16 → J3 2 i = lN (q_sum (q_fA W A T F (i / 16) (i % 16)) k))) (fun k hk hP => ?_) hj hJ3
      refine ⟨fun i hi => ?_, fun i hi hlt => ?_⟩
      · rw [hP.1 i hi, q_sum_s, q_fS_0 hc hk, Nat.add_zero]
      · rw [hP.2 i hi hlt, q_sum_s, q_fA_0 hc hk, Nat.add_zero]
    by_cases e : T (q_nth W j) = 0
    · have := nxt J1 ⟨fun i hi => by
        rw [d1 i hi, q_sum_s, show q_fS W A T F (i / 16) (i % 16) (q_nth W j) = 0 by unfold q_fS; rw [e, Nat.zero_mul, Nat.mul_zero], Nat.add_zero], fun i hi hlt => by
        rw [d2 i hi hlt, q_sum_s, show q_fA W A T F (i / 16) (i % 16) (q_nth W j) = 0 by unfold q_fA; rw [e, Nat.zero_mul, Nat.mul_zero], Nat.add_zero]⟩
      refine ⟨J1, ?_, this.1, this.2, d3⟩
      unfold fm_L_fill_B19
      rw [if_neg (nI_ge hj (by omega)), c_in hlt (by decide), c_gr, c_cl (by omega), hTs, if_pos ((l_cmp0 (by omega)).2 e), h5, setAfter_eq hW, c_ob1, bnd_eq, c_1]
    · obtain ⟨J3, e1, e2, e3, e4⟩ := behind_eq hx hc hsub (by omega) (J := J1) (fun t ht => by rw [d3 3 (by decide) (by decide)]; exact h3 t ht) (fun t ht hT => by rw [d3 4 (by decide) (by decide)]; exact h4 t ht hT) d1 d2
      have := nxt J3 ⟨e2, e3⟩
      refine ⟨J3, ?_, this.1, this.2, fun k q1 q2 => (e4 k q1 q2).trans (d3 k q1 q2)⟩
      unfold fm_L_fill_B19
      rw [if_neg (nI_ge hj (by omega)), c_in hlt (by decide), c_gr, c_cl (by omega), hTs, if_neg (fun q => e ((l_cmp0 (by omega)).1 q)), e1, c_ob1, h5, setAfter_eq hW, c_ob1, bnd_eq, c_1]) (by
    intro J1 _
    unfold fm_L_fill_B19
    rw [if_pos (nI_le (Nat.le_refl _) (by omega))])
  have thrN : q_thr W (2 ^ q_pop W) = W + 1 := by unfold q_thr; rw [if_neg (Nat.lt_irrefl _)]
  rw [thrN] at c2 c3
  obtain ⟨Jd, d1, d2, d3⟩ := complete_eq h5 hW hc (J := Jc) (by rw [c4 0 (by decide) (by decide)]; exact h0) (fun i hi => by
    rw [c2 i hi, q_sum_top hW (fun s hs => q_fS_0 hc hs _ _)]; rfl) (fun i hi hlt => by
    rw [c3 i hi hlt, q_sum_top hW (fun s hs => q_fA_0 hc hs _ _)]; rfl)
  refine ⟨Jd, ?_, d2, fun k q1 q2 => (d3 k q2).trans (c4 k q1 q2)⟩
  unfold fm_L_fill fm_T_clear
  rw [a1, c_ob1, b1, c_ob1, c_ob1, size_eq h5 hW, c_ob1, sets_eq, bnd_eq, show ((0 : Int32), (0 : Int32), Jb) = (nI (q_nth W 0), nI 0, Jb) by rw [q_nth_0]; rfl, c1, c_ob4, d1, c_ob2]
