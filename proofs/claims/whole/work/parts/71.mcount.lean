/-! The reference's counts -/
theorem mmay_eq {I : IS} {W : Nat} {A : Nat → Nat} (h8 : I 8 0 = nI W) (hW : W < 2 ^ 16) (h10 : ∀ a, a < 16 → I 10 a = nI (A a) ∧ A a < 2 ^ 16) {a s : Nat} (ha : a < 16) (hs : s < 2147483648) : fm_M_mayCome (nI s) (nI a) I = some (bI (q_mc W A s a)) := by
  have hd2 : dif (A a) s < 2147483648 := Nat.lt_of_le_of_lt (dif_le _ s) (w31 (h10 a ha).2)
  unfold fm_M_mayCome q_mc
  rw [h8, c_in ha (by decide), c_gr, c_cl (by omega), (h10 a ha).1, m_dif]
  cases hw : W.testBit a with
  | false => rw [if_neg (fun q => by rw [(m_bit1 (by omega) (by omega)).1 q] at hw; cases hw)]; rfl
  | true =>
    rw [if_pos ((m_bit1 (by omega) (by omega)).2 hw)]
    cases hb : s.testBit a with
    | true => rw [if_neg (fun q => by rw [(m_bit0 (by omega) (by omega)).1 q] at hb; cases hb)]; rfl
    | false =>
      rw [if_pos ((m_bit0 (by omega) (by omega)).2 hb)]
      have hi : (nI (dif (A a) s) = 0) ↔ A a &&& s = A a := by rw [nI0_eq hd2]; exact dif_0 (by have := (h10 a ha).2; omega)
      by_cases e : A a &&& s = A a
      · rw [if_pos (hi.2 e), e, q_beq_self]; rfl
      · rw [if_neg (fun q => e (hi.1 q)), q_beq_ne e]; rfl
/-- the reference's tables of a heat -/
def Mx (I : IS) (W : Nat) (A : Nat → Nat) : Prop := I 8 0 = nI W ∧ W < 2 ^ 16 ∧ ∀ a, a < 16 → I 10 a = nI (A a) ∧ A a < 2 ^ 16
theorem mcl_eq {I : IS} {W : Nat} (h8 : I 8 0 = nI W) (hW : W < 2 ^ 16) (J : JS) : ∃ J', iter (fun z : Int32 × JS => fm_M_countAll_B20 I z.1 z.2) FU ((0 : Int32), J) = some (1, nI (W + 1), J') ∧ (∀ t, t < W + 1 → J' 0 t = 0 ∧ J' 1 t = 0) ∧ (∀ k, k ≠ 0 → k ≠ 1 → J' k = J k) := by
  apply for2 (fm_M_countAll_B20 I) (fun s z => (∀ t, t < s → z 0 t = 0 ∧ z 1 t = 0) ∧ (∀ k, k ≠ 0 → k ≠ 1 → z k = J k)) (W + 1) (by omega) (I0 := J) ⟨fun t ht => absurd ht (Nat.not_lt_zero _), fun _ _ _ => rfl⟩
  · intro s J1 hs ⟨b1, b2⟩
    refine ⟨sJ (sJ J1 0 s 0) 1 s 0, ?_, ?_, ?_⟩
    · unfold fm_M_countAll_B20
      rw [h8, if_neg (nI_nlt (by omega) (by omega)), c_in (show s < 65536 by omega) (by decide), c_gr, c_cl (by omega), bnd_eq, c_gr, bnd_eq, bnd_eq, c_1]
    · intro t ht
      by_cases e : t = s
      · subst e; rw [sJ_same, sJ_ne (by decide), sJ_same]; exact ⟨rfl, rfl⟩
      · rw [sJ_idx e, sJ_ne (k' := 1) (by decide), sJ_ne (k' := 0) (by decide), sJ_idx e]; exact b1 t (by omega)
    · intro k q1 q2; rw [sJ_ne q2, sJ_ne q1]; exact b2 k q1 q2
  · intro J1 _
    unfold fm_M_countAll_B20
    rw [h8, if_pos (nI_lt (by omega) (by omega))]
theorem mto_in {I : IS} {W : Nat} {A : Nat → Nat} {T F : Nat → Nat} (hx : Mx I W A) (hc : Ct W A T F) {s : Nat} (hs : s ≤ W) {J : JS} (h0 : ∀ t, t ≤ W → J 0 t = lN (q_tp (q_mc W A) T s t)) : ∃ x J', iter (fun z : Int32 × JS => fm_M_countAll_B67 I (nI s) z.1 z.2) FU ((0 : Int32), J) = some (1, x, J') ∧ (∀ t, t ≤ W → J' 0 t = lN (q_tp (q_mc W A) T (s + 1) t)) ∧ (∀ k, k ≠ 0 → J' k = J k) := by
  obtain ⟨h8, hW, h10⟩ := hx
  have hs16 : s < 65536 := by omega
  have hTs : J 0 s = lN (T s) := by rw [h0 s hs, q_tp_T hc.1 hs16 (Nat.le_refl _)]
  have hTb := hc.2.1 s
  by_cases e : T s = 0
  · refine ⟨0, J, ?_, fun t ht => by rw [q_tp_skip (fun s a h => (q_mc_sub s a h).1) e]; exact h0 t ht, fun _ _ => rfl⟩
    apply iter_st (fun _ => ((0 : Int32), J)) 0 0 (by decide) rfl (fun k hk => absurd hk (Nat.not_lt_zero _))
    show fm_M_countAll_B67 I (nI s) (nI 0) J = _
    unfold fm_M_countAll_B67
    rw [if_neg (n16 (by decide)), c_in hs16 (by decide), c_gr, c_cl (by omega), hTs, if_pos ((l_cmp0' (by omega)).2 e)]
    rfl
  · have hsub : q_sub s W := by
      apply Classical.byContradiction
      intro q; exact e (hc.2.2.2 s q)
    obtain ⟨J', a1, a2, a3, a4⟩ := for2 (fm_M_countAll_B67 I (nI s)) (fun m z => (∀ t, t ≤ W → z 0 t = lN (q_tq (q_mc W A) T s m t)) ∧ z 0 s = lN (T s) ∧ (∀ k, k ≠ 0 → z k = J k)) 16 (by decide) (I0 := J) ⟨fun t ht => h0 t ht, hTs, fun _ _ => rfl⟩ (by
      intro a J1 ha ⟨b1, b2, b3⟩
      cases hm : q_mc W A s a with
      | false =>
        refine ⟨J1, ?_, ?_, b2, b3⟩
        · unfold fm_M_countAll_B67
          rw [if_neg (n16 ha), c_in hs16 (by decide), c_gr, c_cl (by omega), b2, if_neg (fun q => e ((l_cmp0' (by omega)).1 q)), mmay_eq h8 hW h10 ha (by omega), c_ob1, hm, bI_pos, bnd_eq, c_1]
        · intro t ht
          rw [b1 t ht, q_tq_s, hm, Bool.and_false]
          congr 1
          show _ = _ + 0 * _
          omega
      | true =>
        have hsa := (q_mc_sub s a hm).1
        have hsub2 := q_sub_or hsub (q_mc_sub s a hm).2
        have hle := q_sub_le hsub2
        have hlt : s ||| 2 ^ a < 65536 := by omega
        have hgt := q_lt_or hsa
        refine ⟨sJ J1 0 (s ||| 2 ^ a) (lN (q_tq (q_mc W A) T s a (s ||| 2 ^ a) + T s)), ?_, ?_, ?_, ?_⟩
        · unfold fm_M_countAll_B67
          rw [if_neg (n16 ha), c_in hs16 (by decide), c_gr, c_cl (show s < 2147483648 by omega), b2, if_neg (fun q => e ((l_cmp0' (by omega)).1 q)), mmay_eq h8 hW h10 ha (by omega), c_ob1, hm, bI_neg, c_shl (by omega), m_or, c_in hlt (by decide), c_gr, c_gr, c_gr, c_cl (show s ||| 2 ^ a < 2147483648 by omega), b1 _ hle, lN_add, bnd_eq, bnd_eq, c_1]
        · intro t ht
          rw [q_tq_s, hm, Bool.and_true]
          by_cases e : t = s ||| 2 ^ a
          · subst e
            rw [sJ_same, q_beq_self]
            congr 1
            show _ = _ + 1 * _
            omega
          · rw [sJ_idx e, q_beq_ne e, b1 t ht]
            congr 1
            show _ = _ + 0 * _
            omega
        · rw [sJ_idx (by omega)]; exact b2
        · intro k hk; rw [sJ_ne hk]; exact b3 k hk) (fun _ _ => rfl)
    refine ⟨nI 16, J', a1, fun t ht => ?_, a4⟩
    rw [a2 t ht, q_tq_16 (fun s a h => (q_mc_sub s a h).1)]
theorem mto_eq {I : IS} {W : Nat} {A : Nat → Nat} {T F : Nat → Nat} (hx : Mx I W A) (hc : Ct W A T F) {J : JS} (h0 : ∀ t, t ≤ W → J 0 t = lN (q_tp (q_mc W A) T 0 t)) : ∃ J', iter (fun z : Int32 × JS => fm_M_countAll_B57 I z.1 z.2) FU ((0 : Int32), J) = some (1, nI (W + 1), J') ∧ (∀ t, t ≤ W → J' 0 t = lN (T t)) ∧ (∀ k, k ≠ 0 → J' k = J k) := by
  obtain ⟨h8, hW, h10⟩ := id hx
  obtain ⟨J', a1, a2, a3⟩ := for2 (fm_M_countAll_B57 I) (fun s z => (∀ t, t ≤ W → z 0 t = lN (q_tp (q_mc W A) T s t)) ∧ (∀ k, k ≠ 0 → z k = J k)) (W + 1) (by omega) (I0 := J) ⟨h0, fun _ _ => rfl⟩ (by
    intro s J1 hs ⟨b1, b2⟩
    obtain ⟨x, J2, c1, c2, c3⟩ := mto_in hx hc (show s ≤ W by omega) b1
    refine ⟨J2, ?_, c2, fun k hk => (c3 k hk).trans (b2 k hk)⟩
    unfold fm_M_countAll_B57
    rw [h8, if_neg (nI_nlt (by omega) (by omega)), c1, c_ob3, bnd_eq, c_1]) (by
    intro J1 _
    unfold fm_M_countAll_B57
    rw [h8, if_pos (nI_lt (by omega) (by omega))])
  refine ⟨J', a1, fun t ht => ?_, a3⟩
  rw [a2 t ht, q_tp_T hc.1 (by omega) (by omega)]
theorem mfr_in {I : IS} {W : Nat} {A : Nat → Nat} {T F : Nat → Nat} (hx : Mx I W A) (hc : Ct W A T F) {s : Nat} (hs : s < W) {J : JS} (h0 : ∀ t, t ≤ W → J 0 t = lN (T t)) (h1 : ∀ t, t ≤ W → s < t → 0 < T t → J 1 t = lN (F t)) (h1s : J 1 s = 0) : ∃ x J', iter (fun z : Int32 × JS => fm_M_countAll_B147 I (nI s) z.1 z.2) FU ((0 : Int32), J) = some (1, x, J') ∧ (0 < T s → J' 1 s = lN (F s)) ∧ (∀ t, t ≠ s → J' 1 t = J 1 t) ∧ (∀ k, k ≠ 1 → J' k = J k) := by
  obtain ⟨h8, hW, h10⟩ := hx
  have hs16 : s < 65536 := by omega
  have hTs : J 0 s = lN (T s) := h0 s (by omega)
  have hTb := hc.2.1 s
  by_cases e : T s = 0
  · refine ⟨0, J, ?_, fun q => absurd q (by omega), fun _ _ => rfl, fun _ _ => rfl⟩
    apply iter_st (fun _ => ((0 : Int32), J)) 0 0 (by decide) rfl (fun k hk => absurd hk (Nat.not_lt_zero _))
    show fm_M_countAll_B147 I (nI s) (nI 0) J = _
    unfold fm_M_countAll_B147
    rw [if_neg (n16 (by decide)), c_in hs16 (by decide), c_gr, c_cl (by omega), hTs, if_pos ((l_cmp0' (by omega)).2 e)]
    rfl
  · have hsub : q_sub s W := by
      apply Classical.byContradiction
      intro q; exact e (hc.2.2.2 s q)
    obtain ⟨J', a1, a2, a3, a4⟩ := for2 (fm_M_countAll_B147 I (nI s)) (fun m z => z 1 s = lN (q_sum (fun a => q_b (q_mc W A s a) * F (s ||| 2 ^ a)) m) ∧ (∀ t, t ≠ s → z 1 t = J 1 t) ∧ (∀ k, k ≠ 1 → z k = J k)) 16 (by decide) (I0 := J) ⟨h1s.trans l_0, fun _ _ => rfl, fun _ _ => rfl⟩ (by
      intro a J1 ha ⟨b1, b2, b3⟩
      have e1 : q_sum (fun a => q_b (q_mc W A s a) * F (s ||| 2 ^ a)) (a + 1) = q_sum (fun a => q_b (q_mc W A s a) * F (s ||| 2 ^ a)) a + q_b (q_mc W A s a) * F (s ||| 2 ^ a) := rfl
      have b0 : J1 0 s = lN (T s) := by rw [b3 0 (by decide)]; exact hTs
      cases hm : q_mc W A s a with
      | false =>
        refine ⟨J1, ?_, ?_, b2, b3⟩
        · unfold fm_M_countAll_B147
          rw [if_neg (n16 ha), c_in hs16 (by decide), c_gr, c_cl (by omega), b0, if_neg (fun q => e ((l_cmp0' (by omega)).1 q)), mmay_eq h8 hW h10 ha (by omega), c_ob1, hm, bI_pos, bnd_eq, c_1]
        · rw [b1, e1, hm]
          congr 1
          show _ = _ + 0 * _
          omega
      | true =>
        have hsa := (q_mc_sub s a hm).1
        have hsub2 := q_sub_or hsub (q_mc_sub s a hm).2
        have hle := q_sub_le hsub2
        have hlt : s ||| 2 ^ a < 65536 := by omega
        have hgt := q_lt_or hsa
        refine ⟨sJ J1 1 s (lN (q_sum (fun a => q_b (q_mc W A s a) * F (s ||| 2 ^ a)) a + F (s ||| 2 ^ a))), ?_, ?_, ?_, ?_⟩
        · unfold fm_M_countAll_B147
          rw [if_neg (n16 ha), c_in hs16 (by decide), c_gr, c_cl (show s < 2147483648 by omega), b0, if_neg (fun q => e ((l_cmp0' (by omega)).1 q)), mmay_eq h8 hW h10 ha (by omega), c_ob1, hm, bI_neg, c_shl (by omega), m_or, c_in hlt (by decide), c_gr, c_gr, c_gr, c_cl (show s ||| 2 ^ a < 2147483648 by omega), b1, b2 _ (by omega), h1 _ hle hgt (q_T_on hc.1 hs16 ha hm (by omega)), lN_add, bnd_eq, bnd_eq, c_1]
        · rw [sJ_same, e1, hm]
          congr 1
          show _ = _ + 1 * _
          omega
        · intro t ht; rw [sJ_idx ht]; exact b2 t ht
        · intro k hk; rw [sJ_ne hk]; exact b3 k hk) (fun _ _ => rfl)
    refine ⟨nI 16, J', a1, fun _ => ?_, a3, a4⟩
    rw [a2, hc.1.2.2.2.2.2 s hs16 (by omega) (by omega)]
/-- the reference has counted -/
def Mc (J : JS) (W : Nat) (T F : Nat → Nat) : Prop := ∀ t, t ≤ W → J 0 t = lN (T t) ∧ (0 < T t → J 1 t = lN (F t))
theorem mfr_eq {I : IS} {W : Nat} {A : Nat → Nat} {T F : Nat → Nat} (hx : Mx I W A) (hc : Ct W A T F) {J : JS} (h0 : ∀ t, t ≤ W → J 0 t = lN (T t)) (h1 : ∀ t, t < W → J 1 t = 0) (h1W : J 1 W = 1) : ∃ x J', iter (fun z : Int32 × JS => fm_M_countAll_B141 I z.1 z.2) FU (nI W - 1, J) = some (1, x, J') ∧ Mc J' W T F ∧ (∀ k, k ≠ 1 → J' k = J k) := by
  obtain ⟨h8, hW, h10⟩ := id hx
  obtain ⟨⟨x, J'⟩, a1, a2, a3, a4, a5⟩ := iter_for (step := fun z : Int32 × JS => fm_M_countAll_B141 I z.1 z.2) (fun k z => z.1 = nI (W - k) + (-1) ∧ (∀ t, t ≤ W → W - k ≤ t → 0 < T t → z.2 1 t = lN (F t)) ∧ (∀ t, t < W - k → z.2 1 t = 0) ∧ (∀ k, k ≠ 1 → z.2 k = J k)) W (by omega) (by
    intro k ⟨x, J1⟩ hk ⟨b1, b2, b3, b4⟩
    have b1 : x = nI (W - k) + (-1) := b1
    subst b1
    have b2 : ∀ t, t ≤ W → W - k ≤ t → 0 < T t → J1 1 t = lN (F t) := b2
    have b3 : ∀ t, t < W - k → J1 1 t = 0 := b3
    have b4 : ∀ k, k ≠ 1 → J1 k = J k := b4
    generalize hs : W - (k + 1) = s
    have hs1 : W - k = s + 1 := by omega
    rw [hs1] at b2 b3
    obtain ⟨y, J2, c1, c2, c3, c4⟩ := mfr_in hx hc (show s < W by omega) (J := J1) (fun t ht => by rw [b4 0 (by decide)]; exact h0 t ht) (fun t ht hlt hT => b2 t ht (by omega) hT) (b3 s (by omega))
    refine ⟨(nI s + (-1), J2), ?_, rfl, fun t ht hle hT => ?_, fun t ht => ?_, fun k hk => (c4 k hk).trans (b4 k hk)⟩
    · show fm_M_countAll_B141 I (nI (W - k) + (-1)) J1 = _
      unfold fm_M_countAll_B141
      rw [hs1, pk_m1, if_neg (nI_pos (by omega)), c1, c_ob3, bnd_eq]
    · by_cases e : t = s
      · subst e; exact c2 hT
      · show J2 1 t = _
        rw [c3 t e]; exact b2 t ht (by omega) hT
    · show J2 1 t = _
      rw [c3 t (by omega)]; exact b3 t (by omega)) (by
    intro ⟨x, J1⟩ ⟨b1, _⟩
    have b1 : x = nI (W - W) + (-1) := b1
    subst b1
    rw [Nat.sub_self]
    rfl) (z0 := (nI W - 1, J)) ⟨by rw [Nat.sub_zero]; exact Int32.sub_eq_add_neg .., fun t ht hle _ => by
      have : t = W := by omega
      subst this
      show J 1 t = _
      rw [h1W, hc.1.2.2.2.2.1]; rfl, fun t ht => h1 t (by omega), fun _ _ => rfl⟩
  refine ⟨x, J', a1, fun t ht => ⟨?_, fun hT => a3 t ht (by omega) hT⟩, a5⟩
  show J' 0 t = _
  rw [show J' 0 = J 0 from a5 0 (by decide)]; exact h0 t ht
theorem mcount_eq {I : IS} {J : JS} {h W n : Nat} {u l : Nat → Nat} {bk : Nat → Bool} {T F : Nat → Nat} (hm : MR I h W n u l bk) (hh : h < 12) (hr : I 7 0 = nI h → MS I W n u l bk) (hc : Ct W (q_Ab W n u l bk) T F) (hk : I 7 0 = nI h → I 11 0 ≠ 0 → Mc J W T F) : ∃ I' J', fm_M_countAll (nI h) I J = some (I', J') ∧ MS I' W n u l bk ∧ I' 7 0 = nI h ∧ I' 11 0 ≠ 0 ∧ Mc J' W T F ∧ (∀ k, k ≠ 7 → k ≠ 8 → k ≠ 9 → k ≠ 10 → k ≠ 11 → I' k = I k) ∧ (∀ k, k ≠ 0 → k ≠ 1 → J' k = J k) := by
  have hW := MR_W hm
  obtain ⟨I1, a1, a2, a3, a4, a5⟩ := msettle_eq hm hh hr
  unfold fm_M_countAll
  rw [a1, c_ob1]
  by_cases e : I1 11 0 = 0
  · rw [if_pos e, bnd_eq]
    have f1 : ∀ k, k ≠ 11 → sV I1 11 1 k = I1 k := fun k q => sV_ne q
    have hx : Mx (sV I1 11 1) W (q_Ab W n u l bk) := ⟨by rw [f1 8 (by decide)]; exact a2.1, hW, fun a ha => ⟨by rw [f1 10 (by decide)]; exact (a2.2 a ha).2, q_Ab_lt hW a⟩⟩
    obtain ⟨J1, b1, b2, b3⟩ := mcl_eq hx.1 hW J
    obtain ⟨J2, c1, c2, c3⟩ := mto_eq hx hc (J := sJ J1 0 0 1) (fun t ht => by
      rw [q_tp_0]
      by_cases e : t = 0
      · subst e; rw [sJ_same]; rfl
      · rw [sJ_idx e, q_beq_ne e, (b2 t (by omega)).1]; exact l_0)
    obtain ⟨x, J3, d1, d2, d3⟩ := mfr_eq hx hc (J := sJ J2 1 W 1) (fun t ht => by rw [sJ_ne (by decide)]; exact c2 t ht) (fun t ht => by
      rw [sJ_idx (by omega), c3 1 (by decide), sJ_ne (by decide)]; exact (b2 t (by omega)).2) sJ_same
    refine ⟨sV I1 11 1, J3, ?_, ⟨by rw [f1 8 (by decide)]; exact a2.1, fun a ha => by rw [f1 9 (by decide), f1 10 (by decide)]; exact a2.2 a ha⟩, by rw [f1 7 (by decide)]; exact a3, by rw [sV_same]; decide, d2, fun k q7 q8 q9 q10 q11 => by rw [f1 k q11]; exact a4 k q7 q8 q9 q10 q11, fun k q0 q1 => by rw [d3 k q1, sJ_ne q1, c3 k q0, sJ_ne q0, b3 k q0 q1]⟩
    rw [b1, c_ob3, show inB (0 : Int32) 65536 = true from c_in (n := 0) (by decide) (by decide), c_gr, show (0 : Int32).toNatClampNeg = 0 from c_cl (n := 0) (by decide), bnd_eq, c1, c_ob3, hx.1, c_in (show W < 65536 from hW) (by decide), c_gr, c_cl (by omega), bnd_eq, bnd_eq, d1, c_ob3]
  · rw [if_neg e]
    rcases a5 with ⟨q, rfl⟩ | q
    · exact ⟨I1, J, rfl, a2, a3, e, hk q e, a4, fun _ _ _ => rfl⟩
    · exact absurd q e
