/-! The class's counts of heads and tails -/
theorem for3 {α : Type} (g : Int32 → Int32 → α → Option (Nat × Int32 × Int32 × α)) (sq : Nat → Int32) (P : Nat → α → Prop) (s N : Nat) (hsN : s ≤ N) (hN : N < 70000) {I0 : α} (h0 : P s I0) (hs : ∀ k I, s ≤ k → k < N → P k I → ∃ I', g (sq k) (nI k) I = some (0, sq (k + 1), nI (k + 1), I') ∧ P (k + 1) I') (he : ∀ I, P N I → g (sq N) (nI N) I = some (1, sq N, nI N, I)) : ∃ I', iter (fun z : Int32 × Int32 × α => g z.1 z.2.1 z.2.2) FU (sq s, nI s, I0) = some (1, sq N, nI N, I') ∧ P N I' := by
  obtain ⟨⟨y, x, I⟩, h1, h2, h2', h3⟩ := iter_for (step := fun z : Int32 × Int32 × α => g z.1 z.2.1 z.2.2) (fun k z => z.1 = sq (s + k) ∧ z.2.1 = nI (s + k) ∧ P (s + k) z.2.2) (N - s) (by omega) (by
    intro k ⟨y, x, I⟩ hk ⟨h1, h1', h2⟩
    have h1 : y = sq (s + k) := h1
    have h1' : x = nI (s + k) := h1'
    subst h1 h1'
    obtain ⟨I', h3, h4⟩ := hs (s + k) I (by omega) (by omega) h2
    exact ⟨(sq (s + k + 1), nI (s + k + 1), I'), h3, rfl, rfl, h4⟩) (by
    intro ⟨y, x, I⟩ ⟨h1, h1', h2⟩
    have e : s + (N - s) = N := by omega
    rw [e] at h1 h1' h2
    have h1 : y = sq N := h1
    have h1' : x = nI N := h1'
    subst h1 h1'
    exact he I h2) (z0 := (sq s, nI s, I0)) ⟨rfl, rfl, h0⟩
  have e : s + (N - s) = N := by omega
  rw [e] at h2 h2' h3
  have h2 : y = sq N := h2
  have h2' : x = nI N := h2'
  subst h2 h2'
  exact ⟨I, h1, h3⟩
theorem nI_wrap (s W : Nat) (hW : W < 2 ^ 32) : nI s - nI W = nI (s + (2 ^ 32 - 1 - W) + 1) := by
  have h1 : nI (s + (2 ^ 32 - 1 - W) + 1) + nI W = nI s := by
    rw [nI_add, show s + (2 ^ 32 - 1 - W) + 1 + W = s + 2 ^ 32 by omega, ← nI_add, show nI (2 ^ 32) = 0 by decide +kernel]
    exact Int32.add_zero _
  rw [← h1, Int32.add_sub_cancel]
theorem setAfter_eq {W : Nat} (hW : W < 2 ^ 16) (i : Nat) : fm_L_setAfter (nI (q_nth W i)) (nI W) = some (nI (q_nth W (i + 1))) := by
  unfold fm_L_setAfter
  rw [nI_wrap _ _ (q_w32 hW), m_and, q_nth_next hW]
theorem size_eq {I : IS} {W : Nat} (h5 : I 5 0 = nI W) (hW : W < 2 ^ 16) : fm_H_size I = some (nI (q_pop W)) := by
  unfold fm_H_size
  rw [h5, bitCount_eq hW]; rfl
theorem sets_eq (W : Nat) : (1 : Int32) <<< (nI (q_pop W) &&& 31) = nI (2 ^ q_pop W) := c_shl (by have := q_pop_16 W; omega)
theorem nth_lt {W : Nat} (hW : W < 2 ^ 16) (i : Nat) : q_nth W i < 65536 := q_sub_lt (n := 16) hW (q_nth_sub W i)
theorem clear_eq {I : IS} {W : Nat} (h5 : I 5 0 = nI W) (hW : W < 2 ^ 16) (J : JS) : ∃ J', fm_L_clearHeads I J = some J' ∧ (∀ t, q_sub t W → J' 3 t = 0) ∧ (∀ k, k ≠ 3 → J' k = J k) := by
  have h2 := q_two_pop W
  unfold fm_L_clearHeads
  obtain ⟨J', a1, a2, a3⟩ := for3 (fm_L_clearHeads_B12 I (nI (2 ^ q_pop W))) (fun i => nI (q_nth W i)) (fun i z => (∀ j, j < i → z 3 (q_nth W j) = 0) ∧ (∀ k, k ≠ 3 → z k = J k)) 0 (2 ^ q_pop W) (Nat.zero_le _) (by omega) (I0 := J) ⟨fun j hj => absurd hj (Nat.not_lt_zero _), fun _ _ => rfl⟩ (by
    intro i J1 _ hi ⟨b1, b2⟩
    refine ⟨sJ J1 3 (q_nth W i) 0, ?_, ?_, ?_⟩
    · unfold fm_L_clearHeads_B12
      rw [if_neg (nI_ge hi (by omega)), c_in (nth_lt hW i) (by decide), c_gr, c_cl (by have := nth_lt hW i; omega), bnd_eq, h5, setAfter_eq hW, c_ob1, bnd_eq, c_1]
    · intro j hj
      by_cases e : q_nth W j = q_nth W i
      · rw [e]; exact sJ_same
      · rw [sJ_idx e]
        apply b1
        by_cases e2 : j = i
        · subst e2; exact absurd rfl e
        · omega
    · intro k hk; rw [sJ_ne hk]; exact b2 k hk) (by
    intro J1 _
    unfold fm_L_clearHeads_B12
    rw [if_pos (nI_le (Nat.le_refl _) (by omega))])
  refine ⟨J', ?_, ?_, a3⟩
  · rw [size_eq h5 hW, c_ob1, sets_eq, bnd_eq, show ((0 : Int32), (0 : Int32), J) = (nI (q_nth W 0), nI 0, J) by rw [q_nth_0]; rfl, a1, c_ob4]
  · intro t ht
    obtain ⟨i, hi, rfl⟩ := q_nth_all hW ht
    exact a2 i hi
/-- what a heat counts with -/
def Cx (I : IS) (W : Nat) (B A : Nat → Nat) : Prop := I 5 0 = nI W ∧ W < 2 ^ 16 ∧ Bars I B ∧ (∀ x a, (B x).testBit a = true → W.testBit x = true) ∧ (∀ a x, (A a).testBit x = (B x).testBit a)
def Ct (W : Nat) (A : Nat → Nat) (T F : Nat → Nat) : Prop := q_TF (q_mc W A) W T F ∧ (∀ s, T s < 2 ^ 50) ∧ (∀ s, q_sub s W → F s < 2 ^ 50) ∧ (∀ s, ¬ q_sub s W → T s = 0)
theorem Ct_0 {W : Nat} (hW : W < 2 ^ 16) (A : Nat → Nat) : Ct W A (q_T0 (q_mc W A)) (q_F0 (q_mc W A) W) := ⟨q_TF0 q_mc_sub hW, q_T_lt, fun _ hs => q_F_lt q_mc_sub hs, fun _ hs => q_T_sub q_mc_sub hs⟩
theorem handOn_eq {I : IS} {W : Nat} {B A : Nat → Nat} {T F : Nat → Nat} (hx : Cx I W B A) (hc : Ct W A T F) {s : Nat} (hs : q_sub s W) {J : JS} (h3 : ∀ t, q_sub t W → J 3 t = lN (q_tp (q_mc W A) T s t)) : ∃ J', fm_L_handOn (nI s) I J = some J' ∧ (∀ t, q_sub t W → J' 3 t = lN (q_tp (q_mc W A) T (s + 1) t)) ∧ (∀ k, k ≠ 3 → J' k = J k) := by
  obtain ⟨h5, hW, hb, hBW, hA⟩ := hx
  have hs16 : s < 65536 := q_sub_lt (n := 16) hW hs
  obtain ⟨rd, r1, r2, r3⟩ := ready_mc hb h5 hW hBW hA s
  have hTs : J 3 s = lN (T s) := by rw [h3 s hs, q_tp_T hc.1 hs16 (Nat.le_refl _)]
  obtain ⟨J', a1, a2, a3⟩ := for2 (fm_L_handOn_B24 (nI s) (nI rd) (lN (T s))) (fun m z => (∀ t, q_sub t W → z 3 t = lN (q_tq (q_mc W A) T s m t)) ∧ (∀ k, k ≠ 3 → z k = J k)) 16 (by decide) (I0 := J) ⟨fun t ht => h3 t ht, fun _ _ => rfl⟩ (by
    intro a J1 ha ⟨b1, b2⟩
    cases hm : q_mc W A s a with
    | false =>
      refine ⟨J1, ?_, ?_, b2⟩
      · unfold fm_L_handOn_B24
        rw [if_neg (n16 ha), if_pos ((m_bit0 (by omega) (by omega)).2 (by rw [r3, hm])), bnd_eq, c_1]
      · intro t ht
        rw [b1 t ht, q_tq_s, hm, Bool.and_false]
        congr 1
        show _ = _ + 0 * _
        omega
    | true =>
      have hsub := q_sub_or hs (q_mc_sub s a hm).2
      have hlt : s ||| 2 ^ a < 65536 := q_sub_lt (n := 16) hW hsub
      refine ⟨sJ J1 3 (s ||| 2 ^ a) (lN (q_tq (q_mc W A) T s a (s ||| 2 ^ a) + T s)), ?_, ?_, ?_⟩
      · unfold fm_L_handOn_B24
        rw [if_neg (n16 ha), if_neg (fun q => by have := (m_bit0 (by omega) (by omega)).1 q; rw [r3, hm] at this; cases this), c_shl (by omega), m_or, c_in hlt (by decide), c_gr, c_gr, c_cl (by omega), b1 _ hsub, lN_add, bnd_eq, bnd_eq, c_1]
      · intro t ht
        rw [q_tq_s, hm, Bool.and_true]
        by_cases e : t = s ||| 2 ^ a
        · subst e
          rw [sJ_same, q_beq_self]
          congr 1
          show _ = _ + 1 * _
          omega
        · rw [sJ_idx e, q_beq_ne e, b1 t ht]
          congr 1
          show _ = _ + 0 * _
          omega
      · intro k hk; rw [sJ_ne hk]; exact b2 k hk) (fun _ _ => rfl)
  refine ⟨J', ?_, ?_, a3⟩
  · unfold fm_L_handOn
    rw [r1, c_ob1, c_in hs16 (by decide), c_gr, c_cl (by omega), hTs, bnd_eq, a1, c_ob3]
  · intro t ht
    rw [a2 t ht, q_tq_16 (fun s a h => (q_mc_sub s a h).1)]
/-- the sets up to the i-th -/
def q_thr (W i : Nat) : Nat := if i < 2 ^ q_pop W then q_nth W i else W + 1
theorem q_thr_next {W : Nat} (hW : W < 2 ^ 16) {P : Nat → Prop} (hP : ∀ k, ¬ q_sub k W → P k → P (k + 1)) {i : Nat} (hi : i < 2 ^ q_pop W) (h : P (q_nth W i + 1)) : P (q_thr W (i + 1)) := by
  unfold q_thr
  by_cases e : i + 1 < 2 ^ q_pop W
  · rw [if_pos e]
    exact q_gap (lo := q_nth W i) (fun k h1 h2 hk => hP k (q_nth_gap hW e h1 h2) hk) h (q_nth_lt hW (by omega) e)
  · rw [if_neg e]
    have : i = 2 ^ q_pop W - 1 := by omega
    rw [this, q_nth_top hW] at h
    exact h
theorem heads_eq {I : IS} {W : Nat} {B A : Nat → Nat} {T F : Nat → Nat} (hx : Cx I W B A) (hc : Ct W A T F) (J : JS) : ∃ J', fm_L_countHeads I J = some J' ∧ (∀ t, q_sub t W → J' 3 t = lN (T t)) ∧ (∀ k, k ≠ 3 → J' k = J k) := by
  obtain ⟨h5, hW, hb, hBW, hA⟩ := id hx
  have h2 := q_two_pop W
  have h0p : 0 < 2 ^ q_pop W := Nat.two_pow_pos _
  obtain ⟨J1, c1, c2, c3⟩ := clear_eq h5 hW J
  unfold fm_L_countHeads
  obtain ⟨J', a1, a2, a3⟩ := for3 (fm_L_countHeads_B24 I (nI (2 ^ q_pop W))) (fun i => nI (q_nth W i)) (fun i z => (∀ t, q_sub t W → z 3 t = lN (q_tp (q_mc W A) T (q_thr W i) t)) ∧ (∀ k, k ≠ 3 → z k = J k)) 0 (2 ^ q_pop W) (Nat.zero_le _) (by omega) (I0 := sJ J1 3 0 1) ⟨fun t ht => by
      unfold q_thr
      rw [if_pos h0p, q_nth_0, q_tp_0]
      by_cases e : t = 0
      · subst e; rw [sJ_same]; rfl
      · rw [sJ_idx e, q_beq_ne e, c2 t ht]; exact l_0, fun k hk => by rw [sJ_ne hk]; exact c3 k hk⟩ (by
    intro i J2 _ hi ⟨b1, b2⟩
    have hth : q_thr W i = q_nth W i := by unfold q_thr; rw [if_pos hi]
    rw [hth] at b1
    have hsub := q_nth_sub W i
    have hlt := nth_lt hW i
    have hTs : J2 3 (q_nth W i) = lN (T (q_nth W i)) := by rw [b1 _ hsub, q_tp_T hc.1 hlt (Nat.le_refl _)]
    have hTb := hc.2.1 (q_nth W i)
    have nxt : ∀ J3 : JS, (∀ t, q_sub t W → J3 3 t = lN (q_tp (q_mc W A) T (q_nth W i + 1) t)) → ∀ t, q_sub t W → J3 3 t = lN (q_tp (q_mc W A) T (q_thr W (i + 1)) t) := by
      intro J3 hJ3
      apply q_thr_next hW (P := fun k => ∀ t, q_sub t W → J3 3 t = lN (q_tp (q_mc W A) T k t)) (fun k hk hP t ht => ?_) hi hJ3
      rw [q_tp_skip (fun s a h => (q_mc_sub s a h).1) (hc.2.2.2 k hk)]; exact hP t ht
    by_cases e : T (q_nth W i) = 0
    · refine ⟨J2, ?_, nxt J2 (fun t ht => ?_), b2⟩
      · unfold fm_L_countHeads_B24
        rw [if_neg (nI_ge hi (by omega)), c_in hlt (by decide), c_gr, c_cl (by omega), hTs, if_pos ((l_cmp0 (by omega)).2 e), h5, setAfter_eq hW, c_ob1, bnd_eq, c_1]
      · rw [q_tp_skip (fun s a h => (q_mc_sub s a h).1) e]; exact b1 t ht
    · obtain ⟨J3, d1, d2, d3⟩ := handOn_eq hx hc hsub b1
      refine ⟨J3, ?_, nxt J3 d2, fun k hk => (d3 k hk).trans (b2 k hk)⟩
      unfold fm_L_countHeads_B24
      rw [if_neg (nI_ge hi (by omega)), c_in hlt (by decide), c_gr, c_cl (by omega), hTs, if_neg (fun q => e ((l_cmp0 (by omega)).1 q)), d1, c_ob1, h5, setAfter_eq hW, c_ob1, bnd_eq, c_1]) (by
    intro J1 _
    unfold fm_L_countHeads_B24
    rw [if_pos (nI_le (Nat.le_refl _) (by omega))])
  refine ⟨J', ?_, ?_, a3⟩
  · rw [c1, c_ob1, show inB (0 : Int32) 65536 = true from c_in (n := 0) (by decide) (by decide), c_gr, show (0 : Int32).toNatClampNeg = 0 from c_cl (n := 0) (by decide), bnd_eq, size_eq h5 hW, c_ob1, sets_eq, bnd_eq, show ((0 : Int32), (0 : Int32), sJ J1 3 0 1) = (nI (q_nth W 0), nI 0, sJ J1 3 0 1) by rw [q_nth_0]; rfl, a1, c_ob4]
  · intro t ht
    have ht16 : t < 2 ^ 16 := q_sub_lt hW ht
    have := q_sub_le ht
    rw [a2 t ht]
    unfold q_thr
    rw [if_neg (Nat.lt_irrefl _), q_tp_T hc.1 ht16 (by omega)]
