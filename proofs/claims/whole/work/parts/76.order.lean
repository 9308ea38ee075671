/-! The n-th order: both sides pick the same entries -/
def q_pk (f : Nat → Nat) (l : Nat) : Nat → Nat
  | 0 => 0
  | n + 1 => if l < q_sum f n then q_pk f l n else n
theorem q_pk_ok {f : Nat → Nat} {l : Nat} : ∀ {n : Nat}, l < q_sum f n → q_pk f l n < n ∧ q_sum f (q_pk f l n) ≤ l ∧ l < q_sum f (q_pk f l n + 1) := by
  intro n
  induction n with
  | zero => intro h; exact absurd h (Nat.not_lt_zero _)
  | succ n ih =>
    intro h
    unfold q_pk
    by_cases e : l < q_sum f n
    · rw [if_pos e]
      have := ih e
      exact ⟨by omega, this.2⟩
    · rw [if_neg e]
      exact ⟨by omega, by omega, h⟩
def q_of (W : Nat) (A F : Nat → Nat) (s a : Nat) : Nat := q_b (q_mc W A s a) * F (s ||| 2 ^ a)
def q_op (W : Nat) (A F : Nat → Nat) (s l : Nat) : Nat := q_pk (q_of W A F s) l 16
/-- what is left of the number, and who stands already -/
def q_os (W : Nat) (A F : Nat → Nat) (n : Nat) : Nat → Nat × Nat
  | 0 => (n, 0)
  | k + 1 => ((q_os W A F n k).1 - q_sum (q_of W A F (q_os W A F n k).2) (q_op W A F (q_os W A F n k).2 (q_os W A F n k).1), (q_os W A F n k).2 ||| 2 ^ q_op W A F (q_os W A F n k).2 (q_os W A F n k).1)
theorem q_op_ok {W : Nat} {A T F : Nat → Nat} (hc : Ct W A T F) {s l : Nat} (hs : q_sub s W) (hT : 0 < T s) (hne : s ≠ W) (hl : l < F s) : q_op W A F s l < 16 ∧ q_mc W A s (q_op W A F s l) = true ∧ q_sum (q_of W A F s) (q_op W A F s l) ≤ l ∧ l - q_sum (q_of W A F s) (q_op W A F s l) < F (s ||| 2 ^ q_op W A F s l) := by
  have hF := hc.1.2.2.2.2.2 s (q_sub_lt hc.1.2.1 hs) hT hne
  rw [hF] at hl
  obtain ⟨h1, h2, h3⟩ := q_pk_ok (f := q_of W A F s) hl
  rw [q_sum_s] at h3
  have h4 : q_of W A F s (q_op W A F s l) = q_b (q_mc W A s (q_op W A F s l)) * F (s ||| 2 ^ q_op W A F s l) := rfl
  show q_op W A F s l < 16 ∧ _
  have h5 : q_pk (q_of W A F s) l 16 = q_op W A F s l := rfl
  rw [h5] at h1 h2 h3
  cases hm : q_mc W A s (q_op W A F s l) with
  | false => rw [hm] at h4; rw [h4, show q_b false = 0 from rfl, Nat.zero_mul] at h3; omega
  | true =>
    rw [hm, show q_b true = 1 from rfl, Nat.one_mul] at h4
    exact ⟨h1, rfl, h2, by omega⟩
theorem q_os_ok {W : Nat} {A T F : Nat → Nat} (hc : Ct W A T F) {n : Nat} (hn : n < F 0) : ∀ k, k ≤ q_pop W → q_sub (q_os W A F n k).2 W ∧ 0 < T (q_os W A F n k).2 ∧ q_pop (q_os W A F n k).2 = k ∧ (q_os W A F n k).1 < F (q_os W A F n k).2 := by
  intro k
  induction k with
  | zero =>
    intro _
    refine ⟨q_sub_0 W, ?_, q_pop_0, hn⟩
    show 0 < T 0
    rw [hc.1.2.2.1]; decide
  | succ k ih =>
    intro hk
    obtain ⟨h1, h2, h3, h4⟩ := ih (by omega)
    have hne : (q_os W A F n k).2 ≠ W := by intro q; rw [q] at h3; omega
    obtain ⟨a1, a2, a3, a4⟩ := q_op_ok hc h1 h2 hne h4
    have hm := hc.1.1 _ _ a2
    exact ⟨q_sub_or h1 hm.2, q_T_on hc.1 (q_sub_lt hc.1.2.1 h1) a1 a2 h2, by show q_pop (_ ||| _) = _; rw [q_pop_or a1 hm.1, h3], a4⟩
def Hx (I : IS) (W : Nat) (A : Nat → Nat) : Prop := I 5 0 = nI W ∧ W < 2 ^ 16 ∧ ∀ a, a < 16 → I 4 a = nI (A a) ∧ A a < 2 ^ 16
theorem q_F63 {W : Nat} {A T F : Nat → Nat} (hc : Ct W A T F) {s : Nat} (hs : q_sub s W) : F s < 2 ^ 63 := by
  have := hc.2.2.1 s hs
  omega
theorem or_in {s W a : Nat} (hW : W < 2 ^ 16) (hs : q_sub s W) (ha : a < 16) : s ||| 2 ^ a < 65536 := or_lt (n := 16) (q_sub_lt hW hs) (Nat.pow_lt_pow_right (by decide) ha)
theorem entIn_eq {I : IS} {J : JS} {W : Nat} {A T F : Nat → Nat} (hx : Hx I W A) (hc : Ct W A T F) (h4 : ∀ t, q_sub t W → 0 < T t → J 4 t = lN (F t)) {s l : Nat} (hs : q_sub s W) (hT : 0 < T s) (hne : s ≠ W) (hl : l < F s) : ∃ x, iter (fun z : Int64 × Int32 × Int32 × Int32 => fm_L_entryAt_B25 I J z.1 z.2.1 z.2.2.1 z.2.2.2) FU (lN l, nI s, (-1 : Int32), (0 : Int32)) = some (1, lN (l - q_sum (q_of W A F s) (q_op W A F s l)), nI (s ||| 2 ^ q_op W A F s l), nI (q_op W A F s l), x) := by
  obtain ⟨a1, a2, a3, a4⟩ := q_op_ok hc hs hT hne hl
  generalize hp : q_op W A F s l = p at *
  have hF := q_F63 hc hs
  have hsum : ∀ k, k ≤ p → q_sum (q_of W A F s) k ≤ l := fun k hk => Nat.le_trans (q_sum_mono _ hk) a3
  have hs16 := q_sub_lt hx.2.1 hs
  refine ⟨nI (p + 1), ?_⟩
  apply iter_st (fun k => if k ≤ p then (lN (l - q_sum (q_of W A F s) k), nI s, (-1 : Int32), nI k) else (lN (l - q_sum (q_of W A F s) p), nI (s ||| 2 ^ p), nI p, nI k)) (p + 1) 0 (by omega)
  · rw [if_pos (Nat.zero_le _)]
    show _ = (lN (l - 0), _, _, _)
    rfl
  · intro k hk
    have hk16 : k < 16 := by omega
    rw [if_pos (by omega : k ≤ p)]
    show fm_L_entryAt_B25 I J (lN (l - q_sum (q_of W A F s) k)) (nI s) (-1) (nI k) = _
    unfold fm_L_entryAt_B25
    rw [if_neg (n16 hk16), if_pos rfl, mayCome_eq hx.1 hx.2.1 hx.2.2 hk16, c_ob1]
    have hsk : q_sum (q_of W A F s) (k + 1) = q_sum (q_of W A F s) k + q_b (q_mc W A s k) * F (s ||| 2 ^ k) := rfl
    cases hm : q_mc W A s k with
    | false =>
      rw [bI_pos]
      have hkp : k ≠ p := by intro q; subst q; rw [hm] at a2; cases a2
      rw [hm, show q_b false = 0 from rfl, Nat.zero_mul, Nat.add_zero] at hsk
      unfold fm_L_entryAt_j65
      rw [if_pos (by rw [lg_cmp_ge, l_0, l_le (by decide) (by omega)]; omega), bnd_eq, bnd_eq, c_1, if_pos (by omega : k + 1 ≤ p), hsk, l_0, lN_sub (Nat.zero_le _), Nat.sub_zero]
      rfl
    | true =>
      have hm1 := hc.1.1 _ _ hm
      have hin := or_in hx.2.1 hs hk16
      have hTk := q_T_on hc.1 hs16 hk16 hm hT
      have hsub := q_sub_or hs hm1.2
      have hFk := q_F63 hc hsub
      rw [bI_neg, c_shl (by omega), m_or, c_in hin (by decide), c_gr, c_cl (by omega), h4 _ hsub hTk]
      rw [hm, show q_b true = 1 from rfl, Nat.one_mul] at hsk
      unfold fm_L_entryAt_j65
      by_cases hkp : k = p
      · subst hkp
        rw [if_neg (by rw [lg_cmp_ge, l_le hFk (by omega)]; omega), bnd_eq, bnd_eq, c_shl (by omega), m_or, c_1, if_neg (by omega : ¬ k + 1 ≤ k)]
      · have h1 := hsum (k + 1) (by omega)
        rw [if_pos (by rw [lg_cmp_ge, l_le hFk (by omega)]; omega), bnd_eq, bnd_eq, c_1, if_pos (by omega : k + 1 ≤ p), hsk, lN_sub (by omega), Nat.sub_add_eq]
  · rw [if_neg (by omega)]
    show fm_L_entryAt_B25 I J (lN (l - q_sum (q_of W A F s) p)) (nI (s ||| 2 ^ p)) (nI p) (nI (p + 1)) = _
    unfold fm_L_entryAt_B25
    have : ¬ nI p = (-1 : Int32) := by
      intro q
      have := nI_pos (n := p) (by omega)
      rw [q] at this
      exact this (by decide)
    rw [if_neg this]
    split <;> rfl
theorem mordIn_eq {I : IS} {J : JS} {W : Nat} {A T F : Nat → Nat} (hx : Mx I W A) (hc : Ct W A T F) (hM : Mc J W T F) {s l : Nat} (hs : q_sub s W) (hT : 0 < T s) (hne : s ≠ W) (hl : l < F s) : iter (fun z : Int64 × Int32 × Int32 => fm_M_order_B82 I J (nI s) z.1 z.2.1 z.2.2) FU (lN l, (0 : Int32), (0 : Int32)) = some (1, lN (l - q_sum (q_of W A F s) (q_op W A F s l)), nI (q_op W A F s l), (1 : Int32)) := by
  obtain ⟨a1, a2, a3, a4⟩ := q_op_ok hc hs hT hne hl
  generalize hp : q_op W A F s l = p at *
  have hF := q_F63 hc hs
  have hsum : ∀ k, k ≤ p → q_sum (q_of W A F s) k ≤ l := fun k hk => Nat.le_trans (q_sum_mono _ hk) a3
  have hs16 := q_sub_lt hx.2.1 hs
  apply iter_st (fun k => if k ≤ p then (lN (l - q_sum (q_of W A F s) k), nI k, (0 : Int32)) else (lN (l - q_sum (q_of W A F s) p), nI p, (1 : Int32))) (p + 1) 0 (by omega)
  · rw [if_pos (Nat.zero_le _)]
    show _ = (lN (l - 0), _, _)
    rfl
  · intro k hk
    have hk16 : k < 16 := by omega
    rw [if_pos (by omega : k ≤ p)]
    show fm_M_order_B82 I J (nI s) (lN (l - q_sum (q_of W A F s) k)) (nI k) 0 = _
    unfold fm_M_order_B82
    rw [if_pos rfl, mmay_eq hx.1 hx.2.1 hx.2.2 hk16 (by omega), c_ob1]
    have hsk : q_sum (q_of W A F s) (k + 1) = q_sum (q_of W A F s) k + q_b (q_mc W A s k) * F (s ||| 2 ^ k) := rfl
    cases hm : q_mc W A s k with
    | false =>
      rw [bI_pos, if_pos rfl]
      have hkp : k ≠ p := by intro q; subst q; rw [hm] at a2; cases a2
      rw [hm, show q_b false = 0 from rfl, Nat.zero_mul, Nat.add_zero] at hsk
      rw [bnd_eq, c_1, if_pos (by omega : k + 1 ≤ p), hsk]
      rfl
    | true =>
      have hm1 := hc.1.1 _ _ hm
      have hin := or_in hx.2.1 hs hk16
      have hTk := q_T_on hc.1 hs16 hk16 hm hT
      have hsub := q_sub_or hs hm1.2
      have hFk := q_F63 hc hsub
      rw [bI_neg, c_shl (by omega), m_or, c_in hin (by decide), c_gr, c_cl (by omega), c_gr, (hM _ (q_sub_le hsub)).2 hTk]
      rw [hm, show q_b true = 1 from rfl, Nat.one_mul] at hsk
      by_cases hkp : k = p
      · subst hkp
        rw [if_neg (by rw [lg_cmp_ge, l_le hFk (by omega)]; omega), if_neg (by omega : ¬ k + 1 ≤ k)]
      · have h1 := hsum (k + 1) (by omega)
        rw [if_pos (by rw [lg_cmp_ge, l_le hFk (by omega)]; omega), bnd_eq, if_pos rfl, bnd_eq, c_1, if_pos (by omega : k + 1 ≤ p), hsk, lN_sub (by omega), Nat.sub_add_eq]
  · rw [if_neg (by omega)]
    show fm_M_order_B82 I J (nI s) (lN (l - q_sum (q_of W A F s) p)) (nI p) 1 = _
    unfold fm_M_order_B82
    rw [if_neg (by decide)]
def q_oe (W : Nat) (A F : Nat → Nat) (n : Nat) : Nat → Int32
  | 0 => -1
  | k + 1 => nI (q_op W A F (q_os W A F n k).2 (q_os W A F n k).1)
theorem entryAt_eq {I : IS} {J : JS} {W : Nat} {A T F : Nat → Nat} (hx : Hx I W A) (hc : Ct W A T F) (h4 : ∀ t, q_sub t W → 0 < T t → J 4 t = lN (F t)) {n r : Nat} (hn : n < F 0) (hr : r ≤ q_pop W) : fm_L_entryAt (lN n) (nI r) I J = some (q_oe W A F n r) := by
  have h16 := q_pop_16 W
  unfold fm_L_entryAt
  rw [iter_st (z0 := (lN n, (0 : Int32), (-1 : Int32), (1 : Int32))) (fun k => (lN (q_os W A F n k).1, nI (q_os W A F n k).2, q_oe W A F n k, nI (k + 1))) r 0 (z := (lN (q_os W A F n r).1, nI (q_os W A F n r).2, q_oe W A F n r, nI (r + 1))) (by omega) rfl]
  · rfl
  · intro k hk
    obtain ⟨b1, b2, b3, b4⟩ := q_os_ok hc hn k (by omega)
    have hne : (q_os W A F n k).2 ≠ W := by intro q; rw [q] at b3; omega
    show fm_L_entryAt_B12 (nI r) I J (lN (q_os W A F n k).1) (nI (q_os W A F n k).2) (q_oe W A F n k) (nI (k + 1)) = _
    unfold fm_L_entryAt_B12
    obtain ⟨x, hi⟩ := entIn_eq hx hc h4 b1 b2 hne b4
    rw [if_neg (nI_nlt (by omega) (by omega)), hi, c_ob5, bnd_eq, c_1]
    rfl
  · show fm_L_entryAt_B12 (nI r) I J (lN (q_os W A F n r).1) (nI (q_os W A F n r).2) (q_oe W A F n r) (nI (r + 1)) = _
    unfold fm_L_entryAt_B12
    rw [if_pos (nI_lt (by omega) (by omega))]
theorem mordAt_eq {I : IS} {J : JS} {W : Nat} {A T F : Nat → Nat} (hx : Mx I W A) (hc : Ct W A T F) (hM : Mc J W T F) {n r : Nat} (hn : n < F 0) (hr : r ≤ q_pop W) : iter (fun z : Int64 × Int32 × Int32 × Int32 => fm_M_order_B69 (nI r) I J z.1 z.2.1 z.2.2.1 z.2.2.2) FU (lN n, (0 : Int32), (-1 : Int32), (0 : Int32)) = some (1, lN (q_os W A F n r).1, nI (q_os W A F n r).2, q_oe W A F n r, nI r) := by
  have h16 := q_pop_16 W
  apply iter_st (fun k => (lN (q_os W A F n k).1, nI (q_os W A F n k).2, q_oe W A F n k, nI k)) r 0 (by omega) rfl
  · intro k hk
    obtain ⟨b1, b2, b3, b4⟩ := q_os_ok hc hn k (by omega)
    have hne : (q_os W A F n k).2 ≠ W := by intro q; rw [q] at b3; omega
    have hop := q_op_ok hc b1 b2 hne b4
    show fm_M_order_B69 (nI r) I J (lN (q_os W A F n k).1) (nI (q_os W A F n k).2) (q_oe W A F n k) (nI k) = _
    unfold fm_M_order_B69
    rw [if_neg (nI_ge (by omega) (by omega)), mordIn_eq hx hc hM b1 b2 hne b4, c_ob4, bnd_eq, bnd_eq, c_1, c_shl (by omega), m_or]
    rfl
  · show fm_M_order_B69 (nI r) I J (lN (q_os W A F n r).1) (nI (q_os W A F n r).2) (q_oe W A F n r) (nI r) = _
    unfold fm_M_order_B69
    rw [if_pos (nI_le (Nat.le_refl _) (by omega))]
