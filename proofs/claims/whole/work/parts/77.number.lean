/-! The number of the row that was given -/
def Rw (r : Nat → Int32) (R : Nat → Nat) : Prop := ∀ i, i < 16 → (R i < 16 ∧ r i = nI (R i)) ∨ (R i = 16 ∧ r i = -1)
def q_rs (R : Nat → Nat) : Nat → Nat
  | 0 => 0
  | k + 1 => q_rs R k ||| 2 ^ R k
def q_ro (W : Nat) (A R : Nat → Nat) (k : Nat) : Bool := decide (R k < 16) && q_mc W A (q_rs R k) (R k)
def q_rn (W : Nat) (A F R : Nat → Nat) : Nat → Nat
  | 0 => 0
  | k + 1 => q_rn W A F R k + q_sum (q_of W A F (q_rs R k)) (R k)
theorem q_rs_ok {W : Nat} {A T F R : Nat → Nat} (hc : Ct W A T F) : ∀ k, (∀ j, j < k → q_ro W A R j = true) → q_sub (q_rs R k) W ∧ 0 < T (q_rs R k) := by
  intro k
  induction k with
  | zero =>
    intro _
    refine ⟨q_sub_0 W, ?_⟩
    show 0 < T 0
    rw [hc.1.2.2.1]; decide
  | succ k ih =>
    intro h
    obtain ⟨h1, h2⟩ := ih (fun j hj => h j (by omega))
    have hk := h k (by omega)
    unfold q_ro at hk
    rw [Bool.and_eq_true, decide_eq_true_eq] at hk
    have hm := hc.1.1 _ _ hk.2
    exact ⟨q_sub_or h1 hm.2, q_T_on hc.1 (q_sub_lt hc.1.2.1 h1) hk.1 hk.2 h2⟩
theorem m1_lt : (-1 : Int32) < 0 := by decide
theorem q_first {p : Nat → Bool} : ∀ n, (∀ j, j < n → p j = true) ∨ ∃ v, v < n ∧ p v = false ∧ ∀ j, j < v → p j = true := by
  intro n
  induction n with
  | zero => exact .inl (fun j hj => absurd hj (Nat.not_lt_zero _))
  | succ n ih =>
    rcases ih with h | ⟨v, h1, h2, h3⟩
    · cases hp : p n with
      | true => exact .inl (fun j hj => by by_cases e : j = n; (subst e; exact hp); exact h j (by omega))
      | false => exact .inr ⟨n, by omega, hp, h⟩
    · exact .inr ⟨v, by omega, h2, h3⟩
theorem allows_step {I : IS} {W : Nat} {A R : Nat → Nat} (hx : Hx I W A) (hR : Rw (I 16) R) {k : Nat} (hk : k < q_pop W) : fm_H_allows_B4 I (nI (q_rs R k)) (nI k) = some (cond (q_ro W A R k) (0, nI (q_rs R (k + 1)), nI (k + 1)) (2, nI (q_rs R k), nI k)) := by
  have h16 := q_pop_16 W
  have hk16 : k < 16 := by omega
  unfold fm_H_allows_B4
  rw [size_eq hx.1 hx.2.1, c_ob1, if_neg (nI_ge hk (by omega)), c_in hk16 (by decide), c_gr, c_cl (by omega), bnd_eq]
  unfold q_ro
  rcases hR k hk16 with ⟨h1, h2⟩ | ⟨h1, h2⟩
  · rw [h2, if_neg (nI_pos (by omega)), if_neg (n16 h1), mayCome_eq hx.1 hx.2.1 hx.2.2 h1, c_ob1, decide_eq_true h1, Bool.true_and]
    cases q_mc W A (q_rs R k) (R k) with
    | false => rw [bI_pos]; rfl
    | true => rw [bI_neg, bnd_eq, bnd_eq, c_1, c_shl (by omega), m_or]; rfl
  · rw [h2, if_pos m1_lt, decide_eq_false (by omega)]; rfl
theorem allows_end {I : IS} {W : Nat} {A R : Nat → Nat} (hx : Hx I W A) : fm_H_allows_B4 I (nI (q_rs R (q_pop W))) (nI (q_pop W)) = some (1, nI (q_rs R (q_pop W)), nI (q_pop W)) := by
  have h16 := q_pop_16 W
  unfold fm_H_allows_B4
  rw [size_eq hx.1 hx.2.1, c_ob1, if_pos (nI_le (Nat.le_refl _) (by omega))]
theorem allows_yes {I : IS} {W : Nat} {A R : Nat → Nat} (hx : Hx I W A) (hR : Rw (I 16) R) (h : ∀ j, j < q_pop W → q_ro W A R j = true) : fm_H_allows I = some 1 := by
  have h16 := q_pop_16 W
  unfold fm_H_allows
  rw [iter_st (z0 := ((0 : Int32), (0 : Int32))) (fun k => (nI (q_rs R k), nI k)) (q_pop W) 0 (z := (nI (q_rs R (q_pop W)), nI (q_pop W))) (by omega) rfl]
  · rfl
  · intro k hk
    show fm_H_allows_B4 I (nI (q_rs R k)) (nI k) = _
    rw [allows_step hx hR hk, h k hk]; rfl
  · exact allows_end hx
theorem allows_no {I : IS} {W : Nat} {A R : Nat → Nat} (hx : Hx I W A) (hR : Rw (I 16) R) {v : Nat} (hv : v < q_pop W) (hf : q_ro W A R v = false) (h : ∀ j, j < v → q_ro W A R j = true) : fm_H_allows I = some 0 := by
  have h16 := q_pop_16 W
  unfold fm_H_allows
  rw [iter_st (z0 := ((0 : Int32), (0 : Int32))) (fun k => (nI (q_rs R k), nI k)) v 1 (z := (nI (q_rs R v), nI v)) (by omega) rfl]
  · rfl
  · intro k hk
    show fm_H_allows_B4 I (nI (q_rs R k)) (nI k) = _
    rw [allows_step hx hR (by omega), h k hk]; rfl
  · show fm_H_allows_B4 I (nI (q_rs R v)) (nI v) = _
    rw [allows_step hx hR hv, hf]; rfl
theorem numIn_eq {I : IS} {J : JS} {W : Nat} {A T F : Nat → Nat} (hx : Hx I W A) (hc : Ct W A T F) (h4 : ∀ t, q_sub t W → 0 < T t → J 4 t = lN (F t)) {s i a : Nat} (hs : q_sub s W) (hT : 0 < T s) (hi : i < 16) (ha : a < 16) (hr : I 16 i = nI a) (y : Nat) : iter (fun z : Int64 × Int32 => fm_L_numberOfRow_B20 I J (nI s) (nI i) z.1 z.2) FU (lN y, (0 : Int32)) = some (1, lN (y + q_sum (q_of W A F s) a), nI a) := by
  apply iter_st (fun k => (lN (y + q_sum (q_of W A F s) k), nI k)) a 0 (by omega) rfl
  · intro k hk
    have hk16 : k < 16 := by omega
    show fm_L_numberOfRow_B20 I J (nI s) (nI i) (lN (y + q_sum (q_of W A F s) k)) (nI k) = _
    unfold fm_L_numberOfRow_B20
    rw [c_in hi (by decide), c_gr, c_cl (by omega), hr, if_neg (nI_ge hk (by omega)), mayCome_eq hx.1 hx.2.1 hx.2.2 hk16, c_ob1]
    have hsk : q_sum (q_of W A F s) (k + 1) = q_sum (q_of W A F s) k + q_b (q_mc W A s k) * F (s ||| 2 ^ k) := rfl
    cases hm : q_mc W A s k with
    | false =>
      rw [hm, show q_b false = 0 from rfl, Nat.zero_mul] at hsk
      rw [bI_pos, bnd_eq, bnd_eq, c_1, hsk, l_0, lN_add]
      rfl
    | true =>
      have hm1 := hc.1.1 _ _ hm
      have hin := or_in hx.2.1 hs hk16
      have hsub := q_sub_or hs hm1.2
      rw [hm, show q_b true = 1 from rfl, Nat.one_mul] at hsk
      rw [bI_neg, c_shl (by omega), m_or, c_in hin (by decide), c_gr, c_cl (by omega), h4 _ hsub (q_T_on hc.1 (q_sub_lt hx.2.1 hs) hk16 hm hT), bnd_eq, bnd_eq, c_1, hsk, lN_add, Nat.add_assoc]
  · show fm_L_numberOfRow_B20 I J (nI s) (nI i) (lN (y + q_sum (q_of W A F s) a)) (nI a) = _
    unfold fm_L_numberOfRow_B20
    rw [c_in hi (by decide), c_gr, c_cl (by omega), hr, if_pos (nI_le (Nat.le_refl _) (by omega))]
theorem numberOfRow_eq {I : IS} {J : JS} {W : Nat} {A T F R : Nat → Nat} (hx : Hx I W A) (hc : Ct W A T F) (h4 : ∀ t, q_sub t W → 0 < T t → J 4 t = lN (F t)) (hR : Rw (I 16) R) (h : ∀ j, j < q_pop W → q_ro W A R j = true) : fm_L_numberOfRow I J = some (lN (q_rn W A F R (q_pop W))) := by
  have h16 := q_pop_16 W
  unfold fm_L_numberOfRow
  rw [iter_st (z0 := ((0 : Int64), (0 : Int32), (0 : Int32))) (fun k => (lN (q_rn W A F R k), nI (q_rs R k), nI k)) (q_pop W) 0 (z := (lN (q_rn W A F R (q_pop W)), nI (q_rs R (q_pop W)), nI (q_pop W))) (by omega) rfl]
  · rfl
  · intro k hk
    have hk16 : k < 16 := by omega
    obtain ⟨b1, b2⟩ := q_rs_ok hc k (fun j hj => h j (by omega))
    have ho := h k hk
    unfold q_ro at ho
    rw [Bool.and_eq_true, decide_eq_true_eq] at ho
    have hr : I 16 k = nI (R k) := by
      rcases hR k hk16 with ⟨_, h2⟩ | ⟨h1, _⟩
      · exact h2
      · omega
    show fm_L_numberOfRow_B8 I J (lN (q_rn W A F R k)) (nI (q_rs R k)) (nI k) = _
    unfold fm_L_numberOfRow_B8
    rw [size_eq hx.1 hx.2.1, c_ob1, if_neg (nI_ge hk (by omega)), numIn_eq hx hc h4 b1 b2 hk16 ho.1 hr, c_ob3, c_in hk16 (by decide), c_gr, c_cl (by omega), hr, bnd_eq, bnd_eq, c_1, c_shl (by omega), m_or]
    rfl
  · show fm_L_numberOfRow_B8 I J (lN (q_rn W A F R (q_pop W))) (nI (q_rs R (q_pop W))) (nI (q_pop W)) = _
    unfold fm_L_numberOfRow_B8
    rw [size_eq hx.1 hx.2.1, c_ob1, if_pos (nI_le (Nat.le_refl _) (by omega))]
theorem mnumIn_eq {I : IS} {J : JS} {W : Nat} {A T F : Nat → Nat} (hx : Mx I W A) (hc : Ct W A T F) (hM : Mc J W T F) {s i a : Nat} (hs : q_sub s W) (hT : 0 < T s) (hi : i < 16) (ha : a < 16) (hr : I 15 i = nI a) (y : Nat) : iter (fun z : Int64 × Int32 => fm_M_numberOf_B75 I J (nI s) (nI i) z.1 z.2) FU (lN y, (0 : Int32)) = some (1, lN (y + q_sum (q_of W A F s) a), nI a) := by
  have hs16 := q_sub_lt hx.2.1 hs
  apply iter_st (fun k => (lN (y + q_sum (q_of W A F s) k), nI k)) a 0 (by omega) rfl
  · intro k hk
    have hk16 : k < 16 := by omega
    show fm_M_numberOf_B75 I J (nI s) (nI i) (lN (y + q_sum (q_of W A F s) k)) (nI k) = _
    unfold fm_M_numberOf_B75
    rw [c_in hi (by decide), c_gr, c_cl (by omega), hr, if_neg (nI_ge hk (by omega)), mmay_eq hx.1 hx.2.1 hx.2.2 hk16 (by omega), c_ob1]
    have hsk : q_sum (q_of W A F s) (k + 1) = q_sum (q_of W A F s) k + q_b (q_mc W A s k) * F (s ||| 2 ^ k) := rfl
    cases hm : q_mc W A s k with
    | false =>
      rw [hm, show q_b false = 0 from rfl, Nat.zero_mul] at hsk
      rw [bI_pos, bnd_eq, c_1, hsk]
      rfl
    | true =>
      have hm1 := hc.1.1 _ _ hm
      have hin := or_in hx.2.1 hs hk16
      have hsub := q_sub_or hs hm1.2
      rw [hm, show q_b true = 1 from rfl, Nat.one_mul] at hsk
      rw [bI_neg, c_shl (by omega), m_or, c_in hin (by decide), c_gr, c_cl (by omega), (hM _ (q_sub_le hsub)).2 (q_T_on hc.1 hs16 hk16 hm hT), bnd_eq, bnd_eq, c_1, hsk, lN_add, Nat.add_assoc]
  · show fm_M_numberOf_B75 I J (nI s) (nI i) (lN (y + q_sum (q_of W A F s) a)) (nI a) = _
    unfold fm_M_numberOf_B75
    rw [c_in hi (by decide), c_gr, c_cl (by omega), hr, if_pos (nI_le (Nat.le_refl _) (by omega))]
theorem mnum_step {I : IS} {J : JS} {W : Nat} {A T F R : Nat → Nat} (hx : Mx I W A) (hc : Ct W A T F) (hM : Mc J W T F) (hR : Rw (I 15) R) {k : Nat} (hk : k < q_pop W) (h : ∀ j, j < k → q_ro W A R j = true) : fm_M_numberOf_B30 I J (lN (q_rn W A F R k)) (nI (q_rs R k)) (nI k) = some (cond (q_ro W A R k) (0, lN (q_rn W A F R (k + 1)), nI (q_rs R (k + 1)), nI (k + 1)) (2, lN (q_rn W A F R k), nI (q_rs R k), nI k)) := by
  have h16 := q_pop_16 W
  have hk16 : k < 16 := by omega
  obtain ⟨b1, b2⟩ := q_rs_ok hc k h
  have hs16 := q_sub_lt hx.2.1 b1
  unfold fm_M_numberOf_B30
  have hW := hx.2.1
  rw [hx.1, mbits_eq (by omega), c_ob1, if_neg (nI_ge hk (by omega)), c_in hk16 (by decide), c_gr, c_cl (by omega)]
  unfold q_ro
  rcases hR k hk16 with ⟨h1, h2⟩ | ⟨h1, h2⟩
  · rw [h2, if_neg (nI_pos (by omega)), c_gr, mmay_eq hx.1 hx.2.1 hx.2.2 h1 (by omega), c_ob1, decide_eq_true h1, Bool.true_and]
    cases q_mc W A (q_rs R k) (R k) with
    | false => rw [bI_pos]; rfl
    | true => rw [bI_neg, mnumIn_eq hx hc hM b1 b2 hk16 h1 h2, c_ob3, c_gr, bnd_eq, bnd_eq, c_1, c_shl (by omega), m_or]; rfl
  · rw [h2, if_pos m1_lt, decide_eq_false (by omega)]; rfl
theorem mnum_yes {I : IS} {J : JS} {W : Nat} {A T F R : Nat → Nat} (hx : Mx I W A) (hc : Ct W A T F) (hM : Mc J W T F) (hR : Rw (I 15) R) (h : ∀ j, j < q_pop W → q_ro W A R j = true) : iter (fun z : Int64 × Int32 × Int32 => fm_M_numberOf_B30 I J z.1 z.2.1 z.2.2) FU ((0 : Int64), (0 : Int32), (0 : Int32)) = some (1, lN (q_rn W A F R (q_pop W)), nI (q_rs R (q_pop W)), nI (q_pop W)) := by
  have h16 := q_pop_16 W
  apply iter_st (fun k => (lN (q_rn W A F R k), nI (q_rs R k), nI k)) (q_pop W) 0 (by omega) rfl
  · intro k hk
    show fm_M_numberOf_B30 I J (lN (q_rn W A F R k)) (nI (q_rs R k)) (nI k) = _
    rw [mnum_step hx hc hM hR hk (fun j hj => h j (by omega)), h k hk]; rfl
  · show fm_M_numberOf_B30 I J (lN (q_rn W A F R (q_pop W))) (nI (q_rs R (q_pop W))) (nI (q_pop W)) = _
    unfold fm_M_numberOf_B30
    have hW := hx.2.1
    rw [hx.1, mbits_eq (by omega), c_ob1, if_pos (nI_le (Nat.le_refl _) (by omega))]
theorem mnum_no {I : IS} {J : JS} {W : Nat} {A T F R : Nat → Nat} (hx : Mx I W A) (hc : Ct W A T F) (hM : Mc J W T F) (hR : Rw (I 15) R) {v : Nat} (hv : v < q_pop W) (hf : q_ro W A R v = false) (h : ∀ j, j < v → q_ro W A R j = true) : ∃ z, iter (fun z : Int64 × Int32 × Int32 => fm_M_numberOf_B30 I J z.1 z.2.1 z.2.2) FU ((0 : Int64), (0 : Int32), (0 : Int32)) = some (2, z) := by
  have h16 := q_pop_16 W
  refine ⟨(lN (q_rn W A F R v), nI (q_rs R v), nI v), ?_⟩
  apply iter_st (fun k => (lN (q_rn W A F R k), nI (q_rs R k), nI k)) v 1 (by omega) rfl
  · intro k hk
    show fm_M_numberOf_B30 I J (lN (q_rn W A F R k)) (nI (q_rs R k)) (nI k) = _
    rw [mnum_step hx hc hM hR (by omega) (fun j hj => h j (by omega)), h k hk]; rfl
  · show fm_M_numberOf_B30 I J (lN (q_rn W A F R v)) (nI (q_rs R v)) (nI v) = _
    rw [mnum_step hx hc hM hR hv h, hf]; rfl
