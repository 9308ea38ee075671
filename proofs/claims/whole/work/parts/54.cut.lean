/-! Orders: how many ways lead to a set, and on from it -/
theorem q_tb2 (a i : Nat) : (2 ^ a).testBit i = Nat.beq i a := by
  rw [Nat.testBit_two_pow]
  by_cases e : a = i
  · subst e; rw [q_beq_self]; simp
  · rw [q_beq_ne (fun h => e h.symm)]; simp [e]
theorem q_or_bit (s a i : Nat) : (s ||| 2 ^ a).testBit i = (s.testBit i || Nat.beq i a) := by rw [Nat.testBit_or, q_tb2]
theorem q_xor_bit (s a i : Nat) : (s ^^^ 2 ^ a).testBit i = (s.testBit i ^^ Nat.beq i a) := by rw [Nat.testBit_xor, q_tb2]
theorem q_or_xor {s a : Nat} (h : s.testBit a = false) : s ||| 2 ^ a = s ^^^ 2 ^ a := by
  apply Nat.eq_of_testBit_eq
  intro i
  rw [q_or_bit, q_xor_bit]
  by_cases e : i = a
  · subst e; rw [h, q_beq_self]; rfl
  · rw [q_beq_ne e]; cases s.testBit i <;> rfl
theorem q_xor_or {s a : Nat} (h : s.testBit a = true) : (s ^^^ 2 ^ a) ||| 2 ^ a = s := by
  apply Nat.eq_of_testBit_eq
  intro i
  rw [q_or_bit, q_xor_bit]
  by_cases e : i = a
  · subst e; rw [h, q_beq_self]; rfl
  · rw [q_beq_ne e]; cases s.testBit i <;> rfl
theorem q_or_xor2 {s a : Nat} (h : s.testBit a = false) : (s ||| 2 ^ a) ^^^ 2 ^ a = s := by
  apply Nat.eq_of_testBit_eq
  intro i
  rw [q_xor_bit, q_or_bit]
  by_cases e : i = a
  · subst e; rw [h, q_beq_self]; rfl
  · rw [q_beq_ne e]; cases s.testBit i <;> rfl
theorem q_xor_lt {s a n : Nat} (hs : s < 2 ^ n) (ha : a < n) : s ^^^ 2 ^ a < 2 ^ n := Nat.xor_lt_two_pow hs (Nat.pow_lt_pow_right (by decide) ha)
theorem q_or_lt {s a n : Nat} (hs : s < 2 ^ n) (ha : a < n) : s ||| 2 ^ a < 2 ^ n := Nat.or_lt_two_pow hs (Nat.pow_lt_pow_right (by decide) ha)
theorem q_hi {w n i : Nat} (h : w < 2 ^ n) (hi : n ≤ i) : w.testBit i = false := Nat.testBit_lt_two_pow (Nat.lt_of_lt_of_le h (Nat.pow_le_pow_right (by decide) hi))
theorem q_lt_or {s a : Nat} (h : s.testBit a = false) : s < s ||| 2 ^ a := by
  have h1 : s ≤ s ||| 2 ^ a := Nat.left_le_or
  have h2 : s ≠ s ||| 2 ^ a := by
    intro e
    have : (s ||| 2 ^ a).testBit a = true := by rw [q_or_bit, q_beq_self]; cases s.testBit a <;> rfl
    rw [← e, h] at this; cases this
  omega
theorem q_xor_lt_self {s a : Nat} (h : s.testBit a = true) : s ^^^ 2 ^ a < s := by
  have h1 : (s ^^^ 2 ^ a).testBit a = false := by rw [q_xor_bit, h, q_beq_self]; rfl
  have := q_lt_or h1
  rw [q_xor_or h] at this
  exact this
theorem q_top_bit {n s : Nat} (hs : s < 2 ^ n) (i : Nat) : (2 ^ n + s).testBit i = (Nat.beq i n || s.testBit i) := by
  have h := Nat.two_pow_add_eq_or_of_lt hs 1
  rw [Nat.mul_one] at h
  rw [h, Nat.testBit_or, q_tb2]
/-- all sets, one entry turned about -/
theorem q_sum_xor (a : Nat) : ∀ (n : Nat) (f : Nat → Nat), a < n → q_sum f (2 ^ n) = q_sum (fun s => f (s ^^^ 2 ^ a)) (2 ^ n)
  | 0, _, h => absurd h (Nat.not_lt_zero _)
  | n + 1, f, h => by
    have e2 : 2 ^ (n + 1) = 2 ^ n + 2 ^ n := by rw [Nat.pow_succ]; omega
    rw [e2, q_sum_split, q_sum_split]
    by_cases e : a = n
    · subst e
      have h1 : q_sum (fun i => f ((2 ^ a + i) ^^^ 2 ^ a)) (2 ^ a) = q_sum f (2 ^ a) := q_sum_congr (fun i hi => by
        congr 1
        apply Nat.eq_of_testBit_eq
        intro j
        rw [q_xor_bit, q_top_bit hi]
        by_cases e : j = a
        · subst e; rw [q_beq_self, q_hi hi (Nat.le_refl _)]; rfl
        · rw [q_beq_ne e]; cases i.testBit j <;> rfl)
      have h2 : q_sum (fun i => f (i ^^^ 2 ^ a)) (2 ^ a) = q_sum (fun i => f (2 ^ a + i)) (2 ^ a) := q_sum_congr (fun i hi => by
        congr 1
        apply Nat.eq_of_testBit_eq
        intro j
        rw [q_xor_bit, q_top_bit hi]
        by_cases e : j = a
        · subst e; rw [q_beq_self, q_hi hi (Nat.le_refl _)]; rfl
        · rw [q_beq_ne e]; cases i.testBit j <;> rfl)
      rw [h1, h2]; omega
    · have ha : a < n := by omega
      rw [q_sum_xor a n f ha, q_sum_xor a n (fun i => f (2 ^ n + i)) ha]
      congr 1
      apply q_sum_congr
      intro i hi
      show f (2 ^ n + (i ^^^ 2 ^ a)) = f ((2 ^ n + i) ^^^ 2 ^ a)
      congr 1
      apply Nat.eq_of_testBit_eq
      intro j
      rw [q_xor_bit, q_top_bit hi, q_top_bit (q_xor_lt hi ha), q_xor_bit]
      by_cases e1 : j = n
      · subst e1; rw [q_beq_self, q_hi hi (Nat.le_refl _), q_beq_ne (i := j) (x := a) (by omega)]; rfl
      · rw [q_beq_ne e1]; rfl
/-- the numbers of ways T to each set, F on from it -/
def q_TF (mc : Nat → Nat → Bool) (W : Nat) (T F : Nat → Nat) : Prop :=
  (∀ s a, mc s a = true → s.testBit a = false ∧ W.testBit a = true) ∧ W < 2 ^ 16 ∧ T 0 = 1 ∧ (∀ s, s < 2 ^ 16 → s ≠ 0 → T s = q_sum (fun a => q_b (s.testBit a && mc (s ^^^ 2 ^ a) a) * T (s ^^^ 2 ^ a)) 16) ∧ F W = 1 ∧ (∀ s, s < 2 ^ 16 → 0 < T s → s ≠ W → F s = q_sum (fun a => q_b (mc s a) * F (s ||| 2 ^ a)) 16)
theorem q_b_mul (b : Bool) (x : Nat) : q_b b * x = cond b x 0 := by cases b <;> simp [q_b]
/-- each order leaves C once -/
theorem q_cut {mc : Nat → Nat → Bool} {W : Nat} {T F : Nat → Nat} (h : q_TF mc W T F) {C : Nat → Bool} (h0 : C 0 = true) (hW : C W = false) (hC : ∀ s a, mc s a = true → C (s ||| 2 ^ a) = true → C s = true) :
    q_sum (fun s => q_sum (fun a => q_b ((C s && mc s a) && !(C (s ||| 2 ^ a))) * (T s * F (s ||| 2 ^ a))) 16) (2 ^ 16) = F 0 := by
  obtain ⟨hm, hW16, hT0, hT, hFW, hF⟩ := h
  have e1 : q_sum (fun s => q_sum (fun a => q_b (C s && mc s a) * (T s * F (s ||| 2 ^ a))) 16) (2 ^ 16) = q_sum (fun s => q_b (C s) * (T s * F s)) (2 ^ 16) := by
    apply q_sum_congr
    intro s hs
    cases hCs : C s with
    | false =>
      rw [q_sum_zero (fun a _ => by rw [Bool.false_and]; exact Nat.zero_mul _)]
      exact (Nat.zero_mul _).symm
    | true =>
      have hsW : s ≠ W := by intro e; subst e; rw [hW] at hCs; cases hCs
      rw [show q_b true = 1 from rfl, Nat.one_mul]
      by_cases hp : 0 < T s
      · rw [hF s hs hp hsW, ← q_sum_mul]
        apply q_sum_congr
        intro a _
        rw [Bool.true_and, Nat.mul_left_comm]
      · have : T s = 0 := by omega
        rw [this, Nat.zero_mul]
        exact q_sum_zero (fun a _ => by rw [Nat.zero_mul, Nat.mul_zero])
  have e2 : q_sum (fun s => q_sum (fun a => q_b (C s && mc s a) * (T s * F (s ||| 2 ^ a))) 16) (2 ^ 16) = q_sum (fun s => q_sum (fun a => q_b (mc s a && C (s ||| 2 ^ a)) * (T s * F (s ||| 2 ^ a))) 16) (2 ^ 16) + q_sum (fun s => q_sum (fun a => q_b ((C s && mc s a) && !(C (s ||| 2 ^ a))) * (T s * F (s ||| 2 ^ a))) 16) (2 ^ 16) := by
    rw [← q_sum_add]
    apply q_sum_congr
    intro s hs
    rw [← q_sum_add]
    apply q_sum_congr
    intro a ha
    rw [← Nat.add_mul]
    congr 1
    cases hma : mc s a with
    | false => cases C s <;> rfl
    | true =>
      cases hc2 : C (s ||| 2 ^ a) with
      | false => cases C s <;> rfl
      | true => rw [hC s a hma hc2]; rfl
  have e3 : q_sum (fun s => q_sum (fun a => q_b (mc s a && C (s ||| 2 ^ a)) * (T s * F (s ||| 2 ^ a))) 16) (2 ^ 16) = q_sum (fun t => q_sum (fun a => q_b (t.testBit a && (mc (t ^^^ 2 ^ a) a && C t)) * (T (t ^^^ 2 ^ a) * F t)) 16) (2 ^ 16) := by
    refine (q_sum_swap _ _ _).trans (Eq.trans ?_ (q_sum_swap _ _ _).symm)
    apply q_sum_congr
    intro a ha
    rw [q_sum_xor a 16 _ ha]
    apply q_sum_congr
    intro t ht
    show q_b (mc (t ^^^ 2 ^ a) a && C ((t ^^^ 2 ^ a) ||| 2 ^ a)) * (T (t ^^^ 2 ^ a) * F ((t ^^^ 2 ^ a) ||| 2 ^ a)) = _
    cases hta : t.testBit a with
    | true => rw [q_xor_or hta, Bool.true_and]
    | false =>
      have : mc (t ^^^ 2 ^ a) a = false := by
        cases hx : mc (t ^^^ 2 ^ a) a with
        | false => rfl
        | true =>
          have h1 := (hm _ _ hx).1
          rw [q_xor_bit, hta, q_beq_self] at h1; cases h1
      rw [this, Bool.false_and, Bool.false_and]
      show 0 * _ = 0 * _
      rw [Nat.zero_mul, Nat.zero_mul]
  have e4 : q_sum (fun t => q_sum (fun a => q_b (t.testBit a && (mc (t ^^^ 2 ^ a) a && C t)) * (T (t ^^^ 2 ^ a) * F t)) 16) (2 ^ 16) + q_sum (fun t => q_b (Nat.beq t 0) * F t) (2 ^ 16) = q_sum (fun s => q_b (C s) * (T s * F s)) (2 ^ 16) := by
    rw [← q_sum_add]
    apply q_sum_congr
    intro t ht
    by_cases hz : t = 0
    · subst hz
      rw [q_sum_zero (fun a _ => by rw [Nat.zero_testBit, Bool.false_and]; exact Nat.zero_mul _), h0, hT0]
      show 0 + 1 * F 0 = 1 * (1 * F 0)
      omega
    · rw [q_beq_ne hz, show q_b false = 0 from rfl, Nat.zero_mul, Nat.add_zero]
      cases hCt : C t with
      | false =>
        rw [show q_b false = 0 from rfl, Nat.zero_mul]
        exact q_sum_zero (fun a _ => by rw [Bool.and_false, Bool.and_false]; exact Nat.zero_mul _)
      | true =>
        rw [show q_b true = 1 from rfl, Nat.one_mul, hT t ht hz, Nat.mul_comm, ← q_sum_mul]
        apply q_sum_congr
        intro a _
        rw [Bool.and_true, Nat.mul_comm (F t), Nat.mul_assoc]
  have e5 : q_sum (fun t => q_b (Nat.beq t 0) * F t) (2 ^ 16) = F 0 := by
    rw [q_sum_one (i := 0) (by decide) (fun j _ hj => by rw [q_beq_ne hj]; exact Nat.zero_mul _)]
    show 1 * F 0 = F 0
    omega
  omega
