/-! The ways to each set, handed on set by set -/
/-- what the sets below k have handed to t -/
def q_tp (mc : Nat → Nat → Bool) (T : Nat → Nat) (k t : Nat) : Nat := q_b (Nat.beq t 0) + q_sum (fun a => q_b ((t.testBit a && decide (t ^^^ 2 ^ a < k)) && mc (t ^^^ 2 ^ a) a) * T (t ^^^ 2 ^ a)) 16
/-- and those of k's entries below m -/
def q_tq (mc : Nat → Nat → Bool) (T : Nat → Nat) (k m t : Nat) : Nat := q_tp mc T k t + q_sum (fun a => q_b (Nat.beq t (k ||| 2 ^ a) && mc k a) * T k) m
theorem q_tp_0 (mc : Nat → Nat → Bool) (T : Nat → Nat) (t : Nat) : q_tp mc T 0 t = q_b (Nat.beq t 0) := by
  unfold q_tp
  rw [q_sum_zero]
  · rfl
  · intro a _
    rw [decide_eq_false (Nat.not_lt_zero _), Bool.and_false, Bool.false_and]
    exact Nat.zero_mul _
theorem q_tp_T {mc : Nat → Nat → Bool} {W : Nat} {T F : Nat → Nat} (h : q_TF mc W T F) {k t : Nat} (ht : t < 2 ^ 16) (hk : t ≤ k) : q_tp mc T k t = T t := by
  unfold q_tp
  by_cases e : t = 0
  · subst e
    rw [h.2.2.1, q_sum_zero (fun a _ => by rw [Nat.zero_testBit, Bool.false_and, Bool.false_and]; exact Nat.zero_mul _)]
    rfl
  · rw [h.2.2.2.1 t ht e, q_beq_ne e]
    show 0 + _ = _
    rw [Nat.zero_add]
    apply q_sum_congr
    intro a _
    cases hb : t.testBit a with
    | false => rfl
    | true =>
      have := q_xor_lt_self hb
      rw [decide_eq_true (by omega)]; rfl
theorem q_tq_s {mc : Nat → Nat → Bool} {T : Nat → Nat} {k m : Nat} (t : Nat) : q_tq mc T k (m + 1) t = q_tq mc T k m t + q_b (Nat.beq t (k ||| 2 ^ m) && mc k m) * T k := by
  unfold q_tq
  show _ + (q_sum _ m + _) = _
  rw [Nat.add_assoc]
theorem q_tq_16 {mc : Nat → Nat → Bool} (hm : ∀ s a, mc s a = true → s.testBit a = false) {T : Nat → Nat} (k t : Nat) : q_tq mc T k 16 t = q_tp mc T (k + 1) t := by
  unfold q_tq q_tp
  rw [Nat.add_assoc, ← q_sum_add]
  congr 1
  apply q_sum_congr
  intro a _
  cases hta : t.testBit a with
  | false =>
    have : (Nat.beq t (k ||| 2 ^ a) && mc k a) = false := by
      cases hb : Nat.beq t (k ||| 2 ^ a) with
      | false => rfl
      | true =>
        rw [q_beq_eq hb, q_or_bit, q_beq_self] at hta
        cases hk : k.testBit a <;> rw [hk] at hta <;> cases hta
    rw [this]
    show 0 * _ + 0 * _ = 0 * _
    omega
  | true =>
    rw [Bool.true_and, Bool.true_and]
    by_cases e : t ^^^ 2 ^ a = k
    · have ht : t = k ||| 2 ^ a := by rw [← e, q_xor_or hta]
      rw [e, decide_eq_false (Nat.lt_irrefl _), decide_eq_true (Nat.lt_succ_self _), ← ht, q_beq_self, Bool.false_and, Bool.true_and]
      show 0 * _ + _ = _
      omega
    · have hne : (Nat.beq t (k ||| 2 ^ a) && mc k a) = false := by
        cases hb : Nat.beq t (k ||| 2 ^ a) with
        | false => rfl
        | true =>
          cases hmk : mc k a with
          | false => rfl
          | true => exact absurd (by rw [q_beq_eq hb, q_or_xor2 (hm k a hmk)]) e
      have hd : decide (t ^^^ 2 ^ a < k) = decide (t ^^^ 2 ^ a < k + 1) := by
        by_cases q : t ^^^ 2 ^ a < k
        · rw [decide_eq_true q, decide_eq_true (by omega)]
        · rw [decide_eq_false q, decide_eq_false (by omega)]
      rw [hne, hd]
      show _ + 0 * _ = _
      omega
theorem q_tp_skip {mc : Nat → Nat → Bool} (hm : ∀ s a, mc s a = true → s.testBit a = false) {T : Nat → Nat} {k : Nat} (h : T k = 0) (t : Nat) : q_tp mc T (k + 1) t = q_tp mc T k t := by
  rw [← q_tq_16 hm]
  unfold q_tq
  rw [q_sum_zero (fun a _ => by rw [h, Nat.mul_zero])]; rfl
/-- longs that are numbers -/
theorem l_eq {a b : Nat} (ha : a < 2 ^ 63) (hb : b < 2 ^ 63) : lN a = lN b ↔ a = b := by
  constructor
  · intro h
    have := congrArg Int64.toInt h
    rw [show (lN a).toInt = (a : Int) from lg_ofNat_toInt ha, show (lN b).toInt = (b : Int) from lg_ofNat_toInt hb] at this
    omega
  · intro h; rw [h]
theorem l_lt {a b : Nat} (ha : a < 2 ^ 63) (hb : b < 2 ^ 63) : lN a < lN b ↔ a < b := by
  rw [Int64.lt_iff_toInt_lt, show (lN a).toInt = (a : Int) from lg_ofNat_toInt ha, show (lN b).toInt = (b : Int) from lg_ofNat_toInt hb]
  omega
theorem l_le {a b : Nat} (ha : a < 2 ^ 63) (hb : b < 2 ^ 63) : lN a ≤ lN b ↔ a ≤ b := by
  rw [Int64.le_iff_toInt_le, show (lN a).toInt = (a : Int) from lg_ofNat_toInt ha, show (lN b).toInt = (b : Int) from lg_ofNat_toInt hb]
  omega
theorem l_0 : (0 : Int64) = lN 0 := by decide +kernel
theorem l_cmp0 {a : Nat} (ha : a < 2 ^ 63) : (lg_cmp (lN a) 0 = 0) ↔ a = 0 := by rw [lg_cmp_eq, l_0, l_eq ha (by decide)]
theorem l_cmp0' {a : Nat} (ha : a < 2 ^ 63) : (lg_cmp (lN a) 0 ≤ 0) ↔ a = 0 := by rw [lg_cmp_le, l_0, l_le ha (by decide)]; omega
theorem q_fac_16 : q_fac 16 < 2 ^ 50 := by decide +kernel
/-- how a heat counts: T and F with their bounds -/
theorem q_T_lt {mc : Nat → Nat → Bool} (s : Nat) : q_T0 mc s < 2 ^ 50 := by
  have h1 : q_T0 mc s ≤ q_fac (q_pop s) := q_to_le _ s rfl
  have h2 := q_fac_mono (q_pop_16 s)
  have := q_fac_16
  omega
theorem q_F_lt {mc : Nat → Nat → Bool} {W : Nat} (hm : ∀ s a, mc s a = true → s.testBit a = false ∧ W.testBit a = true) {s : Nat} (hs : q_sub s W) : q_F0 mc W s < 2 ^ 50 := by
  have h1 : q_F0 mc W s ≤ q_fac (q_pop W - q_pop s) := q_fr_le hm _ s hs rfl
  have h2 := q_fac_mono (show q_pop W - q_pop s ≤ 16 by have := q_pop_16 W; omega)
  have := q_fac_16
  omega
theorem q_T_sub {mc : Nat → Nat → Bool} {W : Nat} (hm : ∀ s a, mc s a = true → s.testBit a = false ∧ W.testBit a = true) {s : Nat} (h : ¬ q_sub s W) : q_T0 mc s = 0 := by
  apply Nat.eq_zero_of_not_pos
  intro h1
  exact h (q_to_sub hm _ s h1)
