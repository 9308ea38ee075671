/-! The sets of live entries in their order -/
theorem q_and_rec (x w : Nat) : x &&& w = 2 * (x / 2 &&& w / 2) + (x % 2) * (w % 2) := by
  apply Nat.eq_of_testBit_eq
  intro i
  cases i with
  | zero =>
    simp only [Nat.testBit_zero]
    rcases Nat.mod_two_eq_zero_or_one x with h | h <;> rcases Nat.mod_two_eq_zero_or_one w with h' | h' <;> simp [h, h'] <;> omega
  | succ i =>
    rw [Nat.testBit_and, Nat.testBit_succ, Nat.testBit_succ, Nat.testBit_succ, ← Nat.testBit_and]
    congr 1
    rcases Nat.mod_two_eq_zero_or_one x with h | h <;> rcases Nat.mod_two_eq_zero_or_one w with h' | h' <;> simp [h, h'] <;> omega
/-- the i-th set of entries of w -/
def q_pd : Nat → Nat → Nat → Nat
  | 0, _, _ => 0
  | n + 1, w, i => if w % 2 = 1 then 2 * q_pd n (w / 2) (i / 2) + i % 2 else 2 * q_pd n (w / 2) i
/-- how many entries w has -/
def q_pn : Nat → Nat → Nat
  | 0, _ => 0
  | n + 1, w => q_pn n (w / 2) + w % 2
theorem q_pd_and : ∀ n w i, q_pd n w i &&& w = q_pd n w i
  | 0, w, _ => Nat.zero_and w
  | n + 1, w, i => by
    rw [q_and_rec]
    unfold q_pd
    by_cases h : w % 2 = 1
    · rw [if_pos h]
      have h1 : (2 * q_pd n (w / 2) (i / 2) + i % 2) / 2 = q_pd n (w / 2) (i / 2) := by omega
      have h2 : (2 * q_pd n (w / 2) (i / 2) + i % 2) % 2 = i % 2 := by omega
      rw [h1, h2, q_pd_and n, h, Nat.mul_one]
    · rw [if_neg h]
      have h1 : (2 * q_pd n (w / 2) i) / 2 = q_pd n (w / 2) i := by omega
      have h2 : (2 * q_pd n (w / 2) i) % 2 = 0 := by omega
      rw [h1, h2, q_pd_and n, Nat.zero_mul, Nat.add_zero]
theorem q_and_sub {s w : Nat} : s &&& w = s ↔ q_sub s w := by
  constructor
  · intro h i hi
    rw [← h, Nat.testBit_and] at hi
    exact (Bool.and_eq_true_iff.1 hi).2
  · intro h
    apply Nat.eq_of_testBit_eq
    intro i
    rw [Nat.testBit_and]
    cases hb : s.testBit i with
    | false => rfl
    | true => rw [h i hb]; rfl
theorem q_pd_sub (n w i : Nat) : q_sub (q_pd n w i) w := q_and_sub.1 (q_pd_and n w i)
theorem q_pd_0 : ∀ n w, q_pd n w 0 = 0
  | 0, _ => rfl
  | n + 1, w => by
    unfold q_pd
    rw [Nat.zero_div, q_pd_0 n]
    split <;> rfl
/-- each set of entries of w is one of them -/
theorem q_pd_all : ∀ n w s, w < 2 ^ n → s &&& w = s → ∃ i, i < 2 ^ q_pn n w ∧ q_pd n w i = s
  | 0, w, s, hw, h => by
    have : w = 0 := by simpa using hw
    subst this
    rw [Nat.and_zero] at h
    exact ⟨0, by simp [q_pn], h⟩
  | n + 1, w, s, hw, h => by
    rw [q_and_rec] at h
    have hw2 : w / 2 < 2 ^ n := by rw [Nat.pow_succ] at hw; omega
    rcases Nat.mod_two_eq_zero_or_one w with h0 | h0
    · rw [h0, Nat.mul_zero, Nat.add_zero] at h
      obtain ⟨i, h1, h2⟩ := q_pd_all n (w / 2) (s / 2) hw2 (by omega)
      refine ⟨i, by show i < 2 ^ (q_pn n (w / 2) + w % 2); rw [h0]; exact h1, ?_⟩
      unfold q_pd
      rw [if_neg (by omega), h2]; omega
    · rw [h0, Nat.mul_one] at h
      obtain ⟨i, h1, h2⟩ := q_pd_all n (w / 2) (s / 2) hw2 (by omega)
      refine ⟨2 * i + s % 2, ?_, ?_⟩
      · show 2 * i + s % 2 < 2 ^ (q_pn n (w / 2) + w % 2)
        rw [h0, Nat.pow_succ]; omega
      · unfold q_pd
        rw [if_pos h0, show (2 * i + s % 2) / 2 = i by omega, show (2 * i + s % 2) % 2 = s % 2 by omega, h2]; omega
/-- they rise -/
theorem q_pd_lt : ∀ n w i j, w < 2 ^ n → i < j → j < 2 ^ q_pn n w → q_pd n w i < q_pd n w j
  | 0, w, i, j, hw, h, hj => by
    have hj : j < 2 ^ 0 := hj
    omega
  | n + 1, w, i, j, hw, h, hj => by
    have hw2 : w / 2 < 2 ^ n := by rw [Nat.pow_succ] at hw; omega
    have hj : j < 2 ^ (q_pn n (w / 2) + w % 2) := hj
    unfold q_pd
    rcases Nat.mod_two_eq_zero_or_one w with h0 | h0
    · rw [if_neg (by omega), if_neg (by omega)]
      rw [h0] at hj
      have := q_pd_lt n (w / 2) i j hw2 h hj
      omega
    · rw [if_pos h0, if_pos h0]
      rw [h0, Nat.pow_succ] at hj
      by_cases e : i / 2 = j / 2
      · rw [e]; omega
      · have := q_pd_lt n (w / 2) (i / 2) (j / 2) hw2 (by omega) (by omega)
        omega
/-- the next one -/
theorem q_pd_next : ∀ n w i c, w < 2 ^ n → c ≤ 1 → (q_pd n w i + (2 ^ n - 1 - w) + c) &&& w = q_pd n w (i + c)
  | 0, w, i, c, hw, _ => by
    have : w = 0 := by simpa using hw
    subst this
    rw [Nat.and_zero]; rfl
  | n + 1, w, i, c, hw, hc => by
    have hw2 : w / 2 < 2 ^ n := by rw [Nat.pow_succ] at hw; omega
    have e1 : 2 ^ (n + 1) - 1 - w = 2 * (2 ^ n - 1 - w / 2) + (1 - w % 2) := by rw [Nat.pow_succ]; omega
    rw [q_and_rec, e1]
    unfold q_pd
    rcases Nat.mod_two_eq_zero_or_one w with h0 | h0
    · rw [if_neg (by omega), if_neg (by omega), h0]
      have h1 : (2 * q_pd n (w / 2) i + (2 * (2 ^ n - 1 - w / 2) + (1 - 0)) + c) / 2 = q_pd n (w / 2) i + (2 ^ n - 1 - w / 2) + c := by omega
      rw [h1, q_pd_next n (w / 2) i c hw2 hc, Nat.mul_zero, Nat.add_zero]
    · rw [if_pos h0, if_pos h0, h0]
      have h1 : (2 * q_pd n (w / 2) (i / 2) + i % 2 + (2 * (2 ^ n - 1 - w / 2) + (1 - 1)) + c) / 2 = q_pd n (w / 2) (i / 2) + (2 ^ n - 1 - w / 2) + (i % 2 + c) / 2 := by omega
      have h2 : (2 * q_pd n (w / 2) (i / 2) + i % 2 + (2 * (2 ^ n - 1 - w / 2) + (1 - 1)) + c) % 2 = (i + c) % 2 := by omega
      rw [h1, h2, q_pd_next n (w / 2) (i / 2) ((i % 2 + c) / 2) hw2 (by omega), Nat.mul_one]
      congr 2
      congr 1
      omega
/-- the one before -/
theorem q_pd_prev : ∀ n w i x, x + 1 = q_pd n w (i + 1) → x &&& w = q_pd n w i
  | 0, w, i, x, h => by cases h
  | n + 1, w, i, x, h => by
    unfold q_pd at h
    rw [q_and_rec]
    unfold q_pd
    rcases Nat.mod_two_eq_zero_or_one w with h0 | h0
    · rw [if_neg (by omega)] at h
      rw [if_neg (by omega), h0, Nat.mul_zero, Nat.add_zero, q_pd_prev n (w / 2) i (x / 2) (by omega)]
    · rw [if_pos h0] at h
      rw [if_pos h0, h0, Nat.mul_one]
      rcases Nat.mod_two_eq_zero_or_one i with h1 | h1
      · have e : (i + 1) / 2 = i / 2 := by omega
        rw [e] at h
        have h2 : x / 2 = q_pd n (w / 2) (i / 2) := by omega
        rw [h2, q_pd_and]; omega
      · have e : (i + 1) / 2 = i / 2 + 1 := by omega
        rw [e] at h
        rw [q_pd_prev n (w / 2) (i / 2) (x / 2) (by omega)]; omega
theorem q_pd_top : ∀ n w, w < 2 ^ n → q_pd n w (2 ^ q_pn n w - 1) = w
  | 0, w, hw => by
    have : w = 0 := by simpa using hw
    subst this; rfl
  | n + 1, w, hw => by
    have hw2 : w / 2 < 2 ^ n := by rw [Nat.pow_succ] at hw; omega
    have ih := q_pd_top n (w / 2) hw2
    have hp : 0 < 2 ^ q_pn n (w / 2) := Nat.two_pow_pos _
    show q_pd (n + 1) w (2 ^ (q_pn n (w / 2) + w % 2) - 1) = w
    unfold q_pd
    rcases Nat.mod_two_eq_zero_or_one w with h0 | h0
    · rw [if_neg (by omega), h0, Nat.add_zero, ih]; omega
    · rw [if_pos h0, h0, Nat.pow_succ]
      have e1 : (2 ^ q_pn n (w / 2) * 2 - 1) / 2 = 2 ^ q_pn n (w / 2) - 1 := by omega
      have e2 : (2 ^ q_pn n (w / 2) * 2 - 1) % 2 = 1 := by omega
      rw [e1, e2, ih]; omega
theorem q_sum_first (f : Nat → Nat) : ∀ n, q_sum f (n + 1) = f 0 + q_sum (fun i => f (i + 1)) n := by
  intro n
  rw [Nat.add_comm, q_sum_split]
  show 0 + f 0 + _ = _
  rw [Nat.zero_add]
  congr 1
  apply q_sum_congr
  intro i _
  rw [Nat.add_comm]
theorem q_pn_cn : ∀ n w, q_pn n w = q_cn (fun i => w.testBit i) n
  | 0, _ => rfl
  | n + 1, w => by
    show q_pn n (w / 2) + w % 2 = q_sum (fun i => q_b (w.testBit i)) (n + 1)
    rw [q_sum_first, q_pn_cn n (w / 2)]
    have h1 : q_b (w.testBit 0) = w % 2 := by
      rw [Nat.testBit_zero]
      rcases Nat.mod_two_eq_zero_or_one w with h | h <;> rw [h] <;> rfl
    have h2 : q_sum (fun i => q_b (w.testBit (i + 1))) n = q_cn (fun i => (w / 2).testBit i) n := q_sum_congr (fun i _ => by
      show q_b (w.testBit (i + 1)) = q_b ((w / 2).testBit i)
      rw [Nat.testBit_succ])
    omega
theorem q_pn_32 {w : Nat} (hw : w < 2 ^ 16) : q_pn 32 w = q_pop w := by
  rw [q_pn_cn]
  show q_sum (fun i => q_b (w.testBit i)) (16 + 16) = _
  rw [q_sum_split, q_sum_zero (f := fun i => q_b (w.testBit (16 + i))) (fun i _ => by
    show q_b (w.testBit (16 + i)) = 0
    rw [q_hi hw (by omega)]; rfl)]
  rfl
/-- the i-th set of live entries -/
def q_nth (w i : Nat) : Nat := q_pd 32 w i
theorem q_nth_0 (w : Nat) : q_nth w 0 = 0 := q_pd_0 32 w
theorem q_nth_sub (w i : Nat) : q_sub (q_nth w i) w := q_pd_sub 32 w i
theorem q_w32 {w : Nat} (hw : w < 2 ^ 16) : w < 2 ^ 32 := Nat.lt_trans hw (by decide)
theorem q_nth_top {w : Nat} (hw : w < 2 ^ 16) : q_nth w (2 ^ q_pop w - 1) = w := by
  rw [← q_pn_32 hw]; exact q_pd_top 32 w (q_w32 hw)
theorem q_nth_next {w : Nat} (hw : w < 2 ^ 16) (i : Nat) : (q_nth w i + (2 ^ 32 - 1 - w) + 1) &&& w = q_nth w (i + 1) := q_pd_next 32 w i 1 (q_w32 hw) (Nat.le_refl _)
theorem q_nth_prev {w i x : Nat} (h : x + 1 = q_nth w (i + 1)) : x &&& w = q_nth w i := q_pd_prev 32 w i x h
theorem q_nth_lt {w i j : Nat} (hw : w < 2 ^ 16) (h : i < j) (hj : j < 2 ^ q_pop w) : q_nth w i < q_nth w j := q_pd_lt 32 w i j (q_w32 hw) h (by rw [q_pn_32 hw]; exact hj)
theorem q_nth_all {w s : Nat} (hw : w < 2 ^ 16) (h : q_sub s w) : ∃ i, i < 2 ^ q_pop w ∧ q_nth w i = s := by
  have := q_pd_all 32 w s (q_w32 hw) (q_and_sub.2 h)
  rw [q_pn_32 hw] at this; exact this
/-- none between -/
theorem q_nth_gap {w i k : Nat} (hw : w < 2 ^ 16) (hi : i + 1 < 2 ^ q_pop w) (h1 : q_nth w i < k) (h2 : k < q_nth w (i + 1)) : ¬ q_sub k w := by
  intro hs
  obtain ⟨j, hj, hk⟩ := q_nth_all hw hs
  subst hk
  rcases Nat.lt_trichotomy j (i + 1) with q | q | q
  · rcases Nat.lt_trichotomy j i with q' | q' | q'
    · have := q_nth_lt hw q' (by omega); omega
    · subst q'; omega
    · omega
  · subst q; omega
  · have := q_nth_lt hw q hj; omega
theorem q_pop_16 (w : Nat) : q_pop w ≤ 16 := q_c_16 _
theorem q_two_pop (w : Nat) : 2 ^ q_pop w ≤ 65536 := Nat.pow_le_pow_right (n := 2) (by decide) (q_pop_16 w)
/-- over what is skipped -/
theorem q_gap {I : Nat → Prop} {lo hi : Nat} (h : ∀ k, lo < k → k < hi → I k → I (k + 1)) (h0 : I (lo + 1)) (hlt : lo < hi) : I hi := by
  obtain ⟨d, hd⟩ := Nat.le.dest hlt
  subst hd
  have : ∀ d', d' ≤ d → I (lo.succ + d') := by
    intro d'
    induction d' with
    | zero => intro _; exact h0
    | succ d' ih => intro h1; exact h (lo.succ + d') (by omega) (by omega) (ih (by omega))
  exact this d (Nat.le_refl _)
