/-! The greatest common divisor: both sides take the same steps, and end within two hundred -/
def q_eu : Nat → Nat → Nat → Nat × Nat
  | 0, x, y => (x, y)
  | k + 1, x, y => q_eu k y (x % y)
theorem q_eu_s : ∀ k x y, q_eu (k + 1) x y = ((q_eu k x y).2, (q_eu k x y).1 % (q_eu k x y).2) := by
  intro k
  induction k with
  | zero => intro x y; rfl
  | succ k ih => intro x y; exact ih y (x % y)
theorem q_eu_lt {B : Nat} : ∀ k x y, x < B → y < B → (∀ j, j < k → (q_eu j x y).2 ≠ 0) → (q_eu k x y).1 < B ∧ (q_eu k x y).2 < B := by
  intro k
  induction k with
  | zero => intro x y hx hy _; exact ⟨hx, hy⟩
  | succ k ih =>
    intro x y hx hy h
    have h0 : y ≠ 0 := h 0 (by omega)
    have h1 := Nat.mod_lt x (Nat.pos_of_ne_zero h0)
    exact ih y (x % y) hy (by omega) (fun j hj => h (j + 1) (by omega))
theorem q_eu_end : ∀ b x y, y < 2 ^ b → ∃ N, N ≤ 2 * b + 1 ∧ (q_eu N x y).2 = 0 ∧ ∀ k, k < N → (q_eu k x y).2 ≠ 0 := by
  intro b
  induction b with
  | zero => intro x y h; exact ⟨0, by omega, by show y = 0; omega, fun k hk => by omega⟩
  | succ b ih =>
    intro x y h
    by_cases h0 : y = 0
    · exact ⟨0, by omega, h0, fun k hk => by omega⟩
    by_cases h1 : x % y = 0
    · refine ⟨1, by omega, h1, fun k hk => ?_⟩
      have : k = 0 := by omega
      subst this; exact h0
    have h2 : x % y < y := Nat.mod_lt _ (by omega)
    have h3 : y % (x % y) < 2 ^ b := by
      have h4 := Nat.mod_lt y (Nat.pos_of_ne_zero h1)
      have h5 := Nat.div_add_mod y (x % y)
      have h6 : 1 ≤ y / (x % y) := Nat.div_pos (by omega) (by omega)
      have h7 : x % y * 1 ≤ x % y * (y / (x % y)) := Nat.mul_le_mul_left _ h6
      rw [Nat.pow_succ] at h
      omega
    obtain ⟨N, a1, a2, a3⟩ := ih (x % y) (y % (x % y)) h3
    refine ⟨N + 2, by omega, a2, fun k hk => ?_⟩
    match k, hk with
    | 0, _ => exact h0
    | 1, _ => exact h1
    | k + 2, hk => exact a3 k (by omega)
theorem l_toInt {a : Nat} (ha : a < 2 ^ 63) : (lN a).toInt = (a : Int) := lg_ofNat_toInt ha
theorem l_div {a d : Nat} (ha : a < 2 ^ 63) (hd : d < 2 ^ 63) : lN a / lN d = lN (a / d) := by
  apply Int64.toInt_inj.mp
  have h1 : a / d ≤ a := Nat.div_le_self _ _
  rw [Int64.toInt_div, l_toInt ha, l_toInt hd, l_toInt (by omega)]
  rw [show (a : Int).tdiv (d : Int) = ((a / d : Nat) : Int) from rfl]
  generalize a / d = e at h1
  apply Int.bmod_eq_of_le <;> omega
theorem l_rem {a d : Nat} (ha : a < 2 ^ 63) (hd : d < 2 ^ 63) : lN a - lN a / lN d * lN d = lN (a % d) := by
  rw [l_div ha hd, lN_mul]
  apply lN_eqsub
  have := Nat.div_add_mod a d
  rw [Nat.mul_comm] at this
  exact this
theorem l_1 : (1 : Int64) = lN 1 := by decide +kernel
theorem l_ne0 {y : Nat} (hy : y < 2 ^ 63) (h : y ≠ 0) : ¬ lN y = 0 := by rw [l_0, l_eq hy (by decide)]; exact h
theorem euclid_eq {x y : Nat} (hx : x < 2 ^ 63) (hy : y < 2 ^ 63) (h0 : 0 < y) : ∃ g, 0 < g ∧ g < 2 ^ 63 ∧ fm_K_commonDivisor (lN x) (lN y) = some (lN g) ∧ fm_M_common (lN x) (lN y) = some (lN g) := by
  obtain ⟨N, a1, a2, a3⟩ := q_eu_end 63 x y hy
  have hb : ∀ k, k ≤ N → (q_eu k x y).1 < 2 ^ 63 ∧ (q_eu k x y).2 < 2 ^ 63 := fun k hk => q_eu_lt k x y hx hy (fun j hj => a3 j (by omega))
  have hN : N ≠ 0 := by intro q; subst q; have : y = 0 := a2; omega
  have hg : 0 < (q_eu N x y).1 := by
    obtain ⟨M, rfl⟩ : ∃ M, N = M + 1 := ⟨N - 1, by omega⟩
    rw [q_eu_s]
    exact Nat.pos_of_ne_zero (a3 M (by omega))
  refine ⟨(q_eu N x y).1, hg, (hb N (Nat.le_refl _)).1, ?_, ?_⟩
  · unfold fm_K_commonDivisor
    rw [iter_st (z0 := (lN x, lN y, (0 : Int32))) (fun k => (lN (q_eu k x y).1, lN (q_eu k x y).2, nI k)) N 0 (z := (lN (q_eu N x y).1, lN (q_eu N x y).2, nI N)) (by omega) rfl]
    · rw [c_ob4, if_pos]
      rw [lg_cmp_ge, l_1, l_le (by decide) (hb N (Nat.le_refl _)).1]
      exact hg
    · intro k hk
      show fm_K_commonDivisor_B9 (lN (q_eu k x y).1) (lN (q_eu k x y).2) (nI k) = _
      unfold fm_K_commonDivisor_B9
      rw [if_neg (show ¬ (200 : Int32) ≤ nI k from nI_ge (a := k) (b := 200) (by omega) (by decide)), if_neg (fun q => a3 k hk ((l_cmp0 (hb k (by omega)).2).mp q)), decide_eq_true (l_ne0 (hb k (by omega)).2 (a3 k hk)), c_gr, bnd_eq, bnd_eq, c_1, l_rem (hb k (by omega)).1 (hb k (by omega)).2, q_eu_s]
    · show fm_K_commonDivisor_B9 (lN (q_eu N x y).1) (lN (q_eu N x y).2) (nI N) = _
      unfold fm_K_commonDivisor_B9
      rw [if_neg (show ¬ (200 : Int32) ≤ nI N from nI_ge (a := N) (b := 200) (by omega) (by decide)), if_pos ((l_cmp0 (hb N (by omega)).2).mpr a2)]
  · unfold fm_M_common
    rw [iter_st (z0 := (lN x, lN y)) (fun k => (lN (q_eu k x y).1, lN (q_eu k x y).2)) N 0 (z := (lN (q_eu N x y).1, lN (q_eu N x y).2)) (by omega) rfl]
    · rfl
    · intro k hk
      show fm_M_common_B6 (lN (q_eu k x y).1) (lN (q_eu k x y).2) = _
      unfold fm_M_common_B6
      rw [if_neg (fun q => a3 k hk ((l_cmp0 (hb k (by omega)).2).mp q)), decide_eq_true (l_ne0 (hb k (by omega)).2 (a3 k hk)), c_gr, bnd_eq, l_rem (hb k (by omega)).1 (hb k (by omega)).2, q_eu_s]
    · show fm_M_common_B6 (lN (q_eu N x y).1) (lN (q_eu N x y).2) = _
      unfold fm_M_common_B6
      rw [if_pos ((l_cmp0 (hb N (by omega)).2).mpr a2)]
/-- a long that is not below 0 -/
theorem l_of {x : Int64} (h : ¬ x < 0) : ∃ n, n < 2 ^ 63 ∧ x = lN n := by
  have h1 : ¬ x.toInt < 0 := by
    intro q; apply h; rw [Int64.lt_iff_toInt_lt]; exact q
  have h2 := Int64.toInt_lt x
  refine ⟨x.toInt.toNat, by omega, ?_⟩
  apply Int64.toInt_inj.mp
  rw [l_toInt (by omega)]
  omega
