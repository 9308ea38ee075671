/-! Sums, and sets of entries as marks -/
def q_sum (f : Nat → Nat) : Nat → Nat
  | 0 => 0
  | n + 1 => q_sum f n + f n
theorem q_sum_congr {f g : Nat → Nat} : ∀ {n : Nat}, (∀ i, i < n → f i = g i) → q_sum f n = q_sum g n
  | 0, _ => rfl
  | n + 1, h => by
    show q_sum f n + f n = q_sum g n + g n
    rw [q_sum_congr (fun i hi => h i (by omega)), h n (by omega)]
theorem q_sum_le {f g : Nat → Nat} : ∀ {n : Nat}, (∀ i, i < n → f i ≤ g i) → q_sum f n ≤ q_sum g n
  | 0, _ => Nat.le_refl _
  | n + 1, h => by
    show q_sum f n + f n ≤ q_sum g n + g n
    have h1 := q_sum_le (n := n) (fun i hi => h i (by omega))
    have h2 := h n (by omega)
    omega
theorem q_sum_add (f g : Nat → Nat) : ∀ n, q_sum (fun i => f i + g i) n = q_sum f n + q_sum g n
  | 0 => rfl
  | n + 1 => by
    show q_sum (fun i => f i + g i) n + (f n + g n) = (q_sum f n + f n) + (q_sum g n + g n)
    rw [q_sum_add f g n]; omega
theorem q_sum_mul (c : Nat) (f : Nat → Nat) : ∀ n, q_sum (fun i => c * f i) n = c * q_sum f n
  | 0 => rfl
  | n + 1 => by
    show q_sum (fun i => c * f i) n + c * f n = c * (q_sum f n + f n)
    rw [q_sum_mul c f n, Nat.mul_add]
theorem q_sum_zero {f : Nat → Nat} : ∀ {n : Nat}, (∀ i, i < n → f i = 0) → q_sum f n = 0
  | 0, _ => rfl
  | n + 1, h => by
    show q_sum f n + f n = 0
    rw [q_sum_zero (fun i hi => h i (by omega)), h n (by omega)]
theorem q_sum_const (c : Nat) : ∀ n, q_sum (fun _ => c) n = n * c
  | 0 => by simp [q_sum]
  | n + 1 => by
    show q_sum (fun _ => c) n + c = (n + 1) * c
    rw [q_sum_const c n, Nat.add_mul, Nat.one_mul]
theorem q_sum_split (f : Nat → Nat) (m : Nat) : ∀ n, q_sum f (m + n) = q_sum f m + q_sum (fun i => f (m + i)) n
  | 0 => rfl
  | n + 1 => by
    show q_sum f (m + n) + f (m + n) = q_sum f m + (q_sum (fun i => f (m + i)) n + f (m + n))
    rw [q_sum_split f m n]; omega
theorem q_sum_swap (f : Nat → Nat → Nat) (m : Nat) : ∀ n, q_sum (fun i => q_sum (fun j => f i j) m) n = q_sum (fun j => q_sum (fun i => f i j) n) m
  | 0 => by
    show 0 = _
    rw [q_sum_zero]; intro i _; rfl
  | n + 1 => by
    show q_sum (fun i => q_sum (fun j => f i j) m) n + q_sum (fun j => f n j) m = q_sum (fun j => q_sum (fun i => f i j) n + f n j) m
    rw [q_sum_add, q_sum_swap f m n]
theorem q_sum_one {f : Nat → Nat} {i : Nat} : ∀ {n : Nat}, i < n → (∀ j, j < n → j ≠ i → f j = 0) → q_sum f n = f i
  | 0, h, _ => absurd h (Nat.not_lt_zero _)
  | n + 1, h, hz => by
    show q_sum f n + f n = f i
    by_cases e : i = n
    · subst e
      rw [q_sum_zero (fun j hj => hz j (by omega) (by omega))]; omega
    · rw [q_sum_one (by omega) (fun j hj => hz j (by omega)), hz n (by omega) (fun q => e q.symm)]; rfl
theorem q_sum_ge {f : Nat → Nat} {i : Nat} : ∀ {n : Nat}, i < n → f i ≤ q_sum f n
  | 0, h => absurd h (Nat.not_lt_zero _)
  | n + 1, h => by
    show f i ≤ q_sum f n + f n
    by_cases e : i = n
    · subst e; omega
    · have := q_sum_ge (f := f) (i := i) (n := n) (by omega); omega
theorem q_sum_mono (f : Nat → Nat) {m n : Nat} (h : m ≤ n) : q_sum f m ≤ q_sum f n := by
  obtain ⟨d, rfl⟩ := Nat.le.dest h
  rw [q_sum_split]; omega
theorem q_sum_pos {f : Nat → Nat} : ∀ {n : Nat}, 0 < q_sum f n → ∃ i, i < n ∧ 0 < f i
  | 0, h => absurd h (Nat.lt_irrefl _)
  | n + 1, h => by
    by_cases e : 0 < f n
    · exact ⟨n, by omega, e⟩
    · have : 0 < q_sum f n := by
        have : 0 < q_sum f n + f n := h
        omega
      obtain ⟨i, hi, hf⟩ := q_sum_pos this
      exact ⟨i, by omega, hf⟩
/-- 1 for true -/
def q_b (b : Bool) : Nat := cond b 1 0
theorem q_b_le (b : Bool) : q_b b ≤ 1 := by cases b <;> decide
/-- how many of the first n have the mark -/
def q_cn (p : Nat → Bool) (n : Nat) : Nat := q_sum (fun i => q_b (p i)) n
/-- how many of the sixteen have the mark -/
def q_c (p : Nat → Bool) : Nat := q_cn p 16
theorem q_cn_le {p r : Nat → Bool} {n : Nat} (h : ∀ i, i < n → p i = true → r i = true) : q_cn p n ≤ q_cn r n := by
  apply q_sum_le
  intro i hi
  show q_b (p i) ≤ q_b (r i)
  cases hp : p i with
  | false => exact Nat.zero_le _
  | true => rw [h i hi hp]; exact Nat.le_refl _
theorem q_cn_congr {p r : Nat → Bool} {n : Nat} (h : ∀ i, i < n → p i = r i) : q_cn p n = q_cn r n := q_sum_congr (fun i hi => by show q_b (p i) = q_b (r i); rw [h i hi])
theorem q_cn_max (p : Nat → Bool) (n : Nat) : q_cn p n ≤ n := by
  have h : q_cn p n ≤ q_sum (fun _ => 1) n := q_sum_le (fun i _ => q_b_le _)
  rw [q_sum_const] at h; omega
/-- p without x -/
def q_rm (p : Nat → Bool) (x : Nat) : Nat → Bool := fun i => p i && !(Nat.beq i x)
def q_in (p : Nat → Bool) (x : Nat) : Nat → Bool := fun i => p i || Nat.beq i x
theorem q_beq_self (x : Nat) : Nat.beq x x = true := Nat.beq_refl x
theorem q_beq_ne {i x : Nat} (h : i ≠ x) : Nat.beq i x = false := by
  cases hb : Nat.beq i x with
  | false => rfl
  | true => exact absurd (Nat.eq_of_beq_eq_true hb) h
theorem q_beq_eq {i x : Nat} (h : Nat.beq i x = true) : i = x := Nat.eq_of_beq_eq_true h
theorem q_rm_same (p : Nat → Bool) (x : Nat) : q_rm p x x = false := by simp [q_rm]
theorem q_rm_ne (p : Nat → Bool) {x i : Nat} (h : i ≠ x) : q_rm p x i = p i := by simp [q_rm, q_beq_ne h]
theorem q_in_same (p : Nat → Bool) (x : Nat) : q_in p x x = true := by simp [q_in]
theorem q_in_ne (p : Nat → Bool) {x i : Nat} (h : i ≠ x) : q_in p x i = p i := by simp [q_in, q_beq_ne h]
theorem q_rm_sub {p : Nat → Bool} {x i : Nat} (h : q_rm p x i = true) : p i = true ∧ i ≠ x := by
  by_cases e : i = x
  · subst e; rw [q_rm_same] at h; cases h
  · rw [q_rm_ne p e] at h; exact ⟨h, e⟩
theorem q_in_sub {p : Nat → Bool} {x i : Nat} (h : q_in p x i = true) : p i = true ∨ i = x := by
  by_cases e : i = x
  · exact .inr e
  · rw [q_in_ne p e] at h; exact .inl h
theorem q_cn_rm {p : Nat → Bool} {x : Nat} : ∀ {n : Nat}, x < n → p x = true → q_cn (q_rm p x) n + 1 = q_cn p n
  | 0, h, _ => absurd h (Nat.not_lt_zero _)
  | n + 1, h, hp => by
    show q_cn (q_rm p x) n + q_b (q_rm p x n) + 1 = q_cn p n + q_b (p n)
    by_cases e : x = n
    · subst e
      rw [q_rm_same, hp, q_cn_congr (p := q_rm p x) (r := p) (fun i hi => q_rm_ne p (by omega))]
      rfl
    · rw [q_rm_ne p (Ne.symm e)]
      have := q_cn_rm (p := p) (x := x) (n := n) (by omega) hp
      omega
theorem q_c_rm {p : Nat → Bool} {x : Nat} (h : x < 16) (hp : p x = true) : q_c (q_rm p x) + 1 = q_c p := q_cn_rm h hp
theorem q_c_in {p : Nat → Bool} {x : Nat} (h : x < 16) (hp : p x = false) : q_c (q_in p x) = q_c p + 1 := by
  rw [← q_c_rm h (q_in_same p x)]
  congr 1
  apply q_cn_congr
  intro i _
  by_cases e : i = x
  · subst e; rw [q_rm_same, hp]
  · rw [q_rm_ne _ e, q_in_ne _ e]
/-- an injection counts -/
theorem q_cn_inj {f : Nat → Nat} : ∀ {n : Nat} {p r : Nat → Bool}, (∀ i, i < n → p i = true → f i < 16 ∧ r (f i) = true) → (∀ i j, i < n → j < n → p i = true → p j = true → f i = f j → i = j) → q_cn p n ≤ q_c r
  | 0, _, _, _, _ => Nat.zero_le _
  | n + 1, p, r, h, hi => by
    show q_cn p n + q_b (p n) ≤ q_c r
    cases hp : p n with
    | false => exact q_cn_inj (fun i hi => h i (by omega)) (fun i j h1 h2 => hi i j (by omega) (by omega))
    | true =>
      have h1 := h n (by omega) hp
      have h2 : q_cn p n ≤ q_c (q_rm r (f n)) := by
        apply q_cn_inj (f := f)
        · intro i hn hpi
          have h3 := h i (by omega) hpi
          refine ⟨h3.1, ?_⟩
          rw [q_rm_ne r]
          · exact h3.2
          · intro e
            have := hi i n (by omega) (by omega) hpi hp e
            omega
        · exact fun i j h1 h2 => hi i j (by omega) (by omega)
      have := q_c_rm h1.1 h1.2
      show q_cn p n + 1 ≤ q_c r
      omega
theorem q_c_inj {f : Nat → Nat} {p r : Nat → Bool} (h : ∀ i, i < 16 → p i = true → f i < 16 ∧ r (f i) = true) (hi : ∀ i j, i < 16 → j < 16 → p i = true → p j = true → f i = f j → i = j) : q_c p ≤ q_c r := q_cn_inj h hi
theorem q_c_le {p r : Nat → Bool} (h : ∀ i, i < 16 → p i = true → r i = true) : q_c p ≤ q_c r := q_cn_le h
theorem q_c_congr {p r : Nat → Bool} (h : ∀ i, i < 16 → p i = r i) : q_c p = q_c r := q_cn_congr h
theorem q_c_16 (p : Nat → Bool) : q_c p ≤ 16 := q_cn_max p 16
theorem q_c_split (p r : Nat → Bool) : q_c p = q_c (fun i => p i && r i) + q_c (fun i => p i && !(r i)) := by
  show q_sum _ 16 = q_sum _ 16 + q_sum _ 16
  rw [← q_sum_add]
  apply q_sum_congr
  intro i _
  show q_b (p i) = q_b (p i && r i) + q_b (p i && !(r i))
  cases p i <;> cases r i <;> rfl
theorem q_c_or (p r : Nat → Bool) : q_c (fun i => p i || r i) ≤ q_c p + q_c r := by
  show q_sum _ 16 ≤ q_sum _ 16 + q_sum _ 16
  rw [← q_sum_add]
  apply q_sum_le
  intro i _
  show q_b (p i || r i) ≤ q_b (p i) + q_b (r i)
  cases p i <;> cases r i <;> decide
theorem q_c_zero {p : Nat → Bool} (h : ∀ i, i < 16 → p i = false) : q_c p = 0 := q_sum_zero (fun i hi => by show q_b (p i) = 0; rw [h i hi]; rfl)
theorem q_c_pos {p : Nat → Bool} (h : 0 < q_c p) : ∃ i, i < 16 ∧ p i = true := by
  obtain ⟨i, hi, hf⟩ := q_sum_pos h
  refine ⟨i, hi, ?_⟩
  cases hp : p i with
  | true => rfl
  | false => rw [hp] at hf; cases hf
theorem q_c_has {p : Nat → Bool} {i : Nat} (hi : i < 16) (hp : p i = true) : 0 < q_c p := by
  have h := q_sum_ge (f := fun i => q_b (p i)) hi
  have h : q_b (p i) ≤ q_c p := h
  rw [hp] at h
  exact h
theorem q_c_lt {p r : Nat → Bool} {x : Nat} (h : ∀ i, i < 16 → p i = true → r i = true) (hx : x < 16) (hr : r x = true) (hp : p x = false) : q_c p < q_c r := by
  have h1 : q_c p ≤ q_c (q_rm r x) := q_c_le (fun i hi hpi => by
    rw [q_rm_ne r]
    · exact h i hi hpi
    · intro e; subst e; rw [hp] at hpi; cases hpi)
  have := q_c_rm hx hr
  omega
/-- the same number and one in the other: the same -/
theorem q_c_same {p r : Nat → Bool} (h : ∀ i, i < 16 → p i = true → r i = true) (hc : q_c r ≤ q_c p) : ∀ i, i < 16 → p i = r i := by
  intro i hi
  cases hp : p i with
  | true => rw [h i hi hp]
  | false =>
    cases hr : r i with
    | false => rfl
    | true => have := q_c_lt h hi hr hp; omega
