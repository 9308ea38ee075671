/-! The numbers of ways themselves -/
def q_pop (s : Nat) : Nat := q_c (fun i => s.testBit i)
theorem q_pop_or {s a : Nat} (ha : a < 16) (h : s.testBit a = false) : q_pop (s ||| 2 ^ a) = q_pop s + 1 := by
  unfold q_pop
  rw [← q_c_in (p := fun i => s.testBit i) ha h]
  apply q_c_congr
  intro i _
  exact q_or_bit s a i
theorem q_pop_xor {s a : Nat} (ha : a < 16) (h : s.testBit a = true) : q_pop (s ^^^ 2 ^ a) + 1 = q_pop s := by
  have h1 : (s ^^^ 2 ^ a).testBit a = false := by rw [q_xor_bit, h, q_beq_self]; rfl
  rw [← q_pop_or ha h1, q_xor_or h]
theorem q_pop_0 : q_pop 0 = 0 := q_c_zero (fun i _ => Nat.zero_testBit i)
theorem q_pop_pos {s : Nat} (hs : s < 2 ^ 16) (h : s ≠ 0) : 0 < q_pop s := by
  apply Nat.pos_of_ne_zero
  intro e
  apply h
  apply Nat.eq_of_testBit_eq
  intro i
  rw [Nat.zero_testBit]
  by_cases hi : i < 16
  · cases hb : s.testBit i with
    | false => rfl
    | true =>
      have : 0 < q_c (fun i => s.testBit i) := q_c_has hi hb
      have e : q_c (fun i => s.testBit i) = 0 := e
      omega
  · exact q_hi hs (by omega)
/-- s has no other entry than w has -/
def q_sub (s w : Nat) : Prop := ∀ i, s.testBit i = true → w.testBit i = true
theorem q_sub_lt {s w n : Nat} (hw : w < 2 ^ n) (h : q_sub s w) : s < 2 ^ n := by
  apply Nat.lt_pow_two_of_testBit
  intro i hi
  cases hb : s.testBit i with
  | false => rfl
  | true => have := h i hb; rw [q_hi hw hi] at this; cases this
theorem q_sub_or {s w a : Nat} (h : q_sub s w) (ha : w.testBit a = true) : q_sub (s ||| 2 ^ a) w := by
  intro i hi
  rw [q_or_bit] at hi
  rcases Bool.or_eq_true_iff.1 hi with q | q
  · exact h i q
  · rw [q_beq_eq q]; exact ha
theorem q_sub_xor {s w a : Nat} (h : q_sub s w) (ha : s.testBit a = true) : q_sub (s ^^^ 2 ^ a) w := by
  intro i hi
  apply h i
  rw [q_xor_bit] at hi
  by_cases e : i = a
  · subst e; exact ha
  · rw [q_beq_ne e] at hi; simpa using hi
theorem q_sub_0 (w : Nat) : q_sub 0 w := fun i h => by rw [Nat.zero_testBit] at h; cases h
theorem q_sub_pop {s w : Nat} (h : q_sub s w) : q_pop s ≤ q_pop w := q_c_le (fun i _ => h i)
theorem q_sub_pop_lt {s w : Nat} (hw : w < 2 ^ 16) (h : q_sub s w) (hn : s ≠ w) : q_pop s < q_pop w := by
  apply Nat.lt_of_le_of_ne (q_sub_pop h)
  intro e
  apply hn
  have h1 := q_c_same (fun i (_ : i < 16) => h i) (Nat.le_of_eq e.symm)
  apply Nat.eq_of_testBit_eq
  intro i
  by_cases hi : i < 16
  · exact h1 i hi
  · rw [q_hi hw (by omega), q_hi (q_sub_lt hw h) (by omega)]
theorem q_sub_le {s w : Nat} (h : q_sub s w) : s ≤ w := by
  have : s = s &&& w := by
    apply Nat.eq_of_testBit_eq
    intro i
    rw [Nat.testBit_and]
    cases hb : s.testBit i with
    | false => rfl
    | true => rw [h i hb]; rfl
  rw [this]; exact Nat.and_le_right
def q_to (mc : Nat → Nat → Bool) : Nat → Nat → Nat
  | 0, s => q_b (Nat.beq s 0)
  | n + 1, s => q_sum (fun a => q_b (s.testBit a && mc (s ^^^ 2 ^ a) a) * q_to mc n (s ^^^ 2 ^ a)) 16
def q_fr (mc : Nat → Nat → Bool) : Nat → Nat → Nat
  | 0, _ => 1
  | n + 1, s => q_sum (fun a => q_b (mc s a) * q_fr mc n (s ||| 2 ^ a)) 16
def q_T0 (mc : Nat → Nat → Bool) (s : Nat) : Nat := q_to mc (q_pop s) s
def q_F0 (mc : Nat → Nat → Bool) (W s : Nat) : Nat := q_fr mc (q_pop W - q_pop s) s
theorem q_to_sub {mc : Nat → Nat → Bool} {W : Nat} (hm : ∀ s a, mc s a = true → s.testBit a = false ∧ W.testBit a = true) : ∀ n s, 0 < q_to mc n s → q_sub s W
  | 0, s, h => by
    by_cases e : s = 0
    · subst e; exact q_sub_0 W
    · have h : 0 < q_b (Nat.beq s 0) := h
      rw [q_beq_ne e] at h; exact absurd h (Nat.lt_irrefl _)
  | n + 1, s, h => by
    obtain ⟨a, ha, h1⟩ := q_sum_pos h
    cases hb : (s.testBit a && mc (s ^^^ 2 ^ a) a) with
    | false =>
      have h1 : 0 < q_b (s.testBit a && mc (s ^^^ 2 ^ a) a) * q_to mc n (s ^^^ 2 ^ a) := h1
      rw [hb] at h1; simp [q_b] at h1
    | true =>
      have h1 : 0 < q_b (s.testBit a && mc (s ^^^ 2 ^ a) a) * q_to mc n (s ^^^ 2 ^ a) := h1
      rw [hb] at h1
      obtain ⟨h2, h3⟩ := Bool.and_eq_true_iff.1 hb
      have h4 := q_to_sub hm n (s ^^^ 2 ^ a) (by simpa [q_b] using h1)
      have := q_sub_or h4 (hm _ _ h3).2
      rw [q_xor_or h2] at this
      exact this
theorem q_TF0 {mc : Nat → Nat → Bool} {W : Nat} (hm : ∀ s a, mc s a = true → s.testBit a = false ∧ W.testBit a = true) (hW : W < 2 ^ 16) : q_TF mc W (q_T0 mc) (q_F0 mc W) := by
  refine ⟨hm, hW, ?_, ?_, ?_, ?_⟩
  · unfold q_T0; rw [q_pop_0]; rfl
  · intro s hs h0
    have h1 := q_pop_pos hs h0
    obtain ⟨n, hn⟩ : ∃ n, q_pop s = n + 1 := ⟨q_pop s - 1, by omega⟩
    have e : q_T0 mc s = q_sum (fun a => q_b (s.testBit a && mc (s ^^^ 2 ^ a) a) * q_to mc n (s ^^^ 2 ^ a)) 16 := by unfold q_T0; rw [hn]; rfl
    rw [e]
    apply q_sum_congr
    intro a ha
    cases hb : s.testBit a with
    | false => show 0 * _ = 0 * _; rw [Nat.zero_mul, Nat.zero_mul]
    | true =>
      have := q_pop_xor ha hb
      unfold q_T0
      rw [show q_pop (s ^^^ 2 ^ a) = n by omega]
  · unfold q_F0; rw [Nat.sub_self]; rfl
  · intro s hs hT hne
    have hsub := q_to_sub hm _ s hT
    have h1 := q_sub_pop_lt hW hsub hne
    obtain ⟨n, hn⟩ : ∃ n, q_pop W - q_pop s = n + 1 := ⟨q_pop W - q_pop s - 1, by omega⟩
    have e : q_F0 mc W s = q_sum (fun a => q_b (mc s a) * q_fr mc n (s ||| 2 ^ a)) 16 := by unfold q_F0; rw [hn]; rfl
    rw [e]
    apply q_sum_congr
    intro a ha
    cases hb : mc s a with
    | false => show 0 * _ = 0 * _; rw [Nat.zero_mul, Nat.zero_mul]
    | true =>
      have := q_pop_or ha (hm _ _ hb).1
      unfold q_F0
      rw [show q_pop W - q_pop (s ||| 2 ^ a) = n by omega]
def q_fac : Nat → Nat
  | 0 => 1
  | n + 1 => (n + 1) * q_fac n
theorem q_fac_pos : ∀ n, 0 < q_fac n
  | 0 => by decide
  | n + 1 => Nat.mul_pos (Nat.succ_pos n) (q_fac_pos n)
theorem q_fac_mono {m n : Nat} (h : m ≤ n) : q_fac m ≤ q_fac n := by
  induction h with
  | refl => exact Nat.le_refl _
  | @step n _ ih =>
    have : q_fac n ≤ (n + 1) * q_fac n := Nat.le_mul_of_pos_left _ (Nat.succ_pos n)
    exact Nat.le_trans ih this
theorem q_to_le {mc : Nat → Nat → Bool} : ∀ n s, q_pop s = n → q_to mc n s ≤ q_fac n
  | 0, s, _ => q_b_le _
  | n + 1, s, h => by
    have h1 : q_to mc (n + 1) s ≤ q_sum (fun a => q_fac n * q_b (s.testBit a)) 16 := by
      apply q_sum_le
      intro a ha
      cases hb : s.testBit a with
      | false => show 0 * _ ≤ _; rw [Nat.zero_mul]; exact Nat.zero_le _
      | true =>
        have h2 := q_pop_xor ha hb
        have h3 := q_to_le (mc := mc) n (s ^^^ 2 ^ a) (by omega)
        rw [Bool.true_and]
        show _ ≤ q_fac n * 1
        cases mc (s ^^^ 2 ^ a) a with
        | false => show 0 * _ ≤ _; rw [Nat.zero_mul]; exact Nat.zero_le _
        | true => show 1 * _ ≤ _; omega
    rw [q_sum_mul] at h1
    have h4 : q_sum (fun a => q_b (s.testBit a)) 16 = n + 1 := h
    rw [h4] at h1
    show _ ≤ (n + 1) * q_fac n
    rw [Nat.mul_comm]; exact h1
theorem q_fr_le {mc : Nat → Nat → Bool} {W : Nat} (hm : ∀ s a, mc s a = true → s.testBit a = false ∧ W.testBit a = true) : ∀ n s, q_sub s W → q_pop W - q_pop s = n → q_fr mc n s ≤ q_fac n
  | 0, s, _, _ => by show 1 ≤ 1; exact Nat.le_refl _
  | n + 1, s, hs, h => by
    have h1 : q_fr mc (n + 1) s ≤ q_sum (fun a => q_fac n * q_b (W.testBit a && !(s.testBit a))) 16 := by
      apply q_sum_le
      intro a ha
      cases hb : mc s a with
      | false => show 0 * _ ≤ _; rw [Nat.zero_mul]; exact Nat.zero_le _
      | true =>
        obtain ⟨h2, h3⟩ := hm _ _ hb
        have h4 := q_pop_or ha h2
        have h5 := q_fr_le hm n (s ||| 2 ^ a) (q_sub_or hs h3) (by omega)
        rw [h2, h3]
        show 1 * _ ≤ q_fac n * 1
        omega
    rw [q_sum_mul] at h1
    have h4 : q_sum (fun a => q_b (W.testBit a && !(s.testBit a))) 16 = n + 1 := by
      have h5 := q_c_split (fun i => W.testBit i) (fun i => s.testBit i)
      have h6 : q_pop s = q_c (fun i => W.testBit i && s.testBit i) := q_c_congr (fun i _ => by
        cases hb : s.testBit i with
        | false => simp
        | true => rw [hs i hb]; rfl)
      have h7 : q_c (fun i => W.testBit i) = q_pop W := rfl
      have h8 : q_sum (fun a => q_b (W.testBit a && !(s.testBit a))) 16 = q_c (fun i => W.testBit i && !(s.testBit i)) := rfl
      omega
    rw [h4] at h1
    show _ ≤ (n + 1) * q_fac n
    rw [Nat.mul_comm]; exact h1
theorem q_fr_pos {mc : Nat → Nat → Bool} {W : Nat} (hm : ∀ s a, mc s a = true → s.testBit a = false ∧ W.testBit a = true) (hW : W < 2 ^ 16) (he : ∀ s, q_sub s W → s ≠ W → ∃ a, a < 16 ∧ mc s a = true) : ∀ n s, q_sub s W → q_pop W - q_pop s = n → 0 < q_fr mc n s
  | 0, s, _, _ => by show 0 < 1; decide
  | n + 1, s, hs, h => by
    have hne : s ≠ W := by intro e; subst e; omega
    obtain ⟨a, ha, hma⟩ := he s hs hne
    obtain ⟨h2, h3⟩ := hm _ _ hma
    have h4 := q_pop_or ha h2
    have h5 := q_fr_pos hm hW he n (s ||| 2 ^ a) (q_sub_or hs h3) (by omega)
    have h6 := q_sum_ge (f := fun a => q_b (mc s a) * q_fr mc n (s ||| 2 ^ a)) ha
    have h6 : q_b (mc s a) * q_fr mc n (s ||| 2 ^ a) ≤ q_fr mc (n + 1) s := h6
    rw [hma] at h6
    have h6 : 1 * q_fr mc n (s ||| 2 ^ a) ≤ q_fr mc (n + 1) s := h6
    omega
/-- whether a may come next behind s -/
def q_mc (W : Nat) (A : Nat → Nat) (s a : Nat) : Bool := (W.testBit a && !(s.testBit a)) && Nat.beq (A a &&& s) (A a)
theorem q_mc_sub {W : Nat} {A : Nat → Nat} (s a : Nat) (h : q_mc W A s a = true) : s.testBit a = false ∧ W.testBit a = true := by
  unfold q_mc at h
  obtain ⟨h1, _⟩ := Bool.and_eq_true_iff.1 h
  obtain ⟨h2, h3⟩ := Bool.and_eq_true_iff.1 h1
  refine ⟨?_, h2⟩
  cases hb : s.testBit a with
  | false => rfl
  | true => rw [hb] at h3; cases h3
theorem q_mc_ex {W : Nat} {A : Nat → Nat} {rk : Nat → Nat} (hW : W < 2 ^ 16) (hr : ∀ a x, a < 16 → (A a).testBit x = true → W.testBit x = true ∧ rk x < rk a) (s : Nat) (hs : q_sub s W) (hne : s ≠ W) : ∃ a, a < 16 ∧ q_mc W A s a = true := by
  have key : ∀ r a, a < 16 → W.testBit a = true → s.testBit a = false → rk a ≤ r → ∃ a, a < 16 ∧ q_mc W A s a = true := by
    intro r
    induction r with
    | zero =>
      intro a ha h1 h2 h3
      refine ⟨a, ha, ?_⟩
      unfold q_mc
      have : A a = 0 := by
        apply Nat.eq_of_testBit_eq
        intro i
        rw [Nat.zero_testBit]
        cases hb : (A a).testBit i with
        | false => rfl
        | true => have := (hr a i ha hb).2; omega
      rw [h1, h2, this, Nat.zero_and]; rfl
    | succ r ih =>
      intro a ha h1 h2 h3
      by_cases hb : Nat.beq (A a &&& s) (A a) = true
      · refine ⟨a, ha, ?_⟩
        unfold q_mc
        rw [h1, h2, hb]; rfl
      · have : ∃ x, (A a).testBit x = true ∧ s.testBit x = false := by
          apply Classical.byContradiction
          intro hn
          apply hb
          have : A a &&& s = A a := by
            apply Nat.eq_of_testBit_eq
            intro i
            rw [Nat.testBit_and]
            cases h4 : (A a).testBit i with
            | false => rfl
            | true =>
              cases h5 : s.testBit i with
              | true => rfl
              | false => exact absurd ⟨i, h4, h5⟩ hn
          rw [this]; exact q_beq_self _
        obtain ⟨x, hx1, hx2⟩ := this
        obtain ⟨h4, h5⟩ := hr a x ha hx1
        have hx : x < 16 := by
          apply Nat.lt_of_not_le
          intro h6
          rw [q_hi hW h6] at h4; cases h4
        exact ih x hx h4 hx2 (by omega)
  have : ∃ a, W.testBit a = true ∧ s.testBit a = false := by
    apply Classical.byContradiction
    intro hn
    apply hne
    apply Nat.eq_of_testBit_eq
    intro i
    cases h4 : W.testBit i with
    | false =>
      cases h5 : s.testBit i with
      | false => rfl
      | true => rw [hs i h5] at h4; cases h4
    | true =>
      cases h5 : s.testBit i with
      | true => rfl
      | false => exact absurd ⟨i, h4, h5⟩ hn
  obtain ⟨a, h1, h2⟩ := this
  have ha : a < 16 := by
    apply Nat.lt_of_not_le
    intro h6
    rw [q_hi hW h6] at h1; cases h1
  exact key (rk a) a ha h1 h2 (Nat.le_refl _)
