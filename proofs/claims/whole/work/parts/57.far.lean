/-! How few verdicts lead to a goal -/
def q_lv (B : Nat → Nat) (g : Nat) : Nat → Nat → Bool
  | 0, e => Nat.beq e g
  | f + 1, e => q_lv B g f e || decide (0 < q_c (fun x => (B e).testBit x && q_lv B g f x))
def q_d (B : Nat → Nat) (g e : Nat) : Nat := q_cn (fun f => !(q_lv B g f e)) 16
theorem q_lv_s {B : Nat → Nat} {g f e : Nat} : q_lv B g (f + 1) e = true ↔ q_lv B g f e = true ∨ ∃ x, x < 16 ∧ (B e).testBit x = true ∧ q_lv B g f x = true := by
  show (q_lv B g f e || decide (0 < q_c (fun x => (B e).testBit x && q_lv B g f x))) = true ↔ _
  rw [Bool.or_eq_true_iff]
  constructor
  · intro h
    rcases h with q | q
    · exact .inl q
    · obtain ⟨x, h1, h2⟩ := q_c_pos (of_decide_eq_true q)
      exact .inr ⟨x, h1, Bool.and_eq_true_iff.1 h2⟩
  · intro h
    rcases h with q | ⟨x, h1, h2⟩
    · exact .inl q
    · exact .inr (decide_eq_true (q_c_has h1 (Bool.and_eq_true_iff.2 h2)))
theorem q_lv_mono {B : Nat → Nat} {g e f f' : Nat} (h : f ≤ f') (h1 : q_lv B g f e = true) : q_lv B g f' e = true := by
  induction h with
  | refl => exact h1
  | step _ ih => exact q_lv_s.2 (.inl ih)
theorem q_cn_first {p : Nat → Bool} {n f : Nat} (ha : ∀ i j, j ≤ i → p i = true → p j = true) (hf : f < n) : q_cn p n ≤ f ↔ p f = false := by
  constructor
  · intro h
    cases hp : p f with
    | false => rfl
    | true =>
      have h1 : q_cn (fun _ => true) (f + 1) ≤ q_cn p (f + 1) := q_cn_le (fun i hi _ => ha f i (by omega) hp)
      have h2 : q_cn (fun _ => true) (f + 1) = f + 1 := by
        show q_sum (fun _ => 1) (f + 1) = f + 1
        rw [q_sum_const]; omega
      have h3 : q_cn p (f + 1) ≤ q_cn p n := q_sum_mono _ (by omega)
      omega
  · intro h
    obtain ⟨d, hd⟩ := Nat.le.dest (Nat.le_of_lt hf)
    have h1 : q_cn p n = q_cn p f := by
      unfold q_cn
      rw [← hd, q_sum_split, q_sum_zero (n := d), Nat.add_zero]
      intro i _
      show q_b (p (f + i)) = 0
      cases hp : p (f + i) with
      | false => rfl
      | true => rw [ha (f + i) f (by omega) hp] at h; cases h
    rw [h1]; exact q_cn_max p f
theorem q_d_le {B : Nat → Nat} {g e f : Nat} (hf : f < 16) : q_d B g e ≤ f ↔ q_lv B g f e = true := by
  unfold q_d
  rw [q_cn_first (p := fun f => !(q_lv B g f e)) ?_ hf]
  · cases q_lv B g f e <;> simp
  · intro i j hji h
    cases hl : q_lv B g j e with
    | false => rfl
    | true => simp only [q_lv_mono hji hl] at h; cases h
theorem q_d_16 (B : Nat → Nat) (g e : Nat) : q_d B g e ≤ 16 := q_cn_max _ 16
theorem q_d_0 {B : Nat → Nat} {g e : Nat} : q_d B g e = 0 ↔ e = g := by
  have h := q_d_le (B := B) (g := g) (e := e) (f := 0) (by decide)
  constructor
  · intro h1
    exact q_beq_eq (h.1 (by omega))
  · intro h1
    have := h.2 (by subst h1; exact q_beq_self _)
    omega
/-- when a level adds none, no later one does -/
theorem q_lv_stop {B : Nat → Nat} {g f : Nat} (h : ∀ e, e < 16 → q_lv B g (f + 1) e = true → q_lv B g f e = true) : ∀ k e, e < 16 → q_lv B g (f + k) e = true → q_lv B g f e = true
  | 0, _, _, h1 => h1
  | k + 1, e, he, h1 => by
    rcases q_lv_s.1 h1 with q | ⟨x, h2, h3, h4⟩
    · exact q_lv_stop h k e he q
    · exact h e he (q_lv_s.2 (.inr ⟨x, h2, h3, q_lv_stop h k x h2 h4⟩))
theorem q_lv_15 {B : Nat → Nat} {g : Nat} (hg : g < 16) {f e : Nat} (he : e < 16) (h : q_lv B g f e = true) : q_lv B g 15 e = true := by
  have key : ∀ k, (∃ f, f < k ∧ ∀ e, e < 16 → q_lv B g (f + 1) e = true → q_lv B g f e = true) ∨ k + 1 ≤ q_c (fun e => q_lv B g k e) := by
    intro k
    induction k with
    | zero => right; exact q_c_has hg (q_beq_self g)
    | succ k ih =>
      rcases ih with ⟨f, h1, h2⟩ | ih
      · exact .inl ⟨f, by omega, h2⟩
      · by_cases hs : ∀ e, e < 16 → q_lv B g (k + 1) e = true → q_lv B g k e = true
        · exact .inl ⟨k, by omega, hs⟩
        · right
          have : ∃ e, e < 16 ∧ q_lv B g (k + 1) e = true ∧ q_lv B g k e = false := by
            apply Classical.byContradiction
            intro hn
            apply hs
            intro e he h1
            cases hl : q_lv B g k e with
            | true => rfl
            | false => exact absurd ⟨e, he, h1, hl⟩ hn
          obtain ⟨e, he, h1, h2⟩ := this
          have := q_c_lt (p := fun e => q_lv B g k e) (r := fun e => q_lv B g (k + 1) e) (fun i _ h3 => q_lv_mono (by omega) h3) he h1 h2
          omega
  rcases key 16 with ⟨k, h1, h2⟩ | h1
  · have h3 : q_lv B g (k + f) e = true := q_lv_mono (by omega) h
    exact q_lv_mono (by omega) (q_lv_stop h2 f e he h3)
  · have := q_c_16 (fun e => q_lv B g 16 e)
    omega
theorem q_d_step {B : Nat → Nat} {g e f : Nat} (h : q_d B g e = f + 1) (hf : f < 15) : ∃ x, x < 16 ∧ (B e).testBit x = true ∧ q_d B g x = f := by
  have h1 := (q_d_le (B := B) (g := g) (e := e) (f := f + 1) (by omega)).1 (by omega)
  have h2 : ¬ q_lv B g f e = true := fun q => by have := (q_d_le (B := B) (g := g) (e := e) (f := f) (by omega)).2 q; omega
  rcases q_lv_s.1 h1 with q | ⟨x, h3, h4, h5⟩
  · exact absurd q h2
  · refine ⟨x, h3, h4, ?_⟩
    have h6 := (q_d_le (B := B) (g := g) (e := x) (f := f) (by omega)).2 h5
    apply Nat.le_antisymm h6
    apply Nat.le_of_not_lt
    intro h7
    apply h2
    obtain ⟨f, rfl⟩ : ∃ k, f = k + 1 := ⟨f - 1, by omega⟩
    exact q_lv_s.2 (.inr ⟨x, h3, h4, (q_d_le (by omega)).1 (by omega)⟩)
theorem q_d_edge {B : Nat → Nat} {g e x f : Nat} (hx : x < 16) (hb : (B e).testBit x = true) (h : q_d B g x ≤ f) (hf : f < 15) : q_d B g e ≤ f + 1 := by
  apply (q_d_le (by omega)).2
  exact q_lv_s.2 (.inr ⟨x, hx, hb, (q_d_le (by omega)).1 h⟩)
theorem q_d_reach {B : Nat → Nat} {g e : Nat} (hB : ∀ a b, (B a).testBit b = true → b < 16) (hg : g < 16) (he : e < 16) (h : (q_wn B 16 e).testBit g = true) : q_d B g e ≤ 15 := by
  have h1 := q_wn_R (B := B) (R := fun a b => ∀ g f, q_lv B g f b = true → ∃ f', q_lv B g f' a = true) (fun a b c h1 h2 g f h3 => by
    obtain ⟨f', h4⟩ := h2 g f h3
    exact h1 g f' h4) (fun a b h1 g f h2 => ⟨f + 1, q_lv_s.2 (.inr ⟨b, hB a b h1, h1, h2⟩)⟩) 16 e g h
  obtain ⟨f, h2⟩ := h1 g 0 (q_beq_self g)
  exact (q_d_le (by decide)).2 (q_lv_15 hg he h2)
/-- 16 means that nothing leads there -/
theorem q_d_far {B : Nat → Nat} {g e : Nat} (hg : g < 16) (he : e < 16) (h : q_d B g e = 16) (f : Nat) : q_lv B g f e = false := by
  cases hl : q_lv B g f e with
  | false => rfl
  | true =>
    have := (q_d_le (B := B) (g := g) (e := e) (f := 15) (by decide)).2 (q_lv_15 hg he hl)
    omega
