/-! The widest tie that comes first -/
def q_G (B : Nat → Nat → Bool) (S : Nat → Bool) (w k : Nat) (C P : Nat → Bool) (m : Nat) : Prop :=
  (∀ i, C i = true → i < k ∧ S i = true) ∧ q_A B C ∧ (∀ x, k ≤ x → x < 16 → P x = true → S x = true ∧ ∀ c, c < 16 → C c = true → B c x = false ∧ B x c = false) ∧ q_wd B (fun i => P i && decide (k ≤ i)) m ∧ q_c C + m = w ∧
  ∀ T, (∀ i, i < 16 → T i = true → S i = true) → q_A B T → q_c T = w → (∃ a, a < k ∧ C a = true ∧ T a = false ∧ ∀ i, i < a → C i = T i) ∨ ((∀ i, i < k → C i = T i) ∧ ∀ i, k ≤ i → i < 16 → T i = true → P i = true)
/-- the others that may go with k -/
def q_O (B : Nat → Nat → Bool) (P : Nat → Bool) (k : Nat) : Nat → Bool := fun i => (P i && decide (k + 1 ≤ i)) && (!(B k i) && !(B i k))
theorem q_O_sub {B : Nat → Nat → Bool} {P : Nat → Bool} {k i : Nat} (h : q_O B P k i = true) : P i = true ∧ k + 1 ≤ i ∧ B k i = false ∧ B i k = false := by
  unfold q_O at h
  obtain ⟨h1, h2⟩ := Bool.and_eq_true_iff.1 h
  obtain ⟨h3, h4⟩ := Bool.and_eq_true_iff.1 h1
  obtain ⟨h5, h6⟩ := Bool.and_eq_true_iff.1 h2
  refine ⟨h3, of_decide_eq_true h4, ?_, ?_⟩
  · cases hb : B k i with
    | false => rfl
    | true => rw [hb] at h5; cases h5
  · cases hb : B i k with
    | false => rfl
    | true => rw [hb] at h6; cases h6
theorem q_O_mk {B : Nat → Nat → Bool} {P : Nat → Bool} {k i : Nat} (h1 : P i = true) (h2 : k + 1 ≤ i) (h3 : B k i = false) (h4 : B i k = false) : q_O B P k i = true := by
  unfold q_O
  rw [h1, h3, h4, decide_eq_true h2]; rfl
/-- k before a tie of the others -/
theorem q_O_in {B : Nat → Nat → Bool} {P T : Nat → Bool} {k : Nat} (hi : ∀ a, a < 16 → B a a = false) (hk : k < 16) (hT : ∀ i, i < 16 → T i = true → q_O B P k i = true) (hA : q_A B T) : q_A B (q_in T k) := by
  intro a b ha hb h1 h2
  rcases q_in_sub h1 with q1 | q1 <;> rcases q_in_sub h2 with q2 | q2
  · exact hA a b ha hb q1 q2
  · subst q2; exact (q_O_sub (hT a ha q1)).2.2.2
  · subst q1; exact (q_O_sub (hT b hb q2)).2.2.1
  · subst q1; subst q2; exact hi _ ha
/-- a widest tie with k leaves a widest one of the others -/
theorem q_O_wd {B : Nat → Nat → Bool} {P T : Nat → Bool} {k m : Nat} (hi : ∀ a, a < 16 → B a a = false) (hk : k < 16) (hP : P k = true) (hw : ∀ T, (∀ i, i < 16 → T i = true → (P i && decide (k ≤ i)) = true) → q_A B T → q_c T ≤ m) (hT : ∀ i, i < 16 → T i = true → (P i && decide (k ≤ i)) = true) (hA : q_A B T) (hc : q_c T = m) (hTk : T k = true) : ∃ w, w + 1 = m ∧ q_wd B (q_O B P k) w := by
  have h1 := q_c_rm hk hTk
  refine ⟨q_c (q_rm T k), by omega, ⟨q_rm T k, ?_, ?_, rfl⟩, ?_⟩
  · intro i h2 h3
    obtain ⟨h4, h5⟩ := q_rm_sub h3
    obtain ⟨h6, h7⟩ := Bool.and_eq_true_iff.1 (hT i h2 h4)
    have h7 := of_decide_eq_true h7
    exact q_O_mk h6 (by omega) (hA k i hk h2 hTk h4) (hA i k h2 hk h4 hTk)
  · intro a b ha hb h2 h3
    exact hA a b ha hb (q_rm_sub h2).1 (q_rm_sub h3).1
  · intro T' hT' hA'
    have h2 := hw (q_in T' k) (by
      intro i h3 h4
      rcases q_in_sub h4 with q | q
      · obtain ⟨h5, h6, _⟩ := q_O_sub (hT' i h3 q)
        rw [h5, decide_eq_true (by omega)]; rfl
      · subst q; rw [hP, decide_eq_true (Nat.le_refl _)]; rfl) (q_O_in hi hk hT' hA')
    have h3 : T' k = false := by
      cases h4 : T' k with
      | false => rfl
      | true => have := (q_O_sub (hT' k hk h4)).2.1; omega
    have h4 := q_c_in hk h3
    omega
theorem q_G_step {B : Nat → Nat → Bool} {S C P : Nat → Bool} {w k m wO : Nat} (hi : ∀ a, a < 16 → B a a = false) (hk : k < 16) (h : q_G B S w k C P m) (hO : q_wd B (q_O B P k) wO) : (P k = true ∧ wO + 1 = m → q_G B S w (k + 1) (q_in C k) (q_O B P k) wO) ∧ (¬ (P k = true ∧ wO + 1 = m) → q_G B S w (k + 1) C P m) := by
  obtain ⟨g1, g2, g3, g4, g5, g6⟩ := h
  have hCk : C k = false := by
    cases h1 : C k with
    | false => rfl
    | true => have := (g1 k h1).1; omega
  constructor
  · intro ⟨hP, hm⟩
    refine ⟨?_, ?_, ?_, ?_, ?_, ?_⟩
    · intro i h1
      rcases q_in_sub h1 with q | q
      · have := g1 i q; exact ⟨by omega, this.2⟩
      · subst q; exact ⟨by omega, (g3 i (Nat.le_refl _) hk hP).1⟩
    · intro a b ha hb h1 h2
      rcases q_in_sub h1 with q1 | q1 <;> rcases q_in_sub h2 with q2 | q2
      · exact g2 a b ha hb q1 q2
      · subst q2; exact ((g3 b (Nat.le_refl _) hk hP).2 a ha q1).1
      · subst q1; exact ((g3 a (Nat.le_refl _) hk hP).2 b hb q2).2
      · subst q1; subst q2; exact hi _ ha
    · intro x h1 h2 h3
      obtain ⟨h4, h5, h6, h7⟩ := q_O_sub h3
      have h8 := g3 x (by omega) h2 h4
      refine ⟨h8.1, fun c hc hcc => ?_⟩
      rcases q_in_sub hcc with q | q
      · exact h8.2 c hc q
      · subst q; exact ⟨h6, h7⟩
    · have e : (fun i => q_O B P k i && decide (k + 1 ≤ i)) = q_O B P k := by
        funext i
        cases h1 : q_O B P k i with
        | false => rfl
        | true => rw [decide_eq_true (q_O_sub h1).2.1]; rfl
      rw [e]; exact hO
    · rw [q_c_in hk hCk]; omega
    · intro T hT hA hc
      rcases g6 T hT hA hc with ⟨a, h1, h2, h3, h4⟩ | ⟨h1, h2⟩
      · left
        refine ⟨a, by omega, ?_, h3, fun i hia => ?_⟩
        · rw [q_in_ne C (by omega)]; exact h2
        · rw [q_in_ne C (by omega)]; exact h4 i hia
      · cases hTk : T k with
        | false =>
          left
          refine ⟨k, by omega, q_in_same C k, hTk, fun i hik => ?_⟩
          rw [q_in_ne C (by omega)]; exact h1 i hik
        | true =>
          right
          constructor
          · intro i hik
            by_cases e : i = k
            · subst e; rw [q_in_same, hTk]
            · rw [q_in_ne C e]; exact h1 i (by omega)
          · intro i hik hi16 hTi
            exact q_O_mk (h2 i (by omega) hi16 hTi) hik (hA k i hk hi16 hTk hTi) (hA i k hi16 hk hTi hTk)
  · intro hn
    have hno : ∀ T, (∀ i, i < 16 → T i = true → (P i && decide (k ≤ i)) = true) → q_A B T → q_c T = m → T k = false := by
      intro T hT hA hc
      cases hTk : T k with
      | false => rfl
      | true =>
        have hP : P k = true := (Bool.and_eq_true_iff.1 (hT k hk hTk)).1
        obtain ⟨w', h1, h2⟩ := q_O_wd hi hk hP g4.2 hT hA hc hTk
        have := q_wd_eq hO h2
        exact absurd ⟨hP, by omega⟩ hn
    refine ⟨fun i h1 => ⟨by have := (g1 i h1).1; omega, (g1 i h1).2⟩, g2, fun x h1 h2 h3 => g3 x (by omega) h2 h3, ?_, g5, ?_⟩
    · obtain ⟨⟨T, h1, h2, h3⟩, h4⟩ := g4
      have h5 := hno T h1 h2 h3
      refine ⟨⟨T, ?_, h2, h3⟩, ?_⟩
      · intro i hi16 hTi
        obtain ⟨h6, h7⟩ := Bool.and_eq_true_iff.1 (h1 i hi16 hTi)
        have h7 := of_decide_eq_true h7
        have : i ≠ k := by intro e; subst e; rw [h5] at hTi; cases hTi
        show (P i && decide (k + 1 ≤ i)) = true; rw [h6, decide_eq_true (by omega)]; rfl
      · intro T' hT' hA'
        apply h4 T' _ hA'
        intro i hi16 hTi
        obtain ⟨h6, h7⟩ := Bool.and_eq_true_iff.1 (hT' i hi16 hTi)
        have h7 := of_decide_eq_true h7
        show (P i && decide (k ≤ i)) = true; rw [h6, decide_eq_true (by omega)]; rfl
    · intro T hT hA hc
      rcases g6 T hT hA hc with ⟨a, h1, h2, h3, h4⟩ | ⟨h1, h2⟩
      · left; exact ⟨a, by omega, h2, h3, h4⟩
      · right
        have hTk : T k = false := by
          have h3 := hno (fun i => T i && !(C i)) (by
            intro i hi16 hTi
            obtain ⟨h5, h6⟩ := Bool.and_eq_true_iff.1 hTi
            have h7 : k ≤ i := by
              apply Nat.le_of_not_lt
              intro h7
              rw [h1 i h7, h5] at h6; cases h6
            rw [h2 i h7 hi16 h5, decide_eq_true h7]; rfl) (by
            intro a b ha hb h5 h6
            exact hA a b ha hb (Bool.and_eq_true_iff.1 h5).1 (Bool.and_eq_true_iff.1 h6).1) (by
            have h5 := q_c_split T C
            have h6 : q_c C = q_c (fun i => T i && C i) := q_c_congr (fun i _ => by
              cases h7 : C i with
              | false => cases T i <;> rfl
              | true => rw [← h1 i (g1 i h7).1, h7]; rfl)
            omega)
          rw [hCk] at h3
          cases hTk : T k with
          | false => rfl
          | true => rw [hTk] at h3; cases h3
        constructor
        · intro i hik
          by_cases e : i = k
          · subst e; rw [hCk, hTk]
          · exact h1 i (by omega)
        · intro i hik; exact h2 i (by omega)
theorem q_G_start {B : Nat → Nat → Bool} {S : Nat → Bool} {w : Nat} (h : q_wd B S w) : q_G B S w 0 (fun _ => false) S w := by
  refine ⟨fun i h1 => Bool.noConfusion h1, fun a b _ _ h1 => Bool.noConfusion h1, fun x _ _ h1 => ⟨h1, fun c _ h2 => Bool.noConfusion h2⟩, ?_, ?_, ?_⟩
  · have e : (fun i => S i && decide (0 ≤ i)) = S := by
      funext i; rw [decide_eq_true (Nat.zero_le _)]; cases S i <;> rfl
    rw [e]; exact h
  · rw [q_c_zero (fun _ _ => rfl)]; omega
  · intro T hT hA hc
    right
    exact ⟨fun i h1 => absurd h1 (Nat.not_lt_zero _), fun i _ h1 h2 => hT i h1 h2⟩
/-- a tie that is widest and comes first -/
def q_T (B : Nat → Nat → Bool) (S T : Nat → Bool) : Prop :=
  (∀ i, i < 16 → T i = true → S i = true) ∧ q_A B T ∧ q_wd B S (q_c T) ∧ ∀ T', (∀ i, i < 16 → T' i = true → S i = true) → q_A B T' → q_c T' = q_c T → (∃ a, a < 16 ∧ T a = true ∧ T' a = false ∧ ∀ i, i < a → T i = T' i) ∨ (∀ i, i < 16 → T i = T' i)
theorem q_G_end {B : Nat → Nat → Bool} {S C P : Nat → Bool} {w m : Nat} (hw : q_wd B S w) (h : q_G B S w 16 C P m) : q_T B S C ∧ q_c C = w := by
  obtain ⟨g1, g2, g3, g4, g5, g6⟩ := h
  have hm : m = 0 := by
    obtain ⟨⟨T, h1, h2, h3⟩, h4⟩ := g4
    rw [← h3]
    apply q_c_zero
    intro i hi
    cases hT : T i with
    | false => rfl
    | true =>
      obtain ⟨_, h6⟩ := Bool.and_eq_true_iff.1 (h1 i hi hT)
      have := of_decide_eq_true h6
      omega
  subst hm
  have hcw : q_c C = w := by omega
  refine ⟨⟨fun i _ h1 => (g1 i h1).2, g2, by rw [hcw]; exact hw, ?_⟩, hcw⟩
  intro T hT hA hc
  rcases g6 T hT hA (by omega) with ⟨a, h1, h2, h3, h4⟩ | ⟨h1, _⟩
  · left; exact ⟨a, h1, h2, h3, h4⟩
  · right; exact h1
theorem q_T_eq {B : Nat → Nat → Bool} {S T T' : Nat → Bool} (h : q_T B S T) (h' : q_T B S T') : ∀ i, i < 16 → T i = T' i := by
  have hc := q_wd_eq h.2.2.1 h'.2.2.1
  rcases h.2.2.2 T' h'.1 h'.2.1 hc.symm with ⟨a, h1, h2, h3, h4⟩ | q
  · rcases h'.2.2.2 T h.1 h.2.1 hc with ⟨b, g1, g2, g3, g4⟩ | q
    · rcases Nat.lt_trichotomy a b with q | q | q
      · rw [g4 a q] at h3; rw [h2] at h3; cases h3
      · subst q; rw [h2] at g3; cases g3
      · rw [h4 b q] at g3; rw [g2] at g3; cases g3
    · intro i hi; exact (q i hi).symm
  · exact q
