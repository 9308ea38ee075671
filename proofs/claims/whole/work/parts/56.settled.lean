/-! What is settled: the verdicts in force, and all that they lead to -/
def q_inf (W : Nat) (u l : Nat → Nat) (bk : Nat → Bool) (v : Nat) : Bool := !(bk v) && (W.testBit (u v) && W.testBit (l v))
/-- of each entry those that one of the first n verdicts puts below it -/
def q_v (W : Nat) (u l : Nat → Nat) (bk : Nat → Bool) : Nat → Nat → Nat
  | 0, _ => 0
  | n + 1, a => cond (q_inf W u l bk n && Nat.beq (u n) a) (q_v W u l bk n a ||| 2 ^ (l n)) (q_v W u l bk n a)
theorem q_v_bit {W : Nat} {u l : Nat → Nat} {bk : Nat → Bool} : ∀ {n a b : Nat}, (q_v W u l bk n a).testBit b = true ↔ ∃ v, v < n ∧ q_inf W u l bk v = true ∧ u v = a ∧ l v = b
  | 0, a, b => by
    constructor
    · intro h
      have h : (0 : Nat).testBit b = true := h
      rw [Nat.zero_testBit] at h; cases h
    · intro ⟨v, h, _⟩; exact absurd h (Nat.not_lt_zero _)
  | n + 1, a, b => by
    show (cond (q_inf W u l bk n && Nat.beq (u n) a) (q_v W u l bk n a ||| 2 ^ (l n)) (q_v W u l bk n a)).testBit b = true ↔ _
    have ih := q_v_bit (W := W) (u := u) (l := l) (bk := bk) (n := n) (a := a) (b := b)
    cases hc : (q_inf W u l bk n && Nat.beq (u n) a) with
    | false =>
      rw [cond_false, ih]
      constructor
      · intro ⟨v, h1, h2⟩; exact ⟨v, by omega, h2⟩
      · intro ⟨v, h1, h2, h3, h4⟩
        have : v ≠ n := by
          intro e; subst e
          rw [h2, h3, q_beq_self] at hc; cases hc
        exact ⟨v, by omega, h2, h3, h4⟩
    | true =>
      obtain ⟨h1, h2⟩ := Bool.and_eq_true_iff.1 hc
      rw [cond_true, q_or_bit]
      constructor
      · intro h
        rcases Bool.or_eq_true_iff.1 h with q | q
        · obtain ⟨v, h1, h2⟩ := ih.1 q; exact ⟨v, by omega, h2⟩
        · exact ⟨n, by omega, h1, q_beq_eq h2, (q_beq_eq q).symm⟩
      · intro ⟨v, h3, h4, h5, h6⟩
        by_cases e : v = n
        · subst e; rw [h6, q_beq_self]; simp
        · rw [ih.2 ⟨v, by omega, h4, h5, h6⟩]; rfl
/-- the ways over k -/
def q_ws (k : Nat) (B : Nat → Nat) : Nat → Nat := fun a => cond ((B a).testBit k) (B a ||| B k) (B a)
def q_wn (B : Nat → Nat) : Nat → Nat → Nat
  | 0 => B
  | n + 1 => q_ws n (q_wn B n)
theorem q_ws_bit (k : Nat) (B : Nat → Nat) (a b : Nat) : (q_ws k B a).testBit b = ((B a).testBit b || ((B a).testBit k && (B k).testBit b)) := by
  unfold q_ws
  cases h : (B a).testBit k with
  | false => rw [cond_false]; simp
  | true => rw [cond_true, Nat.testBit_or]; simp
theorem q_ws_self (k : Nat) (B : Nat → Nat) : q_ws k B k = B k := by
  unfold q_ws
  cases (B k).testBit k with
  | false => rfl
  | true => exact Nat.or_self _
theorem q_wn_sub (B : Nat → Nat) : ∀ n a b, (B a).testBit b = true → (q_wn B n a).testBit b = true
  | 0, _, _, h => h
  | n + 1, a, b, h => by
    show (q_ws n (q_wn B n) a).testBit b = true
    rw [q_ws_bit, q_wn_sub B n a b h]; rfl
theorem q_wn_tr (B : Nat → Nat) : ∀ n m a b, m < n → (q_wn B n a).testBit m = true → (q_wn B n m).testBit b = true → (q_wn B n a).testBit b = true
  | 0, _, _, _, h, _, _ => absurd h (Nat.not_lt_zero _)
  | n + 1, m, a, b, h, h1, h2 => by
    have ih := q_wn_tr B n
    revert h1 h2
    show (q_ws n (q_wn B n) a).testBit m = true → (q_ws n (q_wn B n) m).testBit b = true → (q_ws n (q_wn B n) a).testBit b = true
    rw [q_ws_bit, q_ws_bit, q_ws_bit]
    intro h1 h2
    have mk : (q_wn B n a).testBit n = true → (q_wn B n n).testBit b = true → ((q_wn B n a).testBit b || ((q_wn B n a).testBit n && (q_wn B n n).testBit b)) = true := by
      intro g1 g2; rw [g1, g2]; simp
    have mk0 : (q_wn B n a).testBit b = true → ((q_wn B n a).testBit b || ((q_wn B n a).testBit n && (q_wn B n n).testBit b)) = true := by
      intro g1; rw [g1]; rfl
    by_cases e : m = n
    · subst e
      have h3 : (q_wn B m a).testBit m = true := by
        rcases Bool.or_eq_true_iff.1 h1 with q | q
        · exact q
        · exact (Bool.and_eq_true_iff.1 q).1
      have h4 : (q_wn B m m).testBit b = true := by
        rcases Bool.or_eq_true_iff.1 h2 with q | q
        · exact q
        · exact (Bool.and_eq_true_iff.1 q).2
      exact mk h3 h4
    · have hm : m < n := by omega
      rcases Bool.or_eq_true_iff.1 h1 with q1 | q1 <;> rcases Bool.or_eq_true_iff.1 h2 with q2 | q2
      · exact mk0 (ih m a b hm q1 q2)
      · obtain ⟨q3, q4⟩ := Bool.and_eq_true_iff.1 q2
        exact mk (ih m a n hm q1 q3) q4
      · obtain ⟨q3, q4⟩ := Bool.and_eq_true_iff.1 q1
        exact mk q3 (ih m n b hm q4 q2)
      · exact mk (Bool.and_eq_true_iff.1 q1).1 (Bool.and_eq_true_iff.1 q2).2
/-- what holds of the verdicts and passes on holds of all that is settled -/
theorem q_wn_R {B : Nat → Nat} {R : Nat → Nat → Prop} (ht : ∀ a b c, R a b → R b c → R a c) (h : ∀ a b, (B a).testBit b = true → R a b) : ∀ n a b, (q_wn B n a).testBit b = true → R a b
  | 0, a, b, h1 => h a b h1
  | n + 1, a, b, h1 => by
    have ih := q_wn_R ht h n
    have h1 : (q_ws n (q_wn B n) a).testBit b = true := h1
    rw [q_ws_bit] at h1
    rcases Bool.or_eq_true_iff.1 h1 with q | q
    · exact ih a b q
    · obtain ⟨q1, q2⟩ := Bool.and_eq_true_iff.1 q
      exact ht a n b (ih a n q1) (ih n b q2)
/-- turned about -/
def q_tr (B : Nat → Nat) : Nat → Nat → Nat
  | 0, _ => 0
  | n + 1, b => cond ((B n).testBit b) (q_tr B n b ||| 2 ^ n) (q_tr B n b)
theorem q_tr_bit (B : Nat → Nat) : ∀ n b i, (q_tr B n b).testBit i = (decide (i < n) && (B i).testBit b)
  | 0, b, i => by
    show (0 : Nat).testBit i = _
    rw [Nat.zero_testBit]; simp
  | n + 1, b, i => by
    show (cond ((B n).testBit b) (q_tr B n b ||| 2 ^ n) (q_tr B n b)).testBit i = _
    have ih := q_tr_bit B n b i
    by_cases e : i = n
    · subst e
      cases h : (B i).testBit b with
      | false => rw [cond_false, ih]; simp
      | true => rw [cond_true, q_or_bit, ih, q_beq_self]; simp
    · have e1 : decide (i < n) = decide (i < n + 1) := by
        by_cases q : i < n
        · rw [decide_eq_true q, decide_eq_true (by omega)]
        · rw [decide_eq_false q, decide_eq_false (by omega)]
      cases h : (B n).testBit b with
      | false => rw [cond_false, ih, e1]
      | true => rw [cond_true, q_or_bit, ih, q_beq_ne e, e1]; simp
/-- the settled ones below each entry, above each entry -/
def q_B (W n : Nat) (u l : Nat → Nat) (bk : Nat → Bool) : Nat → Nat := q_wn (q_v W u l bk n) 16
def q_Ab (W n : Nat) (u l : Nat → Nat) (bk : Nat → Bool) : Nat → Nat := q_tr (q_B W n u l bk) 16
/-- no circle: ranks that go down all verdicts in force -/
def q_ac (W n : Nat) (u l : Nat → Nat) (bk : Nat → Bool) : Prop := ∃ rk : Nat → Nat, ∀ v, v < n → q_inf W u l bk v = true → rk (u v) < rk (l v)
theorem q_inf_W {W : Nat} {u l : Nat → Nat} {bk : Nat → Bool} {v : Nat} (h : q_inf W u l bk v = true) : bk v = false ∧ W.testBit (u v) = true ∧ W.testBit (l v) = true := by
  unfold q_inf at h
  obtain ⟨h1, h2⟩ := Bool.and_eq_true_iff.1 h
  obtain ⟨h3, h4⟩ := Bool.and_eq_true_iff.1 h2
  refine ⟨?_, h3, h4⟩
  cases hb : bk v with
  | false => rfl
  | true => rw [hb] at h1; cases h1
theorem q_B_W {W n : Nat} {u l : Nat → Nat} {bk : Nat → Bool} {a b : Nat} (h : (q_B W n u l bk a).testBit b = true) : W.testBit a = true ∧ W.testBit b = true := by
  refine q_wn_R (R := fun a b => W.testBit a = true ∧ W.testBit b = true) (fun a b c h1 h2 => ⟨h1.1, h2.2⟩) ?_ 16 a b h
  intro a b h1
  obtain ⟨v, _, h2, h3, h4⟩ := q_v_bit.1 h1
  have := q_inf_W h2
  rw [← h3, ← h4]
  exact this.2
theorem q_B_lt {W n : Nat} {u l : Nat → Nat} {bk : Nat → Bool} (hW : W < 2 ^ 16) (a : Nat) : q_B W n u l bk a < 2 ^ 16 := q_sub_lt hW (fun i h => (q_B_W h).2)
theorem q_B_tr {W n : Nat} {u l : Nat → Nat} {bk : Nat → Bool} {a b c : Nat} (hW : W < 2 ^ 16) (h1 : (q_B W n u l bk a).testBit b = true) (h2 : (q_B W n u l bk b).testBit c = true) : (q_B W n u l bk a).testBit c = true := by
  have hb : b < 16 := by
    apply Nat.lt_of_not_le
    intro h
    have := (q_B_W h1).2
    rw [q_hi hW h] at this; cases this
  exact q_wn_tr _ 16 b a c hb h1 h2
theorem q_B_rk {W n : Nat} {u l : Nat → Nat} {bk : Nat → Bool} {rk : Nat → Nat} (hr : ∀ v, v < n → q_inf W u l bk v = true → rk (u v) < rk (l v)) {a b : Nat} (h : (q_B W n u l bk a).testBit b = true) : rk a < rk b := by
  refine q_wn_R (R := fun a b => rk a < rk b) (fun a b c h1 h2 => Nat.lt_trans h1 h2) ?_ 16 a b h
  intro a b h1
  obtain ⟨v, h0, h2, h3, h4⟩ := q_v_bit.1 h1
  rw [← h3, ← h4]
  exact hr v h0 h2
theorem q_B_ir {W n : Nat} {u l : Nat → Nat} {bk : Nat → Bool} (h : q_ac W n u l bk) (a : Nat) : (q_B W n u l bk a).testBit a = false := by
  obtain ⟨rk, hr⟩ := h
  cases hb : (q_B W n u l bk a).testBit a with
  | false => rfl
  | true => have := q_B_rk hr hb; omega
theorem q_Ab_bit {W n : Nat} {u l : Nat → Nat} {bk : Nat → Bool} (hW : W < 2 ^ 16) (b a : Nat) : (q_Ab W n u l bk b).testBit a = (q_B W n u l bk a).testBit b := by
  unfold q_Ab
  rw [q_tr_bit]
  by_cases h : a < 16
  · rw [decide_eq_true h]; rfl
  · rw [decide_eq_false h]
    cases hb : (q_B W n u l bk a).testBit b with
    | false => rfl
    | true =>
      have := (q_B_W hb).1
      rw [q_hi hW (by omega)] at this; cases this
theorem q_Ab_lt {W n : Nat} {u l : Nat → Nat} {bk : Nat → Bool} (hW : W < 2 ^ 16) (b : Nat) : q_Ab W n u l bk b < 2 ^ 16 := by
  apply q_sub_lt hW
  intro i h
  rw [q_Ab_bit hW] at h
  exact (q_B_W h).1
/-- a verdict more that goes against none keeps all without circles -/
theorem q_ac_add {W n : Nat} {u l u' l' : Nat → Nat} {bk bk' : Nat → Bool} (hW : W < 2 ^ 16) (h : q_ac W n u l bk) (hu : ∀ v, v < n → u' v = u v) (hl : ∀ v, v < n → l' v = l v) (hb : ∀ v, v < n → bk' v = bk v) (hne : u' n ≠ l' n) (hn : (q_B W n u l bk (l' n)).testBit (u' n) = false) : q_ac W (n + 1) u' l' bk' := by
  obtain ⟨rk, hr⟩ := h
  let D : Nat → Bool := fun x => Nat.beq x (l' n) || (q_B W n u l bk (l' n)).testBit x
  refine ⟨fun x => cond (D x) (rk x + (rk (u' n) + 1)) (rk x), ?_⟩
  intro v hv hi
  by_cases e : v = n
  · subst e
    have h1 : D (u' v) = false := by
      show (Nat.beq (u' v) (l' v) || (q_B W v u l bk (l' v)).testBit (u' v)) = false
      rw [hn, q_beq_ne hne]; rfl
    have h2 : D (l' v) = true := by
      show (Nat.beq (l' v) (l' v) || _) = true
      rw [q_beq_self]; rfl
    show cond (D (u' v)) _ _ < cond (D (l' v)) _ _
    rw [h1, h2, cond_true, cond_false]; omega
  · have hv : v < n := by omega
    have hi' : q_inf W u l bk v = true := by
      unfold q_inf at hi ⊢
      rw [hu v hv, hl v hv, hb v hv] at hi; exact hi
    have h1 := hr v hv hi'
    show cond (D (u' v)) _ _ < cond (D (l' v)) _ _
    rw [hu v hv, hl v hv]
    have h3 : (q_B W n u l bk (u v)).testBit (l v) = true := q_wn_sub _ 16 _ _ (q_v_bit.2 ⟨v, hv, hi', rfl, rfl⟩)
    cases hD : D (u v) with
    | true =>
      have h2 : D (l v) = true := by
        show (Nat.beq (l v) (l' n) || (q_B W n u l bk (l' n)).testBit (l v)) = true
        rcases Bool.or_eq_true_iff.1 hD with q | q
        · rw [q_beq_eq q] at h3; rw [h3]; simp
        · rw [q_B_tr hW q h3]; simp
      rw [h2, cond_true, cond_true]; omega
    | false =>
      rw [cond_false]
      cases D (l v) with
      | true => rw [cond_true]; omega
      | false => rw [cond_false]; omega
/-- fewer verdicts in force -/
theorem q_ac_less {W W' n : Nat} {u l : Nat → Nat} {bk bk' : Nat → Bool} (h : q_ac W n u l bk) (hi : ∀ v, v < n → q_inf W' u l bk' v = true → q_inf W u l bk v = true) : q_ac W' n u l bk' := by
  obtain ⟨rk, hr⟩ := h
  exact ⟨rk, fun v hv h1 => hr v hv (hi v hv h1)⟩
theorem q_ac_0 (W : Nat) (u l : Nat → Nat) (bk : Nat → Bool) : q_ac W 0 u l bk := ⟨fun _ => 0, fun v h => absurd h (Nat.not_lt_zero _)⟩
/-- all of it depends on the verdicts so far alone -/
theorem q_v_congr {W : Nat} {u l u' l' : Nat → Nat} {bk bk' : Nat → Bool} : ∀ {n : Nat}, (∀ v, v < n → u' v = u v ∧ l' v = l v ∧ bk' v = bk v) → q_v W u' l' bk' n = q_v W u l bk n
  | 0, _ => rfl
  | n + 1, h => by
    funext a
    show cond (q_inf W u' l' bk' n && Nat.beq (u' n) a) (q_v W u' l' bk' n a ||| 2 ^ (l' n)) (q_v W u' l' bk' n a) = cond (q_inf W u l bk n && Nat.beq (u n) a) (q_v W u l bk n a ||| 2 ^ (l n)) (q_v W u l bk n a)
    obtain ⟨h1, h2, h3⟩ := h n (by omega)
    rw [q_v_congr (fun v hv => h v (by omega)), h1, h2]
    unfold q_inf
    rw [h1, h2, h3]
