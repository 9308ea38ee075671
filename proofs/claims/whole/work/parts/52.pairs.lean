/-! Pairings: the most pairs, the widest tie -/
/-- nx pairs entries of U with entries of L, each at most once -/
def q_M (B : Nat → Nat → Bool) (U L : Nat → Bool) (nx : Nat → Option Nat) : Prop :=
  (∀ a b, a < 16 → nx a = some b → U a = true ∧ L b = true ∧ b < 16 ∧ B a b = true) ∧ (∀ a a' b, a < 16 → a' < 16 → nx a = some b → nx a' = some b → a = a')
/-- each pair that may be has an end in X or in Y -/
def q_C (B : Nat → Nat → Bool) (U L X Y : Nat → Bool) : Prop := ∀ a b, a < 16 → b < 16 → U a = true → L b = true → B a b = true → X a = true ∨ Y b = true
def q_sz (nx : Nat → Option Nat) : Nat := q_c (fun a => (nx a).isSome)
def q_nu (B : Nat → Nat → Bool) (U L : Nat → Bool) (m : Nat) : Prop := (∃ nx, q_M B U L nx ∧ q_sz nx = m) ∧ ∃ X Y, q_C B U L X Y ∧ q_c X + q_c Y ≤ m
theorem q_weak {B : Nat → Nat → Bool} {U L : Nat → Bool} {nx : Nat → Option Nat} {X Y : Nat → Bool} (hm : q_M B U L nx) (hc : q_C B U L X Y) : q_sz nx ≤ q_c X + q_c Y := by
  unfold q_sz
  rw [q_c_split _ X]
  apply Nat.add_le_add
  · apply q_c_le
    intro i _ h
    cases hx : X i with
    | true => rfl
    | false => rw [hx] at h; simp at h
  · apply q_c_inj (f := fun a => (nx a).getD 0)
    · intro i hi h
      obtain ⟨h1, h2⟩ := Bool.and_eq_true_iff.1 h
      obtain ⟨b, hb⟩ := Option.isSome_iff_exists.1 h1
      obtain ⟨hU, hL, hb16, hB⟩ := hm.1 i b hi hb
      rw [hb]
      refine ⟨hb16, ?_⟩
      rcases hc i b hi hb16 hU hL hB with q | q
      · rw [q] at h2; cases h2
      · exact q
    · intro i j hi hj h h' e
      obtain ⟨b, hb⟩ := Option.isSome_iff_exists.1 (Bool.and_eq_true_iff.1 h).1
      obtain ⟨b', hb'⟩ := Option.isSome_iff_exists.1 (Bool.and_eq_true_iff.1 h').1
      rw [hb, hb'] at e
      have e : b = b' := e
      subst e
      exact hm.2 i j b hi hj hb hb'
theorem q_nu_eq {B : Nat → Nat → Bool} {U L : Nat → Bool} {m m' : Nat} (h : q_nu B U L m) (h' : q_nu B U L m') : m = m' := by
  obtain ⟨⟨nx, h1, h2⟩, X, Y, h3, h4⟩ := h
  obtain ⟨⟨nx', h1', h2'⟩, X', Y', h3', h4'⟩ := h'
  have := q_weak h1 h3'
  have := q_weak h1' h3
  omega
theorem q_M_congr {B B' : Nat → Nat → Bool} {U U' L L' : Nat → Bool} {nx : Nat → Option Nat} (hB : ∀ a b, a < 16 → b < 16 → B a b = B' a b) (hU : ∀ a, a < 16 → U a = U' a) (hL : ∀ a, a < 16 → L a = L' a) (h : q_M B U L nx) : q_M B' U' L' nx := by
  refine ⟨fun a b ha hn => ?_, h.2⟩
  obtain ⟨h1, h2, h3, h4⟩ := h.1 a b ha hn
  rw [← hU a ha, ← hL b h3, ← hB a b ha h3]
  exact ⟨h1, h2, h3, h4⟩
theorem q_C_congr {B B' : Nat → Nat → Bool} {U U' L L' X Y : Nat → Bool} (hB : ∀ a b, a < 16 → b < 16 → B a b = B' a b) (hU : ∀ a, a < 16 → U a = U' a) (hL : ∀ a, a < 16 → L a = L' a) (h : q_C B U L X Y) : q_C B' U' L' X Y := by
  intro a b ha hb h1 h2 h3
  rw [← hU a ha] at h1
  rw [← hL b hb] at h2
  rw [← hB a b ha hb] at h3
  exact h a b ha hb h1 h2 h3
theorem q_nu_congr {B B' : Nat → Nat → Bool} {U U' L L' : Nat → Bool} {m : Nat} (hB : ∀ a b, a < 16 → b < 16 → B a b = B' a b) (hU : ∀ a, a < 16 → U a = U' a) (hL : ∀ a, a < 16 → L a = L' a) (h : q_nu B U L m) : q_nu B' U' L' m := by
  obtain ⟨⟨nx, h1, h2⟩, X, Y, h3, h4⟩ := h
  exact ⟨⟨nx, q_M_congr hB hU hL h1, h2⟩, X, Y, q_C_congr hB hU hL h3, h4⟩
/-- one more upper entry that finds no partner -/
theorem q_fail {B : Nat → Nat → Bool} {U L X Y Z N : Nat → Bool} {nx pv : Nat → Option Nat} {a m : Nat} (hm : q_M B U L nx) (hp : ∀ b, b < 16 → N b = true → ∃ u, u < 16 ∧ pv b = some u ∧ nx u = some b ∧ Z u = true ∧ u ≠ a) (hz : ∀ u b, u < 16 → b < 16 → Z u = true → L b = true → B u b = true → N b = true) (hza : Z a = true) (hc : q_C B U L X Y) (hs : q_c X + q_c Y ≤ m) : q_C B (q_in U a) L (fun i => X i && !(Z i)) (fun i => Y i || N i) ∧ q_c (fun i => X i && !(Z i)) + q_c (fun i => Y i || N i) ≤ m := by
  constructor
  · intro u b hu hb hU hL hB
    cases hzu : Z u with
    | true => right; show (Y b || N b) = true; rw [hz u b hu hb hzu hL hB]; simp
    | false =>
      have : U u = true := by
        rcases q_in_sub hU with q | q
        · exact q
        · subst q; rw [hza] at hzu; cases hzu
      rcases hc u b hu hb this hL hB with q | q
      · left; show (X u && !(Z u)) = true; rw [q, hzu]; rfl
      · right; show (Y b || N b) = true; rw [q]; rfl
  · have h1 := q_c_split X Z
    have h2 : q_c (fun i => Y i || N i) ≤ q_c Y + q_c (fun i => N i && !(Y i)) := by
      have := q_c_or Y (fun i => N i && !(Y i))
      have e : q_c (fun i => Y i || N i) = q_c (fun i => Y i || (N i && !(Y i))) := by
        apply q_c_congr; intro i _; cases Y i <;> cases N i <;> rfl
      omega
    have h3 : q_c (fun i => N i && !(Y i)) ≤ q_c (fun i => X i && Z i) := by
      apply q_c_inj (f := fun b => (pv b).getD 0)
      · intro b hb h
        obtain ⟨h4, h5⟩ := Bool.and_eq_true_iff.1 h
        obtain ⟨u, hu, hpb, hnu, hZu, _⟩ := hp b hb h4
        rw [hpb]
        refine ⟨hu, ?_⟩
        show (X u && Z u) = true
        obtain ⟨hU, hL, _, hB⟩ := hm.1 u b hu hnu
        rcases hc u b hu hb hU hL hB with q | q
        · rw [q, hZu]; rfl
        · rw [q] at h5; cases h5
      · intro b b' hb hb' h h' e
        obtain ⟨u, hu, hpb, hnu, _⟩ := hp b hb (Bool.and_eq_true_iff.1 h).1
        obtain ⟨u', hu', hpb', hnu', _⟩ := hp b' hb' (Bool.and_eq_true_iff.1 h').1
        rw [hpb, hpb'] at e
        have e : u = u' := e
        subst e
        rw [hnu] at hnu'
        exact Option.some.inj hnu'
    omega
/-- when no free upper entry leads to a free lower one -/
theorem q_stop {B : Nat → Nat → Bool} {U L Z N : Nat → Bool} {nx pv : Nat → Option Nat} (hp : ∀ b, b < 16 → N b = true → ∃ u, u < 16 ∧ pv b = some u ∧ nx u = some b ∧ Z u = true) (hz : ∀ u b, u < 16 → b < 16 → Z u = true → L b = true → B u b = true → N b = true) (hf : ∀ u, u < 16 → U u = true → nx u = none → Z u = true) : q_C B U L (fun i => U i && !(Z i)) N ∧ q_c (fun i => U i && !(Z i)) + q_c N ≤ q_sz nx := by
  constructor
  · intro u b hu hb hU hL hB
    cases hzu : Z u with
    | true => right; exact hz u b hu hb hzu hL hB
    | false => left; simp [hU, hzu]
  · have h1 : q_sz nx = _ := q_c_split (fun a => (nx a).isSome) Z
    have h2 : q_c N ≤ q_c (fun i => (nx i).isSome && Z i) := by
      apply q_c_inj (f := fun b => (pv b).getD 0)
      · intro b hb h
        obtain ⟨u, hu, hpb, hnu, hZu⟩ := hp b hb h
        rw [hpb]
        refine ⟨hu, ?_⟩
        show ((nx u).isSome && Z u) = true
        rw [hnu, hZu]; rfl
      · intro b b' hb hb' h h' e
        obtain ⟨u, hu, hpb, hnu, _⟩ := hp b hb h
        obtain ⟨u', hu', hpb', hnu', _⟩ := hp b' hb' h'
        rw [hpb, hpb'] at e
        have e : u = u' := e
        subst e
        rw [hnu] at hnu'
        exact Option.some.inj hnu'
    have h3 : q_c (fun i => U i && !(Z i)) ≤ q_c (fun i => (nx i).isSome && !(Z i)) := by
      apply q_c_le
      intro i hi h
      obtain ⟨h4, h5⟩ := Bool.and_eq_true_iff.1 h
      cases hn : nx i with
      | some b => simp only [Option.isSome]; rw [h5]; rfl
      | none => rw [hf i hi h4 hn] at h5; cases h5
    omega
/-- none above another -/
def q_A (B : Nat → Nat → Bool) (T : Nat → Bool) : Prop := ∀ a b, a < 16 → b < 16 → T a = true → T b = true → B a b = false
/-- the widest tie in S -/
def q_wd (B : Nat → Nat → Bool) (S : Nat → Bool) (k : Nat) : Prop := (∃ T, (∀ i, i < 16 → T i = true → S i = true) ∧ q_A B T ∧ q_c T = k) ∧ ∀ T, (∀ i, i < 16 → T i = true → S i = true) → q_A B T → q_c T ≤ k
theorem q_wd_eq {B : Nat → Nat → Bool} {S : Nat → Bool} {k k' : Nat} (h : q_wd B S k) (h' : q_wd B S k') : k = k' := by
  obtain ⟨⟨T, h1, h2, h3⟩, h4⟩ := h
  obtain ⟨⟨T', h1', h2', h3'⟩, h4'⟩ := h'
  have := h4 T' h1' h2'
  have := h4' T h1 h2
  omega

theorem q_dil {B : Nat → Nat → Bool} {S : Nat → Bool} {m : Nat} (ht : ∀ a b c, a < 16 → b < 16 → c < 16 → B a b = true → B b c = true → B a c = true) (hn : q_nu B S S m) : q_wd B S (q_c S - m) ∧ m ≤ q_c S := by
  obtain ⟨⟨nx, h1, h2⟩, X, Y, h3, h4⟩ := hn
  have hw : ∀ T, (∀ i, i < 16 → T i = true → S i = true) → q_A B T → q_c T + m ≤ q_c S := by
    intro T hT hA
    let D : Nat → Bool := fun b => decide (0 < q_c (fun t => T t && B t b))
    have hD : ∀ b, D b = true ↔ ∃ t, t < 16 ∧ T t = true ∧ B t b = true := by
      intro b
      constructor
      · intro h
        obtain ⟨t, h5, h6⟩ := q_c_pos (of_decide_eq_true h)
        exact ⟨t, h5, Bool.and_eq_true_iff.1 h6⟩
      · intro ⟨t, h5, h6⟩
        exact decide_eq_true (q_c_has h5 (Bool.and_eq_true_iff.2 h6))
    have hc : q_C B S S (fun i => (S i && !(T i)) && !(D i)) (fun i => (S i && !(T i)) && D i) := by
      intro u b hu hb hU hL hB
      have key : ∀ t, t < 16 → T t = true → B t b = true → ((S b && !(T b)) && D b) = true := by
        intro t ht1 ht2 ht3
        have : T b = false := by
          cases hTb : T b with
          | false => rfl
          | true => rw [hA t b ht1 hb ht2 hTb] at ht3; cases ht3
        rw [hL, this, (hD b).2 ⟨t, ht1, ht2, ht3⟩]; rfl
      cases hTu : T u with
      | true => exact .inr (key u hu hTu hB)
      | false =>
        cases hDu : D u with
        | true =>
          obtain ⟨t, ht1, ht2, ht3⟩ := (hD u).1 hDu
          exact .inr (key t ht1 ht2 (ht t u b ht1 hu hb ht3 hB))
        | false => left; simp only [hU, hTu, hDu]; rfl
    have h5 := q_weak h1 hc
    have h6 := q_c_split (fun i => S i && !(T i)) D
    have h7 := q_c_split S T
    have h8 : q_c T = q_c (fun i => S i && T i) := q_c_congr (fun i hi => by
      cases hTi : T i with
      | false => cases S i <;> rfl
      | true => rw [hT i hi hTi]; rfl)
    omega
  have hT0 := hw (fun i => S i && !(X i || Y i)) (fun i _ h => (Bool.and_eq_true_iff.1 h).1) (by
    intro a b ha hb hTa hTb
    cases hB : B a b with
    | false => rfl
    | true =>
      obtain ⟨h5, h6⟩ := Bool.and_eq_true_iff.1 hTa
      obtain ⟨h7, h8⟩ := Bool.and_eq_true_iff.1 hTb
      rcases h3 a b ha hb h5 h7 hB with q | q
      · rw [q] at h6; cases h6
      · rw [q] at h8; simp at h8)
  have h9 : q_c S ≤ q_c (fun i => S i && !(X i || Y i)) + (q_c X + q_c Y) := by
    have h10 := q_c_split S (fun i => X i || Y i)
    have h11 : q_c (fun i => S i && (X i || Y i)) ≤ q_c (fun i => X i || Y i) := q_c_le (fun i _ h => (Bool.and_eq_true_iff.1 h).2)
    have h12 := q_c_or X Y
    omega
  refine ⟨⟨⟨fun i => S i && !(X i || Y i), fun i _ h => (Bool.and_eq_true_iff.1 h).1, ?_, by omega⟩, fun T hT hA => ?_⟩, by omega⟩
  · intro a b ha hb hTa hTb
    cases hB : B a b with
    | false => rfl
    | true =>
      obtain ⟨h5, h6⟩ := Bool.and_eq_true_iff.1 hTa
      obtain ⟨h7, h8⟩ := Bool.and_eq_true_iff.1 hTb
      rcases h3 a b ha hb h5 h7 hB with q | q
      · rw [q] at h6; cases h6
      · rw [q] at h8; simp at h8
  · have := hw T hT hA; omega
