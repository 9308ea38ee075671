/-! Which entries may come next: the class's bars -/
def BarAt (I : IS) (B : Nat → Nat) (hf : Nat) : Prop := ∃ lo hi, I 21 hf = nI lo ∧ I 22 hf = nI hi ∧ lo < 2 ^ 16 ∧ hi < 2 ^ 16 ∧ (∀ b, lo.testBit b = true ↔ ∃ i, i < 8 ∧ hf.testBit i = true ∧ (B i).testBit b = true) ∧ (∀ b, hi.testBit b = true ↔ ∃ i, i < 8 ∧ hf.testBit i = true ∧ (B (i + 8)).testBit b = true)
def Bars (I : IS) (B : Nat → Nat) : Prop := ∀ hf, hf < 256 → BarAt I B hf
theorem BarAt_0 {I : IS} {B : Nat → Nat} (h1 : I 21 0 = 0) (h2 : I 22 0 = 0) : BarAt I B 0 := by
  refine ⟨0, 0, h1, h2, by decide, by decide, fun b => ?_, fun b => ?_⟩
  · constructor
    · intro h; rw [Nat.zero_testBit] at h; cases h
    · intro ⟨i, _, h, _⟩; rw [Nat.zero_testBit] at h; cases h
  · constructor
    · intro h; rw [Nat.zero_testBit] at h; cases h
    · intro ⟨i, _, h, _⟩; rw [Nat.zero_testBit] at h; cases h
theorem bar_bits {B : Nat → Nat} {lo k a : Nat} (ha : a < 8) (hka : k.testBit a = true) (h : ∀ b, lo.testBit b = true ↔ ∃ i, i < 8 ∧ (k ^^^ 2 ^ a).testBit i = true ∧ (B i).testBit b = true) (b : Nat) : (lo ||| B a).testBit b = true ↔ ∃ i, i < 8 ∧ k.testBit i = true ∧ (B i).testBit b = true := by
  rw [Nat.testBit_or, Bool.or_eq_true_iff, h]
  constructor
  · intro q
    rcases q with ⟨i, h1, h2, h3⟩ | q
    · refine ⟨i, h1, ?_, h3⟩
      rw [q_xor_bit] at h2
      by_cases e : i = a
      · subst e; exact hka
      · rw [q_beq_ne e] at h2; simpa using h2
    · exact ⟨a, ha, hka, q⟩
  · intro ⟨i, h1, h2, h3⟩
    by_cases e : i = a
    · subst e; exact .inr h3
    · left
      refine ⟨i, h1, ?_, h3⟩
      rw [q_xor_bit, q_beq_ne e, h2]; rfl
theorem setBars_eq {I : IS} {B : Nat → Nat} (hB : ∀ j, j < 16 → B j < 2 ^ 16) (h3 : ∀ j, j < 16 → I 3 j = nI (B j)) (h1 : I 21 0 = 0) (h2 : I 22 0 = 0) : ∃ I', fm_L_setBars I = some I' ∧ Bars I' B ∧ I' 21 0 = 0 ∧ I' 22 0 = 0 ∧ (∀ k, k ≠ 21 → k ≠ 22 → I' k = I k) := by
  unfold fm_L_setBars
  obtain ⟨I', a1, a2, a3, a4, a5⟩ := for2s fm_L_setBars_B2 (fun k z => (∀ hf, hf < k → BarAt z B hf) ∧ z 21 0 = 0 ∧ z 22 0 = 0 ∧ (∀ k, k ≠ 21 → k ≠ 22 → z k = I k)) 1 256 (by decide) (by decide) (I0 := I) ⟨fun hf hhf => by
      have : hf = 0 := by omega
      subst this
      exact BarAt_0 h1 h2, h1, h2, fun _ _ _ => rfl⟩ (by
    intro k I1 hk1 hk ⟨b1, b2, b3, b4⟩
    obtain ⟨a, ha, hz, hka, hkx⟩ := ntz_eq k hk (by omega)
    have hlt := q_xor_lt_self hka
    obtain ⟨lo, hi, c1, c2, c3, c4, c5, c6⟩ := b1 (k ^^^ 2 ^ a) (by omega)
    have e3 : ∀ j, j < 16 → I1 3 j = nI (B j) := fun j hj => by rw [b4 3 (by decide) (by decide)]; exact h3 j hj
    refine ⟨sI (sI I1 21 k (nI (lo ||| B a))) 22 k (nI (hi ||| B (a + 8))), ?_, ?_, ?_, ?_, ?_⟩
    · unfold fm_L_setBars_B2
      have e1 : nI k &&& (nI k - 1) = nI (k ^^^ 2 ^ a) := by
        rw [show nI k - 1 = nI (k - 1) from pk_sub (b := 1) (by omega), m_and, hkx]
      rw [if_neg (show ¬ (256 : Int32) ≤ nI k from nI_ge hk (by decide)), hz, c_ob1, e1, bnd_eq, c_in (show k ^^^ 2 ^ a < 256 by omega) (by decide), c_gr, c_in (show a < 16 by omega) (by decide), c_gr, c_in hk (by decide), c_gr, c_cl (show k < 2147483648 by omega), c_cl (show k ^^^ 2 ^ a < 2147483648 by omega), c_cl (show a < 2147483648 by omega), c1, e3 a (by omega), m_or, bnd_eq, c_gr, show nI a + (8 : Int32) = nI (a + 8) from nI_add a 8, c_in (show a + 8 < 16 by omega) (by decide), c_gr, c_gr, c_cl (show a + 8 < 2147483648 by omega), sI_ne (k' := 22) (by decide), sI_ne (k' := 3) (by decide), c2, e3 (a + 8) (by omega), m_or, bnd_eq, bnd_eq, c_1]
    · intro hf hhf
      by_cases e : hf = k
      · subst e
        refine ⟨lo ||| B a, hi ||| B (a + 8), ?_, ?_, Nat.or_lt_two_pow c3 (hB a (by omega)), Nat.or_lt_two_pow c4 (hB (a + 8) (by omega)), fun b => bar_bits ha hka c5 b, fun b => bar_bits (B := fun i => B (i + 8)) ha hka c6 b⟩
        · rw [sI_ne (by decide)]; exact sI_same
        · exact sI_same
      · obtain ⟨lo', hi', d1, d2, d3⟩ := b1 hf (by omega)
        refine ⟨lo', hi', ?_, ?_, d3⟩
        · rw [sI_ne (by decide), sI_idx e]; exact d1
        · rw [sI_idx e, sI_ne (by decide)]; exact d2
    · rw [sI_ne (by decide), sI_idx (by omega)]; exact b2
    · rw [sI_idx (by omega), sI_ne (by decide)]; exact b3
    · intro k' q1 q2
      rw [sI_ne q2, sI_ne q1]; exact b4 k' q1 q2) (fun _ _ => rfl)
  rw [show ((1 : Int32), I) = (nI 1, I) from rfl, a1, c_ob3]
  exact ⟨I', rfl, a2, a3, a4, a5⟩
theorem readyOf_eq {I : IS} {B : Nat → Nat} (hb : Bars I B) {r : Nat} (hr : r < 2 ^ 16) : ∃ rd, fm_L_readyOf (nI r) I = some (nI rd) ∧ rd < 2 ^ 16 ∧ ∀ a, rd.testBit a = true ↔ r.testBit a = true ∧ ∀ x, x < 16 → r.testBit x = true → (B x).testBit a = false := by
  have e1 : nI r &&& (255 : Int32) = nI (r % 256) := pk_andN (n := r) (by omega) 8 (by decide)
  have e2 : nI r >>> ((8 : Int32) &&& 31) = nI (r / 256) := pk_shrN (by omega) _ 8 (by decide)
  obtain ⟨lo, _, c1, _, c3, _, c5, _⟩ := hb (r % 256) (by omega)
  obtain ⟨_, hi, _, d2, _, d4, _, d6⟩ := hb (r / 256) (by omega)
  refine ⟨dif r (lo ||| hi), ?_, Nat.lt_of_le_of_lt (dif_le _ _) hr, fun a => ?_⟩
  · unfold fm_L_readyOf
    rw [e1, e2, c_in (show r % 256 < 256 by omega) (by decide), c_gr, c_in (show r / 256 < 256 by omega) (by decide), c_gr, c_cl (show r % 256 < 2147483648 by omega), c_cl (show r / 256 < 2147483648 by omega), c1, d2, m_or, m_dif]
  · rw [dif_bit (by omega), Bool.and_eq_true_iff, Nat.testBit_or]
    have k1 : ∀ i, (r % 256).testBit i = (decide (i < 8) && r.testBit i) := fun i => by
      rw [show 256 = 2 ^ 8 from rfl, Nat.testBit_mod_two_pow]
    have k2 : ∀ i, (r / 256).testBit i = r.testBit (i + 8) := fun i => by
      rw [show 256 = 2 ^ 8 from rfl, Nat.testBit_div_two_pow]
    constructor
    · intro ⟨h1, h2⟩
      refine ⟨h1, fun x hx hrx => ?_⟩
      cases hB : (B x).testBit a with
      | false => rfl
      | true =>
        by_cases q : x < 8
        · rw [(c5 a).2 ⟨x, q, by rw [k1, decide_eq_true q, hrx]; rfl, hB⟩] at h2; cases h2
        · rw [(d6 a).2 ⟨x - 8, by omega, by rw [k2, show x - 8 + 8 = x by omega]; exact hrx, by rw [show x - 8 + 8 = x by omega]; exact hB⟩] at h2
          cases hlo : lo.testBit a <;> rw [hlo] at h2 <;> cases h2
    · intro ⟨h1, h2⟩
      refine ⟨h1, ?_⟩
      cases hlo : lo.testBit a with
      | true =>
        obtain ⟨i, g1, g2, g3⟩ := (c5 a).1 hlo
        rw [k1, decide_eq_true g1, Bool.true_and] at g2
        rw [h2 i (by omega) g2] at g3; cases g3
      | false =>
        cases hhi : hi.testBit a with
        | true =>
          obtain ⟨i, g1, g2, g3⟩ := (d6 a).1 hhi
          rw [k2] at g2
          rw [h2 (i + 8) (by omega) g2] at g3; cases g3
        | false => rfl
/-- the ready ones behind s are those that may come -/
theorem ready_mc {I : IS} {W : Nat} {B A : Nat → Nat} (hb : Bars I B) (h5 : I 5 0 = nI W) (hW : W < 2 ^ 16) (hBW : ∀ x a, (B x).testBit a = true → W.testBit x = true) (hA : ∀ a x, (A a).testBit x = (B x).testBit a) (s : Nat) : ∃ rd, fm_L_readyOf (I 5 0 &&& (nI s ^^^ (-1 : Int32))) I = some (nI rd) ∧ rd < 2 ^ 16 ∧ ∀ a, rd.testBit a = q_mc W A s a := by
  rw [h5, m_dif]
  obtain ⟨rd, h1, h2, h3⟩ := readyOf_eq hb (r := dif W s) (Nat.lt_of_le_of_lt (dif_le _ _) hW)
  refine ⟨rd, h1, h2, fun a => ?_⟩
  have key : rd.testBit a = true ↔ q_mc W A s a = true := by
    rw [h3, dif_bit (by omega)]
    unfold q_mc
    rw [Bool.and_eq_true_iff (x := W.testBit a && !(s.testBit a))]
    constructor
    · intro ⟨g1, g2⟩
      refine ⟨g1, ?_⟩
      have : A a &&& s = A a := by
        apply Nat.eq_of_testBit_eq
        intro x
        rw [Nat.testBit_and]
        cases hx : (A a).testBit x with
        | false => rfl
        | true =>
          cases hs : s.testBit x with
          | true => rfl
          | false =>
            rw [hA] at hx
            have hwx := hBW x a hx
            have hx16 : x < 16 := by
              apply Nat.lt_of_not_le
              intro h6
              rw [q_hi hW h6] at hwx; cases hwx
            have := g2 x hx16 (by rw [dif_bit (by omega), hwx, hs]; rfl)
            rw [hx] at this; cases this
      rw [this]; exact q_beq_self _
    · intro ⟨g1, g2⟩
      refine ⟨g1, fun x hx hdx => ?_⟩
      have g2 := q_beq_eq g2
      cases hx2 : (B x).testBit a with
      | false => rfl
      | true =>
        have h4 : (A a &&& s).testBit x = true := by rw [g2, hA]; exact hx2
        rw [Nat.testBit_and] at h4
        rw [dif_bit (by omega), (Bool.and_eq_true_iff.1 h4).2] at hdx
        simp at hdx
  cases h4 : rd.testBit a with
  | true => exact (key.1 h4).symm
  | false =>
    cases h5 : q_mc W A s a with
    | false => rfl
    | true => rw [key.2 h5] at h4; cases h4
