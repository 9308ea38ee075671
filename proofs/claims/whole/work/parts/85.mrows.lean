/-! The reference's rows -/
theorem mfree_eq {f : Nat → Option Nat} {a b : Nat} {I : IS} (ha : a ≤ 16) (hb : b < 16) (hf : ∀ x, x < a → I 16 x = oI (f x)) (hr : ∀ x c, x < a → f x = some c → c < 16) : fm_M_free (nI a) (nI b) I = some (bI (decide (∀ x, x < a → f x ≠ some b))) := by
  have hx : ∀ x, x < a → ((oI (f x) = nI b) ↔ f x = some b) := by
    intro x hx
    cases hfx : f x with
    | none =>
      constructor
      · intro q; exact absurd q.symm (nI_m1 (by omega))
      · intro q; cases q
    | some c =>
      have := hr x c hx hfx
      rw [oI_some, nI_eq (by omega) (by omega)]
      exact ⟨fun q => by rw [q], fun q => by cases q; rfl⟩
  unfold fm_M_free
  rcases q_first (p := fun x => !(decide (f x = some b))) a with h | ⟨v, h1, h2, h3⟩
  · have h' : ∀ x, x < a → f x ≠ some b := fun x hx q => by have := h x hx; rw [decide_eq_true q] at this; cases this
    rw [iter_st (fun k => nI k) a 0 (z := nI a) (z0 := (0 : Int32)) (by omega) rfl]
    · rw [c_ob2, if_pos rfl, decide_eq_true h']; rfl
    · intro k hk
      unfold fm_M_free_B2
      rw [if_neg (nI_ge hk (by omega)), c_in (by omega) (by decide), c_gr, c_cl (by omega), hf k hk, if_neg (fun q => h' k hk ((hx k hk).mp q)), bnd_eq, c_1]
    · unfold fm_M_free_B2
      rw [if_pos (nI_le (Nat.le_refl _) (by omega))]
  · have h2' : f v = some b := by
      cases hd : decide (f v = some b) with
      | true => exact of_decide_eq_true hd
      | false => rw [hd] at h2; cases h2
    have h3' : ∀ x, x < v → f x ≠ some b := fun x hx q => by have := h3 x hx; rw [decide_eq_true q] at this; cases this
    rw [iter_st (fun k => nI k) v 1 (z := nI v) (z0 := (0 : Int32)) (by omega) rfl]
    · rw [c_ob2, if_neg (by decide), decide_eq_false (fun q => q v h1 h2')]; rfl
    · intro k hk
      unfold fm_M_free_B2
      rw [if_neg (nI_ge (by omega) (by omega)), c_in (by omega) (by decide), c_gr, c_cl (by omega), hf k (by omega), if_neg (fun q => h3' k hk ((hx k (by omega)).mp q)), bnd_eq, c_1]
    · unfold fm_M_free_B2
      rw [if_neg (nI_ge h1 (by omega)), c_in (by omega) (by decide), c_gr, c_cl (by omega), hf v h1, if_pos ((hx v h1).mpr h2')]
/-- what holds of those that are told already -/
def q_fk (B : Nat → Nat → Bool) (a : Nat) (f : Nat → Option Nat) : Prop := (∀ x c, x < a → f x = some c → c < 16 ∧ B x c = true) ∧ ∀ x y c, x < a → y < a → f x = some c → f y = some c → x = y
theorem q_fk_s {B : Nat → Nat → Bool} {a : Nat} {f : Nat → Option Nat} (h : q_fk B a f) {b : Nat} (hb : b < 16) (hB : B a b = true) (hf : ∀ x, x < a → f x ≠ some b) : q_fk B (a + 1) (upo f a (some b)) := by
  refine ⟨fun x c hx hc => ?_, fun x y c hx hy hc hc' => ?_⟩
  · by_cases e : x = a
    · subst e; rw [upo_same] at hc; cases hc; exact ⟨hb, hB⟩
    · rw [upo_ne _ _ e] at hc; exact h.1 x c (by omega) hc
  · by_cases e : x = a <;> by_cases e' : y = a
    · omega
    · subst e; rw [upo_same] at hc; cases hc; rw [upo_ne _ _ e'] at hc'; exact absurd hc' (hf y (by omega))
    · subst e'; rw [upo_same] at hc'; cases hc'; rw [upo_ne _ _ e] at hc; exact absurd hc (hf x (by omega))
    · rw [upo_ne _ _ e] at hc; rw [upo_ne _ _ e'] at hc'; exact h.2 x y c (by omega) (by omega) hc hc'
theorem q_fk_n {B : Nat → Nat → Bool} {a : Nat} {f : Nat → Option Nat} (h : q_fk B a f) : q_fk B (a + 1) (upo f a none) := by
  refine ⟨fun x c hx hc => ?_, fun x y c hx hy hc hc' => ?_⟩
  · by_cases e : x = a
    · subst e; rw [upo_same] at hc; cases hc
    · rw [upo_ne _ _ e] at hc; exact h.1 x c (by omega) hc
  · by_cases e : x = a <;> by_cases e' : y = a
    · omega
    · subst e; rw [upo_same] at hc; cases hc
    · subst e'; rw [upo_same] at hc'; cases hc'
    · rw [upo_ne _ _ e] at hc; rw [upo_ne _ _ e'] at hc'; exact h.2 x y c (by omega) (by omega) hc hc'
def Mr (I I0 : IS) : Prop := ∀ k, k ≠ 16 → k ≠ 17 → k ≠ 18 → k ≠ 19 → I k = I0 k
theorem mrowIn_eq {Bm : Nat → Nat} {W p a : Nat} {f : Nat → Option Nat} {I0 I : IS} (h8 : I0 8 0 = nI W) (hW : W < 2 ^ 16) (h9 : ∀ a, a < 16 → I0 9 a = nI (Bm a) ∧ Bm a < 2 ^ 16) (hBW : ∀ a b, q_Bm Bm a b = true → W.testBit a = true ∧ W.testBit b = true) (ha : a < 16) (hp : p < 2147483648) (hk : q_fk (q_Bm Bm) a f) (hI : Mr I I0) (h16 : ∀ x, x < a → I 16 x = oI (f x)) :
    ∃ v I' y, iter (fun z : Int32 × Int32 × Int32 × IS => fm_M_rows_B40 (nI p) (nI a) z.1 z.2.1 z.2.2.1 z.2.2.2) FU ((-1 : Int32), (0 : Int32), (0 : Int32), I) = some (1, oI v, bI v.isSome, y, I') ∧ Mr I' I0 ∧ (∀ x, x < a → I' 16 x = oI (f x)) ∧ ((∃ b, b < 16 ∧ v = some b ∧ q_gd (q_Bm Bm) W f p a b ∧ (∀ b', b' < b → ¬ q_gd (q_Bm Bm) W f p a b')) ∨ (v = none ∧ ∀ b, b < 16 → ¬ q_gd (q_Bm Bm) W f p a b)) := by
  obtain ⟨t, ⟨x1, x2, x3, I'⟩, e1, rfl, v, e2, e3, e4⟩ := iter_inv (step := fun z : Int32 × Int32 × Int32 × IS => fm_M_rows_B40 (nI p) (nI a) z.1 z.2.1 z.2.2.1 z.2.2.2) (z0 := ((-1 : Int32), (0 : Int32), (0 : Int32), I))
    (fun b z => Mr z.2.2.2 I0 ∧ (∀ x, x < a → z.2.2.2 16 x = oI (f x)) ∧ ((z = (-1, 0, nI b, z.2.2.2) ∧ ∀ b', b' < b → ¬ q_gd (q_Bm Bm) W f p a b') ∨ (∃ b0, b0 + 1 = b ∧ b0 < 16 ∧ z = (nI b0, 1, nI b, z.2.2.2) ∧ q_gd (q_Bm Bm) W f p a b0 ∧ ∀ b', b' < b0 → ¬ q_gd (q_Bm Bm) W f p a b')))
    (fun t z => t = 0 ∧ ∃ v : Option Nat, z = (oI v, bI v.isSome, z.2.2.1, z.2.2.2) ∧ (Mr z.2.2.2 I0 ∧ (∀ x, x < a → z.2.2.2 16 x = oI (f x))) ∧ ((∃ b, b < 16 ∧ v = some b ∧ q_gd (q_Bm Bm) W f p a b ∧ (∀ b', b' < b → ¬ q_gd (q_Bm Bm) W f p a b')) ∨ (v = none ∧ ∀ b, b < 16 → ¬ q_gd (q_Bm Bm) W f p a b))) 16 (by decide) (by
      intro b ⟨x1, x2, x3, I1⟩ hb ⟨h1, h2, h3⟩
      replace h1 : Mr I1 I0 := h1
      replace h2 : ∀ x, x < a → I1 16 x = oI (f x) := h2
      rcases h3 with ⟨e, h3⟩ | ⟨b0, g0, g1, e, g2, g3⟩
      · have e1 : x1 = -1 := congrArg (fun z => z.1) e
        have e2 : x2 = 0 := congrArg (fun z => z.2.1) e
        have e3 : x3 = nI b := congrArg (fun z => z.2.2.1) e
        subst e1 e2 e3
        by_cases hb16 : b = 16
        · subst hb16
          right
          refine ⟨0, (-1, 0, nI 16, I1), ?_, rfl, none, rfl, ⟨h1, h2⟩, .inr ⟨rfl, h3⟩⟩
          show fm_M_rows_B40 (nI p) (nI a) (-1) 0 (nI 16) I1 = _
          unfold fm_M_rows_B40
          rw [if_pos (by decide)]
        have hb1 : b < 16 := by omega
        have ext : ¬ q_gd (q_Bm Bm) W f p a b → ∀ b', b' < b + 1 → ¬ q_gd (q_Bm Bm) W f p a b' := fun hg b' hb' => by
          by_cases e : b' = b
          · subst e; exact hg
          · exact h3 b' (by omega)
        left
        refine ⟨hb1, ?_⟩
        show ∃ z', fm_M_rows_B40 (nI p) (nI a) (-1) 0 (nI b) I1 = some (0, z') ∧ _
        unfold fm_M_rows_B40
        have h9a := (h9 a ha).2
        rw [if_neg (n16 hb1), if_pos rfl, c_in ha (by decide), c_gr, c_cl (by omega), h1 9 (by decide) (by decide) (by decide) (by decide), (h9 a ha).1]
        by_cases hB : (Bm a).testBit b = true
        · rw [if_pos ((m_bit1 (by omega) (by omega)).mpr hB), mfree_eq (by omega) hb1 h2 (fun x c hx hc => (hk.1 x c hx hc).1), c_ob1]
          by_cases hf : ∀ x, x < a → f x ≠ some b
          · have hk' := q_fk_s hk hb1 hB hf
            have hI2 : Mr (sI I1 16 a (nI b)) I0 := fun k k1 k2 k3 k4 => by rw [sI_ne k1]; exact h1 k k1 k2 k3 k4
            have h162 : ∀ x, x < a + 1 → sI I1 16 a (nI b) 16 x = oI (upo f a (some b) x) := fun x hx => by
              by_cases e : x = a
              · subst e; rw [sI_same, upo_same]; rfl
              · rw [sI_idx e, upo_ne _ _ e]; exact h2 x (by omega)
            obtain ⟨m, I2, m1, m2, m3, m4, m5⟩ := mmost_eq (I := sI I1 16 a (nI b)) (n := a + 1) (by rw [hI2 8 (by decide) (by decide) (by decide) (by decide)]; exact h8) hW (fun a ha => by rw [hI2 9 (by decide) (by decide) (by decide) (by decide)]; exact h9 a ha) hBW (by omega) h162 hk'.1 hk'.2
            rw [fx_s] at m1
            have hI3 : Mr I2 I0 := fun k k1 k2 k3 k4 => by rw [m5 k k1 k2 k3 k4]; exact hI2 k k1 k2 k3 k4
            have h163 : ∀ x, x < a → I2 16 x = oI (f x) := fun x hx => by rw [m4 x (by omega), upo_ne _ _ (by omega)]
            rw [decide_eq_true hf, bI_neg, c_gr, bnd_eq, m1, c_ob2]
            by_cases hm : m + 1 = p
            · rw [if_pos (show nI m = nI p - 1 from (fx_eq (by omega) (by omega)).mpr hm), bnd_eq, c_1]
              exact ⟨_, rfl, hI3, h163, .inr ⟨b, rfl, hb1, rfl, ⟨hB, hf, m, m3, hm⟩, h3⟩⟩
            · rw [if_neg (show ¬ nI m = nI p - 1 from fun q => hm ((fx_eq (by omega) (by omega)).mp q)), bnd_eq, c_1]
              refine ⟨_, rfl, hI3, h163, .inl ⟨rfl, ext ?_⟩⟩
              intro ⟨_, _, m', q1, q2⟩
              have := q_nu_eq m3 q1
              omega
          · rw [decide_eq_false hf, bI_pos, bnd_eq, c_1]
            exact ⟨_, rfl, h1, h2, .inl ⟨rfl, ext (fun q => hf q.2.1)⟩⟩
        · rw [if_neg (fun q => hB ((m_bit1 (by omega) (by omega)).mp q)), bnd_eq, c_1]
          exact ⟨_, rfl, h1, h2, .inl ⟨rfl, ext (fun q => hB q.1)⟩⟩
      · have e1 : x1 = nI b0 := congrArg (fun z => z.1) e
        have e2 : x2 = 1 := congrArg (fun z => z.2.1) e
        have e3 : x3 = nI b := congrArg (fun z => z.2.2.1) e
        subst e1 e2 e3
        right
        refine ⟨0, (nI b0, 1, nI b, I1), ?_, rfl, some b0, rfl, ⟨h1, h2⟩, .inl ⟨b0, g1, rfl, g2, g3⟩⟩
        show fm_M_rows_B40 (nI p) (nI a) (nI b0) 1 (nI b) I1 = _
        unfold fm_M_rows_B40
        rw [if_neg (show ¬ (1 : Int32) = 0 from by decide)]
        split <;> rfl) ⟨hI, h16, .inl ⟨rfl, fun b' hb' => absurd hb' (Nat.not_lt_zero _)⟩⟩
  have q1 : x1 = oI v := congrArg (fun z => z.1) e2
  have q2 : x2 = bI v.isSome := congrArg (fun z => z.2.1) e2
  subst q1 q2
  exact ⟨v, I', x3, e1, e3.1, e3.2, e4⟩
theorem mrows_eq {Bm : Nat → Nat} {W : Nat} {I : IS} (h8 : I 8 0 = nI W) (hW : W < 2 ^ 16) (h9 : ∀ a, a < 16 → I 9 a = nI (Bm a) ∧ Bm a < 2 ^ 16) (hBW : ∀ a b, q_Bm Bm a b = true → W.testBit a = true ∧ W.testBit b = true) :
    ∃ m I1, fm_M_most (-1 : Int32) I = some (nI m, I1) ∧ m ≤ 16 ∧ q_nu (q_Bm Bm) (q_Lm W) (q_Lm W) m ∧ Mr I1 I ∧ ∃ I' f p x, iter (fun z : Int32 × Int32 × IS => fm_M_rows_B24 z.1 z.2.1 z.2.2) FU (nI m, (0 : Int32), I1) = some (1, x, nI 16, I') ∧ q_FO (q_Bm Bm) W m 16 f p ∧ (∀ a, a < 16 → I' 16 a = oI (f a)) ∧ Mr I' I := by
  obtain ⟨m, I1, m1, m2, m3, m4, m5⟩ := mmost_eq (I := I) (n := 0) (f := fun _ => none) h8 hW h9 hBW (by decide) (fun a ha => absurd ha (Nat.not_lt_zero _)) (fun a b ha => absurd ha (Nat.not_lt_zero _)) (fun a a' b ha => absurd ha (Nat.not_lt_zero _))
  rw [fx_0] at m1
  have hnu : q_nu (q_Bm Bm) (q_Lm W) (q_Lm W) m := by
    refine q_nu_W (L := q_fL (fun _ => none) 0) ?_ (q_nu_congr (fun _ _ _ _ => rfl) (fun u _ => ?_) (fun _ _ => rfl) m3)
    · intro a b _ _ hB
      unfold q_fL q_Lm
      rw [(hBW a b hB).2, decide_eq_true (fun x hx => absurd hx (Nat.not_lt_zero _))]
    · unfold q_fU q_Lm
      rw [decide_eq_true (Nat.zero_le _), Bool.and_true]
  refine ⟨m, I1, m1, m2, hnu, m5, ?_⟩
  obtain ⟨⟨x, y, I'⟩, e1, f, p, e2, ⟨e3, _⟩, e4, e5, e6⟩ := iter_for (step := fun z : Int32 × Int32 × IS => fm_M_rows_B24 z.1 z.2.1 z.2.2) (z0 := (nI m, (0 : Int32), I1))
    (fun a z => ∃ f p, z = (nI (p a), nI a, z.2.2) ∧ (q_FO (q_Bm Bm) W m a f p ∧ p a ≤ 16) ∧ q_fk (q_Bm Bm) a f ∧ (∀ x, x < a → z.2.2 16 x = oI (f x)) ∧ Mr z.2.2 I) 16 (by decide) (by
      intro a ⟨x, y, I2⟩ ha ⟨f, p, e, ⟨h1, hp⟩, h2, h3, h4⟩
      have ex : x = nI (p a) := congrArg (fun z => z.1) e
      have ey : y = nI a := congrArg (fun z => z.2.1) e
      subst ex ey
      replace h3 : ∀ x, x < a → I2 16 x = oI (f x) := h3
      replace h4 : Mr I2 I := h4
      obtain ⟨v, I3, y, r1, r2, r3, r4⟩ := mrowIn_eq h8 hW h9 hBW ha (by omega : p a < 2147483648) h2 h4 h3
      have h164 : ∀ x, x < a + 1 → sI I3 16 a (oI v) 16 x = oI (upo f a v x) := fun x hx => by
        by_cases e : x = a
        · subst e; rw [sI_same, upo_same]
        · rw [sI_idx e, upo_ne _ _ e]; exact r3 x (by omega)
      have hI4 : Mr (sI I3 16 a (oI v)) I := fun k k1 k2 k3 k4 => by rw [sI_ne k1]; exact r2 k k1 k2 k3 k4
      show ∃ z', fm_M_rows_B24 (nI (p a)) (nI a) I2 = some (0, z') ∧ _
      unfold fm_M_rows_B24
      rw [if_neg (n16 ha), r1, c_ob5]
      unfold fm_M_rows_j113
      rw [c_in ha (by decide), c_gr, c_cl (by omega), bnd_eq, c_1]
      rcases r4 with ⟨b, b1, rfl, b3, b4⟩ | ⟨rfl, b2⟩
      · have hp1 : 1 ≤ p a := by obtain ⟨_, _, m', _, q⟩ := b3; omega
        rw [show (some b).isSome = true from rfl, bI_neg, bnd_eq, bnd_eq, show p a = (p a - 1) + 1 by omega, pk_m1]
        refine ⟨_, rfl, upo f a (some b), (fun j => if j = a + 1 then p a - 1 else p j), ?_, ⟨q_FO_s h1 (some b) (p a - 1) (.inl ⟨b, b1, rfl, b3, b4, by omega⟩), ?_⟩, q_fk_s h2 b1 b3.1 b3.2.1, h164, hI4⟩
        · show _ = (nI (if a + 1 = a + 1 then p a - 1 else p (a + 1)), _, _)
          rw [if_pos rfl]
        · show (if a + 1 = a + 1 then p a - 1 else p (a + 1)) ≤ 16
          rw [if_pos rfl]; omega
      · rw [show (none : Option Nat).isSome = false from rfl, bI_pos, bnd_eq]
        refine ⟨_, rfl, upo f a none, (fun j => if j = a + 1 then p a else p j), ?_, ⟨q_FO_s h1 none (p a) (.inr ⟨rfl, b2, rfl⟩), ?_⟩, q_fk_n h2, h164, hI4⟩
        · show _ = (nI (if a + 1 = a + 1 then p a else p (a + 1)), _, _)
          rw [if_pos rfl]
        · show (if a + 1 = a + 1 then p a else p (a + 1)) ≤ 16
          rw [if_pos rfl]; exact hp) (by
      intro ⟨x, y, I2⟩ ⟨f, p, e, _⟩
      have ey : y = nI 16 := congrArg (fun z => z.2.1) e
      subst ey
      show fm_M_rows_B24 x (nI 16) I2 = _
      unfold fm_M_rows_B24
      rw [if_pos (by decide)]) ⟨fun _ => none, fun _ => m, rfl, ⟨⟨rfl, fun a ha => absurd ha (Nat.not_lt_zero _)⟩, m2⟩, ⟨fun x c hx => absurd hx (Nat.not_lt_zero _), fun x y c hx => absurd hx (Nat.not_lt_zero _)⟩, fun x hx => absurd hx (Nat.not_lt_zero _), m5⟩
  have ey : y = nI 16 := congrArg (fun z => z.2.1) e2
  subst ey
  exact ⟨I', f, p, x, e1, e3, e5, e6⟩
