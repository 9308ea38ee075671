/-! Who follows whom in the fewest rows -/
def q_gd (B : Nat → Nat → Bool) (W : Nat) (f : Nat → Option Nat) (p a b : Nat) : Prop := B a b = true ∧ (∀ x, x < a → f x ≠ some b) ∧ ∃ m, q_nu B (q_fU W (a + 1)) (q_fL (upo f a (some b)) (a + 1)) m ∧ m + 1 = p
def q_fo (B : Nat → Nat → Bool) (W : Nat) (f : Nat → Option Nat) (p : Nat → Nat) (a : Nat) : Prop := (∃ b, b < 16 ∧ f a = some b ∧ q_gd B W f (p a) a b ∧ (∀ b', b' < b → ¬ q_gd B W f (p a) a b') ∧ p (a + 1) + 1 = p a) ∨ (f a = none ∧ (∀ b, b < 16 → ¬ q_gd B W f (p a) a b) ∧ p (a + 1) = p a)
def q_FO (B : Nat → Nat → Bool) (W m n : Nat) (f : Nat → Option Nat) (p : Nat → Nat) : Prop := p 0 = m ∧ ∀ a, a < n → q_fo B W f p a
theorem q_fL_congr {f f' : Nat → Option Nat} {n : Nat} (h : ∀ x, x < n → f x = f' x) (b : Nat) : q_fL f n b = q_fL f' n b := by
  unfold q_fL
  apply decide_eq_decide.mpr
  constructor
  · intro q x hx; rw [← h x hx]; exact q x hx
  · intro q x hx; rw [h x hx]; exact q x hx
theorem q_gd_congr {B : Nat → Nat → Bool} {W : Nat} {f f' : Nat → Option Nat} {p a b : Nat} (h : ∀ x, x < a → f x = f' x) (hg : q_gd B W f p a b) : q_gd B W f' p a b := by
  obtain ⟨h1, h2, m, h3, h4⟩ := hg
  refine ⟨h1, fun x hx => by rw [← h x hx]; exact h2 x hx, m, ?_, h4⟩
  refine q_nu_congr (fun _ _ _ _ => rfl) (fun _ _ => rfl) (fun c _ => q_fL_congr (fun x hx => ?_) c) h3
  by_cases e : x = a
  · subst e; rw [upo_same, upo_same]
  · rw [upo_ne _ _ e, upo_ne _ _ e]; exact h x (by omega)
theorem q_fo_congr {B : Nat → Nat → Bool} {W : Nat} {f f' : Nat → Option Nat} {p p' : Nat → Nat} {a : Nat} (h : ∀ x, x ≤ a → f x = f' x) (hp : p a = p' a) (hp1 : p (a + 1) = p' (a + 1)) (hf : q_fo B W f p a) : q_fo B W f' p' a := by
  have h' : ∀ x, x < a → f x = f' x := fun x hx => h x (by omega)
  have h'' : ∀ x, x < a → f' x = f x := fun x hx => (h x (by omega)).symm
  rcases hf with ⟨b, b1, b2, b3, b4, b5⟩ | ⟨b1, b2, b3⟩
  · exact .inl ⟨b, b1, by rw [← h a (Nat.le_refl _)]; exact b2, by rw [← hp]; exact q_gd_congr h' b3, fun b' hb' q => b4 b' hb' (by rw [hp]; exact q_gd_congr h'' q), by rw [← hp, ← hp1]; exact b5⟩
  · exact .inr ⟨by rw [← h a (Nat.le_refl _)]; exact b1, fun b hb q => b2 b hb (by rw [hp]; exact q_gd_congr h'' q), by rw [← hp, ← hp1]; exact b3⟩
theorem q_FO_eq {B : Nat → Nat → Bool} {W m : Nat} {f f' : Nat → Option Nat} {p p' : Nat → Nat} (h : q_FO B W m 16 f p) (h' : q_FO B W m 16 f' p') : ∀ n, n ≤ 16 → (∀ x, x < n → f x = f' x) ∧ p n = p' n := by
  intro n
  induction n with
  | zero => intro _; exact ⟨fun x hx => absurd hx (Nat.not_lt_zero _), by rw [h.1, h'.1]⟩
  | succ n ih =>
    intro hn
    obtain ⟨i1, i2⟩ := ih (by omega)
    have i1' : ∀ x, x < n → f' x = f x := fun x hx => (i1 x hx).symm
    have key : f n = f' n ∧ p (n + 1) = p' (n + 1) := by
      rcases h.2 n (by omega) with ⟨b, b1, b2, b3, b4, b5⟩ | ⟨b1, b2, b3⟩
      · rcases h'.2 n (by omega) with ⟨c, c1, c2, c3, c4, c5⟩ | ⟨c1, c2, c3⟩
        · have : b = c := by
            rcases Nat.lt_trichotomy b c with q | q | q
            · exact absurd (by rw [← i2]; exact q_gd_congr i1 b3) (c4 b q)
            · exact q
            · exact absurd (by rw [i2]; exact q_gd_congr i1' c3) (b4 c q)
          subst this
          exact ⟨by rw [b2, c2], by omega⟩
        · exact absurd (by rw [← i2]; exact q_gd_congr i1 b3) (c2 b b1)
      · rcases h'.2 n (by omega) with ⟨c, c1, c2, c3, c4, c5⟩ | ⟨c1, c2, c3⟩
        · exact absurd (by rw [i2]; exact q_gd_congr i1' c3) (b2 c c1)
        · exact ⟨by rw [b1, c1], by omega⟩
    refine ⟨fun x hx => ?_, key.2⟩
    by_cases e : x = n
    · subst e; exact key.1
    · exact i1 x (by omega)
theorem q_nu_W {B : Nat → Nat → Bool} {U L L' : Nat → Bool} {m : Nat} (hL : ∀ a b, a < 16 → b < 16 → B a b = true → L b = L' b) (h : q_nu B U L m) : q_nu B U L' m := by
  obtain ⟨⟨nx, h1, h2⟩, X, Y, h3, h4⟩ := h
  refine ⟨⟨nx, ⟨fun a b ha hn => ?_, h1.2⟩, h2⟩, X, Y, fun a b ha hb hU hL' hB => ?_, h4⟩
  · obtain ⟨q1, q2, q3, q4⟩ := h1.1 a b ha hn
    exact ⟨q1, by rw [← hL a b ha q3 q4]; exact q2, q3, q4⟩
  · exact h3 a b ha hb hU (by rw [hL a b ha hb hB]; exact hL') hB
/-- one more entry is told its follower -/
theorem q_FO_s {B : Nat → Nat → Bool} {W m n : Nat} {f : Nat → Option Nat} {p : Nat → Nat} (h : q_FO B W m n f p) (v : Option Nat) (r : Nat) (hv : (∃ b, b < 16 ∧ v = some b ∧ q_gd B W f (p n) n b ∧ (∀ b', b' < b → ¬ q_gd B W f (p n) n b') ∧ r + 1 = p n) ∨ (v = none ∧ (∀ b, b < 16 → ¬ q_gd B W f (p n) n b) ∧ r = p n)) : q_FO B W m (n + 1) (upo f n v) (fun j => if j = n + 1 then r else p j) := by
  have hlt : ∀ x, x < n → f x = upo f n v x := fun x hx => (upo_ne f v (by omega)).symm
  refine ⟨?_, fun a ha => ?_⟩
  · show (if 0 = n + 1 then r else p 0) = m
    rw [if_neg (by omega)]; exact h.1
  · by_cases e : a = n
    · subst e
      have e1 : (fun j => if j = a + 1 then r else p j) a = p a := if_neg (by omega)
      have e2 : (fun j => if j = a + 1 then r else p j) (a + 1) = r := if_pos rfl
      have hlt' : ∀ x, x < a → upo f a v x = f x := fun x hx => (hlt x hx).symm
      rcases hv with ⟨b, b1, b2, b3, b4, b5⟩ | ⟨b1, b2, b3⟩
      · refine .inl ⟨b, b1, by rw [upo_same]; exact b2, by rw [e1]; exact q_gd_congr hlt b3, fun b' hb' q => b4 b' hb' (by rw [e1] at q; exact q_gd_congr hlt' q), by rw [e1, e2]; exact b5⟩
      · refine .inr ⟨by rw [upo_same]; exact b1, fun b hb q => b2 b hb (by rw [e1] at q; exact q_gd_congr hlt' q), by rw [e1, e2]; exact b3⟩
    · refine q_fo_congr (fun x hx => (upo_ne f v (by omega)).symm) ?_ ?_ (h.2 a (by omega))
      · exact (if_neg (by omega)).symm
      · exact (if_neg (by omega)).symm
theorem fx_eq {m p : Nat} (hm : m < 2147483647) (hp : p < 2147483648) : (nI m = fx p) ↔ m + 1 = p := by
  constructor
  · intro q
    have q1 : nI m + 1 = fx p + 1 := by rw [q]
    rw [fx_1, nI_1] at q1
    exact (nI_eq (by omega) (by omega)).mp q1
  · intro q; rw [← q, fx_s]
/-- the class's leastFollower -/
def Fb (Bm : Nat → Nat) (W : Nat) (f : Nat → Option Nat) (a U Lo : Nat) : Prop := U < 2 ^ 16 ∧ Lo < 2 ^ 16 ∧ (∀ u, u < 16 → U.testBit u = q_fU W a u) ∧ ∀ c, c < 16 → Lo.testBit c = (W.testBit c && q_fL f a c)
theorem leastF_eq {Bm : Nat → Nat} {W : Nat} {f : Nat → Option Nat} {p a U Lo : Nat} {I : IS} (h3 : ∀ a, a < 16 → I 3 a = nI (Bm a) ∧ Bm a < 2 ^ 16) (hBW : ∀ a b, q_Bm Bm a b = true → W.testBit a = true ∧ W.testBit b = true) (ha : a < 16) (hp : p < 2147483648) (hU : U < 2 ^ 16) (hLo : Lo < 2 ^ 16) (hUb : ∀ u, u < 16 → U.testBit u = q_fU W (a + 1) u) (hLb : ∀ c, c < 16 → Lo.testBit c = (W.testBit c && q_fL f a c)) :
    ∃ v I', fm_R_leastFollower (nI a) (nI U) (nI Lo) (nI p) I = some (oI v, I') ∧ ((∃ b, b < 16 ∧ v = some b ∧ q_gd (q_Bm Bm) W f p a b ∧ (∀ b', b' < b → ¬ q_gd (q_Bm Bm) W f p a b')) ∨ (v = none ∧ ∀ b, b < 16 → ¬ q_gd (q_Bm Bm) W f p a b)) ∧ (∀ k, k ≠ 12 → k ≠ 13 → k ≠ 14 → k ≠ 15 → I' k = I k) := by
  unfold fm_R_leastFollower
  obtain ⟨t, ⟨x, I'⟩, e1, e2, e3⟩ := iter_inv (step := fun z : Int32 × IS => fm_R_leastFollower_B3 (nI a) (nI U) (nI Lo) (nI p) z.1 z.2) (z0 := ((0 : Int32), I))
    (fun b z => z.1 = nI b ∧ (∀ k, k ≠ 12 → k ≠ 13 → k ≠ 14 → k ≠ 15 → z.2 k = I k) ∧ ∀ b', b' < b → ¬ q_gd (q_Bm Bm) W f p a b')
    (fun t z => ((t = 0 ∧ ∀ b, b < 16 → ¬ q_gd (q_Bm Bm) W f p a b) ∨ (t = 1 ∧ ∃ b, b < 16 ∧ z.1 = nI b ∧ q_gd (q_Bm Bm) W f p a b ∧ (∀ b', b' < b → ¬ q_gd (q_Bm Bm) W f p a b'))) ∧ (∀ k, k ≠ 12 → k ≠ 13 → k ≠ 14 → k ≠ 15 → z.2 k = I k)) 16 (by decide) (by
      intro b ⟨x, I1⟩ hb ⟨h1, h2, h4⟩
      replace h1 : x = nI b := h1
      subst h1
      replace h2 : ∀ k, k ≠ 12 → k ≠ 13 → k ≠ 14 → k ≠ 15 → I1 k = I k := h2
      by_cases hb16 : b = 16
      · subst hb16
        right
        refine ⟨0, (nI 16, I1), ?_, .inl ⟨rfl, h4⟩, h2⟩
        show fm_R_leastFollower_B3 (nI a) (nI U) (nI Lo) (nI p) (nI 16) I1 = _
        unfold fm_R_leastFollower_B3
        rw [if_pos (by decide)]
      have hb1 : b < 16 := by omega
      have h31 : ∀ a, a < 16 → I1 3 a = nI (Bm a) ∧ Bm a < 2 ^ 16 := fun a ha => by rw [h2 3 (by decide) (by decide) (by decide) (by decide)]; exact h3 a ha
      have hlt : Bm a &&& Lo < 2 ^ 16 := Nat.lt_of_le_of_lt Nat.and_le_right hLo
      obtain ⟨m, I2, m1, m2, m3, m4⟩ := mostPairs_eq h31 hU (dif_16 (k := b) hLo)
      have hfr : ∀ k, k ≠ 12 → k ≠ 13 → k ≠ 14 → k ≠ 15 → I2 k = I k := fun k k1 k2 k3 k4 => by rw [m4 k k1 k2 k3 k4, h2 k k1 k2 k3 k4]
      have st : fm_R_leastFollower_B3 (nI a) (nI U) (nI Lo) (nI p) (nI b) I1 = (if bI ((Bm a).testBit b && Lo.testBit b) = 0 then some (0, nI (b + 1), I1) else if nI m = fx p then some (2, nI b, I2) else some (0, nI (b + 1), I2)) := by
        unfold fm_R_leastFollower_B3
        rw [if_neg (n16 hb1), c_in ha (by decide), c_gr, c_cl (by omega), (h31 a ha).1, m_and, holds_b (by omega) (by omega), c_ob1, Nat.testBit_and, c_shl (by omega), m_dif, m1]
        simp only [c_ob2, bnd_eq, c_1]
        rfl
      have hnu : q_Bm Bm a b = true → q_nu (q_Bm Bm) (q_fU W (a + 1)) (q_fL (upo f a (some b)) (a + 1)) m := by
        intro _
        refine q_nu_W ?_ (q_nu_congr (fun _ _ _ _ => rfl) hUb (fun _ _ => rfl) m3)
        intro u c hu hc hB
        show (dif Lo (2 ^ b)).testBit c = _
        rw [dif_b hLo, hLb c hc, (hBW u c hB).2, Bool.true_and]
        unfold q_fL
        rw [Bool.eq_iff_iff, Bool.and_eq_true, decide_eq_true_eq, decide_eq_true_eq, Bool.not_eq_true', decide_eq_false_iff_not]
        constructor
        · intro ⟨q1, q2⟩ x hx
          by_cases e : x = a
          · subst e; rw [upo_same]; intro q3; cases q3; exact q2 rfl
          · rw [upo_ne _ _ e]; exact q1 x (by omega)
        · intro q
          refine ⟨fun x hx => ?_, fun q2 => ?_⟩
          · have := q x (by omega); rw [upo_ne _ _ (by omega)] at this; exact this
          · subst q2; exact q a (by omega) (upo_same _ _ _)
      have ext : ¬ q_gd (q_Bm Bm) W f p a b → ∀ b', b' < b + 1 → ¬ q_gd (q_Bm Bm) W f p a b' := fun hg b' hb' => by
        by_cases e : b' = b
        · subst e; exact hg
        · exact h4 b' (by omega)
      cases hc : ((Bm a).testBit b && Lo.testBit b) with
      | false =>
        rw [hc, bI_pos] at st
        left
        refine ⟨hb1, (nI (b + 1), I1), st, rfl, h2, ext ?_⟩
        intro ⟨q1, q2, _⟩
        have q3 : Lo.testBit b = true := by
          rw [hLb b hb1, (hBW a b q1).2, Bool.true_and]; exact decide_eq_true q2
        rw [show (Bm a).testBit b = true from q1, q3] at hc; cases hc
      | true =>
        obtain ⟨c1, c2⟩ := Bool.and_eq_true_iff.1 hc
        rw [hLb b hb1] at c2
        have c3 : ∀ x, x < a → f x ≠ some b := of_decide_eq_true (Bool.and_eq_true_iff.1 c2).2
        rw [hc, bI_neg] at st
        by_cases hm : m + 1 = p
        · rw [if_pos ((fx_eq (by omega) (by omega)).mpr hm)] at st
          right
          exact ⟨1, (nI b, I2), st, .inr ⟨rfl, b, hb1, rfl, ⟨c1, c3, m, hnu c1, hm⟩, h4⟩, hfr⟩
        · rw [if_neg (fun q => hm ((fx_eq (by omega) (by omega)).mp q))] at st
          left
          refine ⟨hb1, (nI (b + 1), I2), st, rfl, hfr, ext ?_⟩
          intro ⟨_, _, m', q1, q2⟩
          have := q_nu_eq (hnu c1) q1
          omega) ⟨rfl, fun _ _ _ _ _ => rfl, fun b' hb' => absurd hb' (Nat.not_lt_zero _)⟩
  rw [e1, c_ob3]
  rcases e2 with ⟨rfl, e2⟩ | ⟨rfl, b, b1, b2, b3, b4⟩
  · rw [if_pos rfl]
    exact ⟨none, I', rfl, .inr ⟨rfl, e2⟩, e3⟩
  · rw [if_neg (by decide)]
    replace b2 : x = nI b := b2
    subst b2
    exact ⟨some b, I', rfl, .inl ⟨b, b1, rfl, b3, b4⟩, e3⟩
theorem follow_eq {Bm : Nat → Nat} {W m : Nat} {I : IS} (h5 : I 5 0 = nI W) (hW : W < 2 ^ 16) (h3 : ∀ a, a < 16 → I 3 a = nI (Bm a) ∧ Bm a < 2 ^ 16) (hBW : ∀ a b, q_Bm Bm a b = true → W.testBit a = true ∧ W.testBit b = true) (hm : m ≤ q_pop W) (h9 : I 9 0 = nI (q_pop W - m)) : ∃ I' f p, fm_R_chooseFollowers I = some I' ∧ q_FO (q_Bm Bm) W m 16 f p ∧ (∀ a, a < 16 → I' 10 a = oI (f a)) ∧ (∀ k, k ≠ 10 → k ≠ 12 → k ≠ 13 → k ≠ 14 → k ≠ 15 → I' k = I k) := by
  have hp16 := q_pop_16 W
  unfold fm_R_chooseFollowers
  rw [bnd_eq, bnd_eq, size_eq h5 hW, c_ob1, bnd_eq, h9, pk_sub (by omega), show q_pop W - (q_pop W - m) = m by omega, h5]
  obtain ⟨⟨x1, x2, x3, x4, I'⟩, e1, f, p, U, Lo, e2, e3, e4, e5, e6⟩ := iter_for (step := fun z : Int32 × Int32 × Int32 × Int32 × IS => fm_R_chooseFollowers_B24 z.1 z.2.1 z.2.2.1 z.2.2.2.1 z.2.2.2.2) (z0 := (nI W, nI W, nI m, (0 : Int32), I))
    (fun a z => ∃ f p U Lo, z = (nI U, nI Lo, nI (p a), nI a, z.2.2.2.2) ∧ Fb Bm W f a U Lo ∧ (q_FO (q_Bm Bm) W m a f p ∧ p a ≤ 16) ∧ (∀ x, x < a → z.2.2.2.2 10 x = oI (f x)) ∧ (∀ k, k ≠ 10 → k ≠ 12 → k ≠ 13 → k ≠ 14 → k ≠ 15 → z.2.2.2.2 k = I k)) 16 (by decide) (by
      intro a ⟨x1, x2, x3, x4, I1⟩ ha ⟨f, p, U, Lo, e, ⟨u1, u2, u3, u4⟩, ⟨hF, hp⟩, h1, h2⟩
      have e1 : x1 = nI U := congrArg (fun z => z.1) e
      have e2 : x2 = nI Lo := congrArg (fun z => z.2.1) e
      have e3 : x3 = nI (p a) := congrArg (fun z => z.2.2.1) e
      have e4 : x4 = nI a := congrArg (fun z => z.2.2.2.1) e
      subst e1 e2 e3 e4
      replace h1 : ∀ x, x < a → I1 10 x = oI (f x) := h1
      replace h2 : ∀ k, k ≠ 10 → k ≠ 12 → k ≠ 13 → k ≠ 14 → k ≠ 15 → I1 k = I k := h2
      have h31 : ∀ a, a < 16 → I1 3 a = nI (Bm a) ∧ Bm a < 2 ^ 16 := fun a ha => by rw [h2 3 (by decide) (by decide) (by decide) (by decide) (by decide)]; exact h3 a ha
      have hU' : ∀ u, u < 16 → (dif U (2 ^ a)).testBit u = q_fU W (a + 1) u := fun u hu => by
        rw [dif_b u1, u3 u hu]
        unfold q_fU
        by_cases q : a = u
        · rw [decide_eq_true q, decide_eq_false (by omega : ¬ a + 1 ≤ u)]; simp
        · rw [decide_eq_false q]
          by_cases q2 : a ≤ u
          · rw [decide_eq_true q2, decide_eq_true (by omega : a + 1 ≤ u)]; simp
          · rw [decide_eq_false q2, decide_eq_false (by omega : ¬ a + 1 ≤ u)]; simp
      obtain ⟨v, I2, l1, l2, l3⟩ := leastF_eq (f := f) (p := p a) h31 hBW ha (by omega) (dif_16 u1) u2 hU' u4
      have hfr : ∀ k, k ≠ 10 → k ≠ 12 → k ≠ 13 → k ≠ 14 → k ≠ 15 → sI I2 10 a (oI v) k = I k := fun k k0 k1 k2 k3 k4 => by rw [sI_ne k0, l3 k k1 k2 k3 k4, h2 k k0 k1 k2 k3 k4]
      have h10 : ∀ x, x < a + 1 → sI I2 10 a (oI v) 10 x = oI (upo f a v x) := fun x hx => by
        by_cases q : x = a
        · subst q; rw [sI_same, upo_same]
        · rw [sI_idx q, upo_ne _ _ q, l3 10 (by decide) (by decide) (by decide) (by decide)]; exact h1 x (by omega)
      show ∃ z', fm_R_chooseFollowers_B24 (nI U) (nI Lo) (nI (p a)) (nI a) I1 = some (0, z') ∧ _
      unfold fm_R_chooseFollowers_B24
      rw [if_neg (n16 ha), c_shl (by omega), m_dif, bnd_eq, l1, c_ob2, c_in ha (by decide), c_gr, c_cl (by omega), bnd_eq, c_gr, sI_same, c_1]
      rcases l2 with ⟨b, b1, rfl, b3, b4⟩ | ⟨rfl, b2⟩
      · have hp1 : 1 ≤ p a := by obtain ⟨_, _, m', _, q⟩ := b3; omega
        rw [oI_some, if_neg (nI_m1 (by omega)), c_gr, bnd_eq, bnd_eq, bnd_eq, c_shl (by omega), m_dif, show p a = (p a - 1) + 1 by omega, pk_m1]
        refine ⟨_, rfl, upo f a (some b), (fun j => if j = a + 1 then p a - 1 else p j), dif U (2 ^ a), dif Lo (2 ^ b), ?_, ⟨dif_16 u1, dif_16 u2, hU', ?_⟩, ⟨q_FO_s hF (some b) (p a - 1) (.inl ⟨b, b1, rfl, b3, b4, by omega⟩), ?_⟩, h10, hfr⟩
        · show _ = (_, _, nI (if a + 1 = a + 1 then p a - 1 else p (a + 1)), _, _)
          rw [if_pos rfl]
        · intro c hc
          rw [dif_b u2, u4 c hc, Bool.and_assoc]
          congr 1
          unfold q_fL
          rw [Bool.eq_iff_iff, Bool.and_eq_true, decide_eq_true_eq, decide_eq_true_eq, Bool.not_eq_true', decide_eq_false_iff_not]
          constructor
          · intro ⟨q1, q2⟩ x hx
            by_cases e : x = a
            · subst e; rw [upo_same]; intro q3; cases q3; exact q2 rfl
            · rw [upo_ne _ _ e]; exact q1 x (by omega)
          · intro q
            refine ⟨fun x hx => ?_, fun q2 => ?_⟩
            · have := q x (by omega); rw [upo_ne _ _ (by omega)] at this; exact this
            · subst q2; exact q a (by omega) (upo_same _ _ _)
        · show (if a + 1 = a + 1 then p a - 1 else p (a + 1)) ≤ 16
          rw [if_pos rfl]; omega
      · rw [oI_none, if_pos rfl, bnd_eq]
        refine ⟨_, rfl, upo f a none, (fun j => if j = a + 1 then p a else p j), dif U (2 ^ a), Lo, ?_, ⟨dif_16 u1, u2, hU', ?_⟩, ⟨q_FO_s hF none (p a) (.inr ⟨rfl, b2, rfl⟩), ?_⟩, h10, hfr⟩
        · show _ = (_, _, nI (if a + 1 = a + 1 then p a else p (a + 1)), _, _)
          rw [if_pos rfl]
        · intro c hc
          rw [u4 c hc]
          congr 1
          unfold q_fL
          rw [Bool.eq_iff_iff, decide_eq_true_eq, decide_eq_true_eq]
          constructor
          · intro q1 x hx
            by_cases e : x = a
            · subst e; rw [upo_same]; intro q3; cases q3
            · rw [upo_ne _ _ e]; exact q1 x (by omega)
          · intro q x hx
            have := q x (by omega); rw [upo_ne _ _ (by omega)] at this; exact this
        · show (if a + 1 = a + 1 then p a else p (a + 1)) ≤ 16
          rw [if_pos rfl]; exact hp) (by
      intro ⟨x1, x2, x3, x4, I1⟩ ⟨f, p, U, Lo, e, _⟩
      have e4 : x4 = nI 16 := congrArg (fun z => z.2.2.2.1) e
      subst e4
      show fm_R_chooseFollowers_B24 x1 x2 x3 (nI 16) I1 = _
      unfold fm_R_chooseFollowers_B24
      rw [if_pos (by decide)]) ⟨fun _ => none, fun _ => m, W, W, rfl, ⟨hW, hW, fun u _ => by unfold q_fU; rw [decide_eq_true (Nat.zero_le _), Bool.and_true], fun c _ => by unfold q_fL; rw [decide_eq_true (fun x hx => absurd hx (Nat.not_lt_zero _)), Bool.and_true]⟩, ⟨⟨rfl, fun a ha => absurd ha (Nat.not_lt_zero _)⟩, by show m ≤ 16; omega⟩, fun x hx => absurd hx (Nat.not_lt_zero _), fun _ _ _ _ _ _ => rfl⟩
  rw [e1]
  exact ⟨I', f, p, rfl, e4.1, e5, e6⟩
