/-! Partners change along the way that was found -/
def oI (o : Option Nat) : Int32 := o.elim (-1) nI
theorem oI_none : oI none = -1 := rfl
theorem oI_some (b : Nat) : oI (some b) = nI b := rfl
theorem nI_m1 {n : Nat} (h : n < 2147483648) : ¬ nI n = (-1 : Int32) := by
  intro q
  have := nI_pos (n := n) (by omega)
  rw [q] at this
  exact this m1_lt
def PS (I : IS) (kn kp : Nat) (nx pv : Nat → Option Nat) : Prop := ∀ j, j < 16 → I kn j = oI (nx j) ∧ I kp j = oI (pv j)
def upo (f : Nat → Option Nat) (a : Nat) (v : Option Nat) : Nat → Option Nat := fun j => if j = a then v else f j
theorem upo_same (f : Nat → Option Nat) (a : Nat) (v : Option Nat) : upo f a v a = v := by unfold upo; rw [if_pos rfl]
theorem upo_ne (f : Nat → Option Nat) {a j : Nat} (v : Option Nat) (h : j ≠ a) : upo f a v j = f j := by unfold upo; rw [if_neg h]
theorem PS_up {I : IS} {kn kp : Nat} (hk : kn ≠ kp) {nx pv : Nat → Option Nat} (h : PS I kn kp nx pv) {a b : Nat} : PS (sI (sI I kn a (nI b)) kp b (nI a)) kn kp (upo nx a (some b)) (upo pv b (some a)) := by
  intro j hj
  constructor
  · rw [sI_ne hk]
    by_cases e : j = a
    · subst e; rw [sI_same, upo_same]; rfl
    · rw [sI_idx e, upo_ne _ _ e]; exact (h j hj).1
  · by_cases e : j = b
    · subst e; rw [sI_same, upo_same]; rfl
    · rw [sI_idx e, upo_ne _ _ e, sI_ne (fun q => hk q.symm)]; exact (h j hj).2
/-- both rows say the same -/
def q_K (nx pv : Nat → Option Nat) : Prop := ∀ u c, u < 16 → c < 16 → (nx u = some c ↔ pv c = some u)
def q_E (B : Nat → Nat → Bool) (L : Nat → Bool) (nx : Nat → Option Nat) : Prop := ∀ u c, u < 16 → nx u = some c → c < 16 ∧ L c = true ∧ B u c = true
def q_V (pv : Nat → Option Nat) : Prop := ∀ c u, c < 16 → pv c = some u → u < 16
/-- the queue, and from where each was reached -/
def q_Q (B : Nat → Nat → Bool) (L : Nat → Bool) (nx : Nat → Option Nat) (Q : Nat → Nat) (rf : Nat → Int32) (w : Nat) : Prop :=
  (∀ j, j < w → Q j < 16) ∧ (∀ i j, i < w → j < w → Q i = Q j → i = j) ∧ ∀ j, j < w → nx (Q j) = none ∨ ∃ b j', j' < j ∧ b < 16 ∧ nx (Q j) = some b ∧ rf b = nI (Q j') ∧ B (Q j') b = true ∧ L b = true
def q_fl (B : Nat → Nat → Bool) (L : Nat → Bool) (nx0 : Nat → Option Nat) (Q : Nat → Nat) (rf : Nat → Int32) (w : Nat) (nx pv : Nat → Option Nat) (b p : Nat) : Prop :=
  b < 16 ∧ L b = true ∧ p < w ∧ rf b = nI (Q p) ∧ B (Q p) b = true ∧ (∀ u, u < 16 → nx u ≠ some b) ∧ (∀ u c, u < 16 → c < 16 → c ≠ b → (nx u = some c ↔ pv c = some u)) ∧ (∀ j, j ≤ p → nx (Q j) = nx0 (Q j)) ∧ (∀ u, u < 16 → (nx u).isSome = (nx0 u).isSome) ∧ q_E B L nx ∧ q_V pv ∧ ∀ u, (∀ j, j < w → Q j ≠ u) → nx u = nx0 u
def q_fe (B : Nat → Nat → Bool) (L : Nat → Bool) (nx0 : Nat → Option Nat) (Q : Nat → Nat) (w : Nat) (nx pv : Nat → Option Nat) : Prop :=
  q_K nx pv ∧ q_E B L nx ∧ q_V pv ∧ (∀ u, (∀ j, j < w → Q j ≠ u) → nx u = nx0 u) ∧ ∃ s, s < w ∧ nx0 (Q s) = none ∧ ∀ u, u < 16 → (nx u).isSome = ((nx0 u).isSome || decide (u = Q s))
theorem q_fl_step {B : Nat → Nat → Bool} {L : Nat → Bool} {nx0 : Nat → Option Nat} {Q : Nat → Nat} {rf : Nat → Int32} {w : Nat} {nx pv : Nat → Option Nat} {b p : Nat} (hQ : q_Q B L nx0 Q rf w) (h : q_fl B L nx0 Q rf w nx pv b p) : (nx (Q p) = none ∧ q_fe B L nx0 Q w (upo nx (Q p) (some b)) (upo pv b (some (Q p)))) ∨ ∃ b' p', p' < p ∧ nx (Q p) = some b' ∧ q_fl B L nx0 Q rf w (upo nx (Q p) (some b)) (upo pv b (some (Q p))) b' p' := by
  obtain ⟨h1, h2, h3, h4, h5, h6, h7, h8, h9, h10, h11, h12⟩ := h
  have hq := hQ.1 p h3
  have hE : q_E B L (upo nx (Q p) (some b)) := by
    intro u c hu hn
    by_cases e : u = Q p
    · subst e; rw [upo_same] at hn; cases hn; exact ⟨h1, h2, h5⟩
    · rw [upo_ne _ _ e] at hn; exact h10 u c hu hn
  have hV : q_V (upo pv b (some (Q p))) := by
    intro c u hc hn
    by_cases e : c = b
    · subst e; rw [upo_same] at hn; cases hn; exact hq
    · rw [upo_ne _ _ e] at hn; exact h11 c u hc hn
  have hO : ∀ u, (∀ j, j < w → Q j ≠ u) → upo nx (Q p) (some b) u = nx0 u := by
    intro u hu
    rw [upo_ne _ _ (fun q => hu p h3 q.symm)]; exact h12 u hu
  have hnn := h8 p (Nat.le_refl _)
  rcases hQ.2.2 p h3 with hn | ⟨b', j', a1, a2, a3, a4, a5, a6⟩
  · left
    refine ⟨by rw [hnn]; exact hn, ?_, hE, hV, hO, p, h3, hn, ?_⟩
    · intro u c hu hc
      by_cases e : u = Q p
      · subst e
        rw [upo_same]
        by_cases e2 : c = b
        · subst e2; rw [upo_same]; exact ⟨fun _ => rfl, fun _ => rfl⟩
        · rw [upo_ne _ _ e2]
          constructor
          · intro q; cases q; exact absurd rfl e2
          · intro q; have := (h7 _ c hu hc e2).mpr q; rw [hnn, hn] at this; cases this
      · rw [upo_ne _ _ e]
        by_cases e2 : c = b
        · subst e2; rw [upo_same]
          constructor
          · intro q; exact absurd q (h6 u hu)
          · intro q; cases q; exact absurd rfl e
        · rw [upo_ne _ _ e2]; exact h7 u c hu hc e2
    · intro u hu
      by_cases e : u = Q p
      · subst e; rw [upo_same, decide_eq_true rfl, Bool.or_true]; rfl
      · rw [upo_ne _ _ e, decide_eq_false e, Bool.or_false]; exact h9 u hu
  · right
    have hb' : nx (Q p) = some b' := by rw [hnn]; exact a3
    have hne : b' ≠ b := fun q => h6 _ hq (by rw [← q]; exact hb')
    refine ⟨b', j', a1, hb', a2, a6, by omega, a4, a5, ?_, ?_, ?_, ?_, hE, hV, hO⟩
    · intro u hu
      by_cases e : u = Q p
      · subst e; rw [upo_same]; intro q; cases q; exact hne rfl
      · rw [upo_ne _ _ e]
        intro q
        have q1 := (h7 u b' hu a2 hne).mp q
        have q2 := (h7 (Q p) b' hq a2 hne).mp hb'
        rw [q1] at q2; cases q2; exact e rfl
    · intro u c hu hc hcb
      by_cases e : u = Q p
      · subst e
        rw [upo_same]
        by_cases e2 : c = b
        · subst e2; rw [upo_same]; exact ⟨fun _ => rfl, fun _ => rfl⟩
        · rw [upo_ne _ _ e2]
          constructor
          · intro q; cases q; exact absurd rfl e2
          · intro q; have := (h7 _ c hu hc e2).mpr q; rw [hb'] at this; cases this; exact absurd rfl hcb
      · rw [upo_ne _ _ e]
        by_cases e2 : c = b
        · subst e2; rw [upo_same]
          constructor
          · intro q; exact absurd q (h6 u hu)
          · intro q; cases q; exact absurd rfl e
        · rw [upo_ne _ _ e2]; exact h7 u c hu hc e2
    · intro j hj
      have : Q j ≠ Q p := fun q => by have := hQ.2.1 j p (by omega) h3 q; omega
      rw [upo_ne _ _ this]; exact h8 j (by omega)
    · intro u hu
      by_cases e : u = Q p
      · subst e; rw [upo_same, ← h9 _ hu, hb']; rfl
      · rw [upo_ne _ _ e]; exact h9 u hu
/-- where it begins -/
theorem q_fl_0 {B : Nat → Nat → Bool} {L : Nat → Bool} {nx : Nat → Option Nat} {Q : Nat → Nat} {rf : Nat → Int32} {w : Nat} {pv : Nat → Option Nat} {b p : Nat} (hK : q_K nx pv) (hE : q_E B L nx) (hV : q_V pv) (hb : b < 16) (hL : L b = true) (hp : p < w) (hr : rf b = nI (Q p)) (hB : B (Q p) b = true) (hf : pv b = none) : q_fl B L nx Q rf w nx pv b p :=
  ⟨hb, hL, hp, hr, hB, fun u hu q => (by rw [(hK u b hu hb).mp q] at hf; cases hf), fun u c hu hc _ => hK u c hu hc, fun _ _ => rfl, fun _ _ => rfl, hE, hV, fun _ _ => rfl⟩
theorem change_eq {B : Nat → Nat → Bool} {L : Nat → Bool} {nx pv : Nat → Option Nat} {Q : Nat → Nat} {w b p : Nat} {I : IS} (hw : w ≤ 16) (hQ : q_Q B L nx Q (I 14) w) (hP : PS I 12 13 nx pv) (h : q_fl B L nx Q (I 14) w nx pv b p) : ∃ I' nx' pv', fm_R_changePartners (nI b) I = some I' ∧ PS I' 12 13 nx' pv' ∧ q_fe B L nx Q w nx' pv' ∧ (∀ k, k ≠ 12 → k ≠ 13 → I' k = I k) := by
  unfold fm_R_changePartners
  obtain ⟨t, ⟨x, y, I'⟩, e1, rfl, nx', pv', e3, e4, e5⟩ := iter_inv (step := fun z : Int32 × Int32 × IS => fm_R_changePartners_B4 z.1 z.2.1 z.2.2) (z0 := (nI b, (0 : Int32), I))
    (fun t z => z.2.1 = nI t ∧ (∀ k, k ≠ 12 → k ≠ 13 → z.2.2 k = I k) ∧ ∃ nx' pv', PS z.2.2 12 13 nx' pv' ∧ ((z.1 = -1 ∧ q_fe B L nx Q w nx' pv') ∨ ∃ b' p', z.1 = nI b' ∧ t + p' ≤ 15 ∧ q_fl B L nx Q (I 14) w nx' pv' b' p'))
    (fun t z => t = 0 ∧ ∃ nx' pv', PS z.2.2 12 13 nx' pv' ∧ q_fe B L nx Q w nx' pv' ∧ (∀ k, k ≠ 12 → k ≠ 13 → z.2.2 k = I k)) 16 (by decide) (by
      intro t ⟨x, y, I1⟩ ht ⟨h1, h2, nx', pv', h3, h4⟩
      have h1 : y = nI t := h1
      subst h1
      replace h2 : ∀ k, k ≠ 12 → k ≠ 13 → I1 k = I k := h2
      replace h3 : PS I1 12 13 nx' pv' := h3
      rcases h4 with ⟨h4, h5⟩ | ⟨b', p', h4, h5, h6⟩
      · have h4 : x = -1 := h4
        subst h4
        right
        refine ⟨0, (-1, nI t, I1), ?_, rfl, nx', pv', h3, h5, h2⟩
        show fm_R_changePartners_B4 (-1) (nI t) I1 = _
        unfold fm_R_changePartners_B4
        rw [if_pos (rfl : (-1 : Int32) = -1)]
        split <;> rfl
      · have h4 : x = nI b' := h4
        subst h4
        left
        have hb := h6.1
        have hq := hQ.1 p' h6.2.2.1
        have hr : I1 14 b' = nI (Q p') := by rw [h2 14 (by decide) (by decide)]; exact h6.2.2.2.1
        refine ⟨by omega, (oI (nx' (Q p')), nI (t + 1), sI (sI I1 12 (Q p') (nI b')) 13 b' (nI (Q p'))), ?_, rfl, ?_, upo nx' (Q p') (some b'), upo pv' b' (some (Q p')), PS_up (by decide) h3, ?_⟩
        · show fm_R_changePartners_B4 (nI b') (nI t) I1 = _
          unfold fm_R_changePartners_B4
          rw [if_neg (n16 (by omega)), if_neg (nI_m1 (by omega)), c_in hb (by decide), c_gr, c_cl (by omega), hr, bnd_eq, c_in hq (by decide), c_gr, c_cl (by omega), bnd_eq, c_gr, bnd_eq, c_gr, bnd_eq, bnd_eq, c_1, (h3 _ hq).1]
        · intro k hk1 hk2
          show sI _ 13 _ _ k = _
          rw [sI_ne hk2, sI_ne hk1]; exact h2 k hk1 hk2
        · rcases q_fl_step hQ h6 with ⟨g1, g2⟩ | ⟨b2, p2, g1, g2, g3⟩
          · left; exact ⟨by show oI (nx' (Q p')) = -1; rw [g1]; rfl, g2⟩
          · right; exact ⟨b2, p2, by show oI (nx' (Q p')) = _; rw [g2]; rfl, by omega, g3⟩) ⟨rfl, fun _ _ _ => rfl, nx, pv, hP, .inr ⟨b, p, rfl, by have := h.2.2.1; omega, h⟩⟩
  rw [e1]
  exact ⟨I', nx', pv', rfl, e3, e4, e5⟩
theorem about_eq {B : Nat → Nat → Bool} {L : Nat → Bool} {nx pv : Nat → Option Nat} {Q : Nat → Nat} {w b p : Nat} {I : IS} (hw : w ≤ 16) (hQ : q_Q B L nx Q (I 19) w) (hP : PS I 16 17 nx pv) (h : q_fl B L nx Q (I 19) w nx pv b p) : ∃ I' nx' pv', fm_M_turnAbout (nI b) I = some I' ∧ PS I' 16 17 nx' pv' ∧ q_fe B L nx Q w nx' pv' ∧ (∀ k, k ≠ 16 → k ≠ 17 → I' k = I k) := by
  unfold fm_M_turnAbout
  obtain ⟨t, ⟨x, I'⟩, e1, rfl, nx', pv', e3, e4, e5⟩ := iter_inv (step := fun z : Int32 × IS => fm_M_turnAbout_B2 z.1 z.2) (z0 := (nI b, I))
    (fun t z => (∀ k, k ≠ 16 → k ≠ 17 → z.2 k = I k) ∧ ∃ nx' pv', PS z.2 16 17 nx' pv' ∧ ((z.1 = -1 ∧ q_fe B L nx Q w nx' pv') ∨ ∃ b' p', z.1 = nI b' ∧ t + p' ≤ 15 ∧ q_fl B L nx Q (I 19) w nx' pv' b' p'))
    (fun t z => t = 0 ∧ ∃ nx' pv', PS z.2 16 17 nx' pv' ∧ q_fe B L nx Q w nx' pv' ∧ (∀ k, k ≠ 16 → k ≠ 17 → z.2 k = I k)) 16 (by decide) (by
      intro t ⟨x, I1⟩ ht ⟨h2, nx', pv', h3, h4⟩
      replace h2 : ∀ k, k ≠ 16 → k ≠ 17 → I1 k = I k := h2
      replace h3 : PS I1 16 17 nx' pv' := h3
      rcases h4 with ⟨h4, h5⟩ | ⟨b', p', h4, h5, h6⟩
      · have h4 : x = -1 := h4
        subst h4
        right
        refine ⟨0, (-1, I1), ?_, rfl, nx', pv', h3, h5, h2⟩
        show fm_M_turnAbout_B2 (-1) I1 = _
        unfold fm_M_turnAbout_B2
        rw [if_pos m1_lt]
      · have h4 : x = nI b' := h4
        subst h4
        left
        have hb := h6.1
        have hq := hQ.1 p' h6.2.2.1
        have hr : I1 19 b' = nI (Q p') := by rw [h2 19 (by decide) (by decide)]; exact h6.2.2.2.1
        refine ⟨by omega, (oI (nx' (Q p')), sI (sI I1 16 (Q p') (nI b')) 17 b' (nI (Q p'))), ?_, ?_, upo nx' (Q p') (some b'), upo pv' b' (some (Q p')), PS_up (by decide) h3, ?_⟩
        · show fm_M_turnAbout_B2 (nI b') I1 = _
          unfold fm_M_turnAbout_B2
          rw [if_neg (nI_pos (by omega)), c_in hb (by decide), c_gr, c_cl (by omega), hr, bnd_eq, c_in hq (by decide), c_gr, c_cl (by omega), bnd_eq, c_gr, bnd_eq, c_gr, bnd_eq, (h3 _ hq).1]
        · intro k hk1 hk2
          show sI _ 17 _ _ k = _
          rw [sI_ne hk2, sI_ne hk1]; exact h2 k hk1 hk2
        · rcases q_fl_step hQ h6 with ⟨g1, g2⟩ | ⟨b2, p2, g1, g2, g3⟩
          · left; exact ⟨by show oI (nx' (Q p')) = -1; rw [g1]; rfl, g2⟩
          · right; exact ⟨b2, p2, by show oI (nx' (Q p')) = _; rw [g2]; rfl, by omega, g3⟩) ⟨fun _ _ _ => rfl, nx, pv, hP, .inr ⟨b, p, rfl, by have := h.2.2.1; omega, h⟩⟩
  rw [e1]
  exact ⟨I', nx', pv', rfl, e3, e4, e5⟩
