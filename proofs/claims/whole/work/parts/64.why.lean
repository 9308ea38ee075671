/-! Why a verdict was refused: the class's and the reference's -/
/-- the first of n that has the mark -/
def q_mu (p : Nat → Bool) : Nat → Nat → Nat
  | 0, s => s
  | n + 1, s => cond (p s) s (q_mu p n (s + 1))
theorem q_mu_ok {p : Nat → Bool} : ∀ {n s v : Nat}, s ≤ v → v < s + n → p v = true → p (q_mu p n s) = true ∧ q_mu p n s ≤ v ∧ ∀ w, s ≤ w → w < q_mu p n s → p w = false
  | 0, s, v, h1, h2, _ => by omega
  | n + 1, s, v, h1, h2, h3 => by
    show p (cond (p s) s (q_mu p n (s + 1))) = true ∧ cond (p s) s (q_mu p n (s + 1)) ≤ v ∧ ∀ w, s ≤ w → w < cond (p s) s (q_mu p n (s + 1)) → p w = false
    cases hp : p s with
    | true => exact ⟨hp, h1, fun w h4 h5 => absurd (Nat.lt_of_le_of_lt h4 h5) (Nat.lt_irrefl _)⟩
    | false =>
      have hne : s ≠ v := by intro e; subst e; rw [hp] at h3; cases h3
      obtain ⟨g1, g2, g3⟩ := q_mu_ok (p := p) (n := n) (s := s + 1) (v := v) (by omega) (by omega) h3
      refine ⟨g1, g2, fun w h4 h5 => ?_⟩
      by_cases e : w = s
      · subst e; exact hp
      · exact g3 w (by omega) h5
/-- a verdict that leads on -/
def q_on (u l : Nat → Nat) (inf : Nat → Bool) (d : Nat → Nat) (f e v : Nat) : Bool := (Nat.beq (u v) e && Nat.beq (d (l v)) f) && inf v
/-- the way down from e0 -/
def q_pa (u l : Nat → Nat) (inf : Nat → Bool) (d : Nat → Nat) (n D e0 : Nat) : Nat → Nat
  | 0 => e0
  | k + 1 => l (q_mu (q_on u l inf d (D - 1 - k) (q_pa u l inf d n D e0 k)) n 0)
def q_vv (u l : Nat → Nat) (inf : Nat → Bool) (d : Nat → Nat) (n D e0 k : Nat) : Nat := q_mu (q_on u l inf d (D - 1 - k) (q_pa u l inf d n D e0 k)) n 0
theorem q_on_t {u l : Nat → Nat} {inf : Nat → Bool} {d : Nat → Nat} {f e v : Nat} (h : q_on u l inf d f e v = true) : u v = e ∧ d (l v) = f ∧ inf v = true := by
  obtain ⟨h1, h2⟩ := Bool.and_eq_true_iff.1 h
  obtain ⟨h3, h4⟩ := Bool.and_eq_true_iff.1 h1
  exact ⟨q_beq_eq h3, q_beq_eq h4, h2⟩
theorem q_pa_ok {W n : Nat} {u l : Nat → Nat} {bk : Nat → Bool} {g e0 D : Nat} (hl : ∀ v, v < n → l v < 16) (he : e0 < 16) (hD : q_d (q_v W u l bk n) g e0 = D) (hD15 : D ≤ 15) : ∀ k, k ≤ D → q_pa u l (q_inf W u l bk) (q_d (q_v W u l bk n) g) n D e0 k < 16 ∧ q_d (q_v W u l bk n) g (q_pa u l (q_inf W u l bk) (q_d (q_v W u l bk n) g) n D e0 k) = D - k ∧ (k < D → q_vv u l (q_inf W u l bk) (q_d (q_v W u l bk n) g) n D e0 k < n ∧ q_on u l (q_inf W u l bk) (q_d (q_v W u l bk n) g) (D - 1 - k) (q_pa u l (q_inf W u l bk) (q_d (q_v W u l bk n) g) n D e0 k) (q_vv u l (q_inf W u l bk) (q_d (q_v W u l bk n) g) n D e0 k) = true ∧ ∀ w, w < q_vv u l (q_inf W u l bk) (q_d (q_v W u l bk n) g) n D e0 k → q_on u l (q_inf W u l bk) (q_d (q_v W u l bk n) g) (D - 1 - k) (q_pa u l (q_inf W u l bk) (q_d (q_v W u l bk n) g) n D e0 k) w = false) := by
  intro k
  have step : ∀ e, e < 16 → ∀ f, q_d (q_v W u l bk n) g e = f + 1 → f < 15 → q_mu (q_on u l (q_inf W u l bk) (q_d (q_v W u l bk n) g) f e) n 0 < n ∧ q_on u l (q_inf W u l bk) (q_d (q_v W u l bk n) g) f e (q_mu (q_on u l (q_inf W u l bk) (q_d (q_v W u l bk n) g) f e) n 0) = true ∧ ∀ w, w < q_mu (q_on u l (q_inf W u l bk) (q_d (q_v W u l bk n) g) f e) n 0 → q_on u l (q_inf W u l bk) (q_d (q_v W u l bk n) g) f e w = false := by
    intro e he f hf hf15
    obtain ⟨x, h1, h2, h3⟩ := q_d_step hf hf15
    obtain ⟨v, g1, g2, g3, g4⟩ := q_v_bit.1 h2
    have hon : q_on u l (q_inf W u l bk) (q_d (q_v W u l bk n) g) f e v = true := by
      unfold q_on
      rw [g2, g3, g4, h3, q_beq_self, q_beq_self]; rfl
    obtain ⟨a1, a2, a3⟩ := q_mu_ok (p := q_on u l (q_inf W u l bk) (q_d (q_v W u l bk n) g) f e) (n := n) (s := 0) (v := v) (by omega) (by omega) hon
    exact ⟨by omega, a1, fun w hw => a3 w (by omega) hw⟩
  induction k with
  | zero =>
    intro _
    refine ⟨he, by rw [Nat.sub_zero]; exact hD, fun h0 => ?_⟩
    exact step e0 he (D - 1 - 0) (by omega) (by omega)
  | succ k ih =>
    intro hk
    obtain ⟨h1, h2, h3⟩ := ih (by omega)
    obtain ⟨h4, h5, h6⟩ := h3 (by omega)
    obtain ⟨h7, h8, h9⟩ := q_on_t h5
    have e1 : q_pa u l (q_inf W u l bk) (q_d (q_v W u l bk n) g) n D e0 (k + 1) = l (q_vv u l (q_inf W u l bk) (q_d (q_v W u l bk n) g) n D e0 k) := rfl
    have a1 : q_pa u l (q_inf W u l bk) (q_d (q_v W u l bk n) g) n D e0 (k + 1) < 16 := by rw [e1]; exact hl _ h4
    have a2 : q_d (q_v W u l bk n) g (q_pa u l (q_inf W u l bk) (q_d (q_v W u l bk n) g) n D e0 (k + 1)) = D - (k + 1) := by rw [e1, h8]; omega
    refine ⟨a1, a2, fun h0 => ?_⟩
    exact step _ a1 (D - 1 - (k + 1)) (by rw [a2]; omega) (by omega)
/-- a level of the class's measure, after v verdicts -/
def q_ht (u l : Nat → Nat) (inf : Nat → Bool) (d : Nat → Nat) (f : Nat) : Nat → Nat → Bool
  | 0, _ => false
  | v + 1, e => q_ht u l inf d f v e || q_on u l inf d f e v
theorem q_ht_iff {u l : Nat → Nat} {inf : Nat → Bool} {d : Nat → Nat} {f : Nat} : ∀ {v e : Nat}, q_ht u l inf d f v e = true ↔ ∃ w, w < v ∧ q_on u l inf d f e w = true
  | 0, e => by
    constructor
    · intro h; cases h
    · intro ⟨w, h, _⟩; exact absurd h (Nat.not_lt_zero _)
  | v + 1, e => by
    show (q_ht u l inf d f v e || q_on u l inf d f e v) = true ↔ _
    rw [Bool.or_eq_true_iff, q_ht_iff]
    constructor
    · intro h
      rcases h with ⟨w, h1, h2⟩ | h
      · exact ⟨w, by omega, h2⟩
      · exact ⟨v, by omega, h⟩
    · intro ⟨w, h1, h2⟩
      by_cases q : w = v
      · subst q; exact .inr h2
      · exact .inl ⟨w, by omega, h2⟩
def q_st (u l : Nat → Nat) (inf : Nat → Bool) (d : Nat → Nat) (f v e : Nat) : Nat := if d e ≤ f then d e else cond (q_ht u l inf d f v e) (f + 1) 16
theorem q_st_end {W n : Nat} {u l : Nat → Nat} {bk : Nat → Bool} {g f e : Nat} (hl : ∀ v, v < n → l v < 16) (hf : f < 15) : q_st u l (q_inf W u l bk) (q_d (q_v W u l bk n) g) f n e = q_st u l (q_inf W u l bk) (q_d (q_v W u l bk n) g) (f + 1) 0 e := by
  unfold q_st
  by_cases h : q_d (q_v W u l bk n) g e ≤ f
  · rw [if_pos h, if_pos (by omega)]
  · rw [if_neg h]
    by_cases h1 : q_d (q_v W u l bk n) g e ≤ f + 1
    · rw [if_pos h1]
      obtain ⟨x, g1, g2, g3⟩ := q_d_step (show q_d (q_v W u l bk n) g e = f + 1 by omega) hf
      obtain ⟨v, g4, g5, g6, g7⟩ := q_v_bit.1 g2
      rw [q_ht_iff.2 ⟨v, g4, by unfold q_on; rw [g5, g6, g7, g3, q_beq_self, q_beq_self]; rfl⟩]
      show f + 1 = _
      omega
    · rw [if_neg h1]
      cases hh : q_ht u l (q_inf W u l bk) (q_d (q_v W u l bk n) g) f n e with
      | false => rfl
      | true =>
        obtain ⟨v, g1, g2⟩ := q_ht_iff.1 hh
        obtain ⟨g3, g4, g5⟩ := q_on_t g2
        have := q_d_edge (B := q_v W u l bk n) (g := g) (e := e) (x := l v) (f := f) (hl v g1) (q_v_bit.2 ⟨v, g1, g5, g3, rfl⟩) (by omega) hf
        omega
theorem measIn_eq {I : IS} {W n : Nat} {u l : Nat → Nat} {bk : Nat → Bool} (h : HR I W n u l bk) {g f : Nat} (hf : f < 15) (h20 : ∀ e, e < 16 → I 20 e = nI (q_st u l (q_inf W u l bk) (q_d (q_v W u l bk n) g) f 0 e)) : ∃ I', iter (fun z : Int32 × IS => fm_S_measure_B27 (nI (f + 1)) z.1 z.2) FU ((0 : Int32), I) = some (1, nI n, I') ∧ (∀ e, e < 16 → I' 20 e = nI (q_st u l (q_inf W u l bk) (q_d (q_v W u l bk n) g) f n e)) ∧ (∀ k, k ≠ 20 → I' k = I k) := by
  have hn := h.2.2.2.1
  apply for2 (fm_S_measure_B27 (nI (f + 1))) (fun v z => (∀ e, e < 16 → z 20 e = nI (q_st u l (q_inf W u l bk) (q_d (q_v W u l bk n) g) f v e)) ∧ (∀ k, k ≠ 20 → z k = I k)) n (by omega) (I0 := I) ⟨h20, fun _ _ => rfl⟩
  · intro v I1 hv ⟨h2, h4⟩
    have hR : HR I1 W n u l bk := HR_frame h (h4 0 (by decide)) (h4 1 (by decide)) (h4 2 (by decide)) (h4 5 (by decide)) (h4 6 (by decide))
    obtain ⟨g0, g1, g2, gu, gl⟩ := hR.2.2.2.2 v hv
    generalize hd : q_d (q_v W u l bk n) g = d at h2 ⊢
    have hd16 : ∀ e, d e ≤ 16 := fun e => by rw [← hd]; exact q_d_16 _ _ _
    generalize hinf : q_inf W u l bk = inf at h2 ⊢
    have hst : ∀ e, q_st u l inf d f v e ≤ 16 := by
      intro e
      unfold q_st
      split
      · exact hd16 e
      · cases q_ht u l inf d f v e <;> simp <;> omega
    let c : Bool := (Nat.beq (d (l v)) f && inf v) && (decide (f < d (u v)) && !(q_ht u l inf d f v (u v)))
    have hc : c = ((Nat.beq (d (l v)) f && inf v) && (decide (f < d (u v)) && !(q_ht u l inf d f v (u v)))) := rfl
    have st : fm_S_measure_B27 (nI (f + 1)) (nI v) I1 = some (0, nI (v + 1), cond c (sI I1 20 (u v) (nI (f + 1))) I1) := by
      unfold fm_S_measure_B27
      rw [hR.2.2.1, if_neg (nI_ge hv (by omega)), c_in (show v < 400 by omega) (by decide), c_gr, c_cl (show v < 2147483648 by omega), g0, g1, bnd_eq, c_gr, c_in gl (by decide), c_gr, c_cl (show l v < 2147483648 by omega), h2 _ gl, nI_pred, c_in gu (by decide), c_gr, c_cl (show u v < 2147483648 by omega), h2 _ gu, inForce_eq hR hv, hinf, c_ob1, c_gr, bnd_eq, bnd_eq, bnd_eq, c_1]
      have a1 : (nI (q_st u l inf d f v (l v)) = nI f) ↔ d (l v) = f := by
        rw [nI_eq (by have := hst (l v); omega) (by omega)]
        unfold q_st
        by_cases q : d (l v) ≤ f
        · rw [if_pos q]
        · rw [if_neg q]
          cases q_ht u l inf d f v (l v) with
          | false => simp only [cond_false]; omega
          | true => simp only [cond_true]; omega
      have a2 : (nI (q_st u l inf d f v (u v)) ≤ nI (f + 1)) ↔ (d (u v) ≤ f ∨ q_ht u l inf d f v (u v) = true) := by
        rw [nI_leI (by have := hst (u v); omega) (by omega)]
        unfold q_st
        by_cases q : d (u v) ≤ f
        · rw [if_pos q]; constructor
          · intro _; exact .inl q
          · intro _; omega
        · rw [if_neg q]
          cases q_ht u l inf d f v (u v) with
          | false => simp only [cond_false]; constructor
                     · intro q'; omega
                     · intro q'; rcases q' with q' | q'
                       · omega
                       · cases q'
          | true => simp only [cond_true]; constructor
                    · intro _; exact .inr (by trivial)
                    · intro _; omega
      by_cases q1 : d (l v) = f
      · rw [if_pos (a1.2 q1)]
        by_cases q2 : d (u v) ≤ f ∨ q_ht u l inf d f v (u v) = true
        · rw [if_pos (a2.2 q2)]
          have : c = false := by
            rw [hc]
            rcases q2 with q2 | q2
            · rw [decide_eq_false (by omega)]; simp
            · rw [q2]; simp
          rw [this]; rfl
        · rw [if_neg (fun q => q2 (a2.1 q))]
          have q3 : ¬ d (u v) ≤ f := fun q => q2 (.inl q)
          have q4 : q_ht u l inf d f v (u v) = false := by
            cases hh : q_ht u l inf d f v (u v) with
            | false => rfl
            | true => exact absurd (.inr hh) q2
          have : c = inf v := by
            rw [hc, q4, q1, q_beq_self, decide_eq_true (by omega)]; simp
          rw [this]
          cases inf v with
          | false => rw [bI_pos]; rfl
          | true => rw [bI_neg]; rfl
      · rw [if_neg (fun q => q1 (a1.1 q))]
        have : c = false := by rw [hc, q_beq_ne q1]; rfl
        rw [this]; rfl
    refine ⟨_, st, ?_, ?_⟩
    · intro e he
      by_cases q : e = u v
      · subst q
        have e1 : q_ht u l inf d f (v + 1) (u v) = (q_ht u l inf d f v (u v) || (Nat.beq (d (l v)) f && inf v)) := by
          show (q_ht u l inf d f v (u v) || ((Nat.beq (u v) (u v) && Nat.beq (d (l v)) f) && inf v)) = _
          rw [q_beq_self]; simp
        cases hcc : c with
        | true =>
          rw [hc] at hcc
          obtain ⟨b1, b2⟩ := Bool.and_eq_true_iff.1 hcc
          obtain ⟨b3, b4⟩ := Bool.and_eq_true_iff.1 b2
          show sI I1 20 (u v) (nI (f + 1)) 20 (u v) = _
          rw [sI_same]
          unfold q_st
          rw [if_neg (by have := of_decide_eq_true b3; omega), e1, b1]
          cases q_ht u l inf d f v (u v) <;> rfl
        | false =>
          show I1 20 (u v) = _
          rw [h2 _ he]
          unfold q_st
          rw [e1]
          by_cases b : d (u v) ≤ f
          · rw [if_pos b, if_pos b]
          · rw [if_neg b, if_neg b]
            rw [hc, decide_eq_true (show f < d (u v) by omega)] at hcc
            cases hh : q_ht u l inf d f v (u v) with
            | true => rfl
            | false =>
              rw [hh] at hcc
              have : (Nat.beq (d (l v)) f && inf v) = false := by simpa using hcc
              rw [this]; rfl
      · have e1 : q_ht u l inf d f (v + 1) e = q_ht u l inf d f v e := by
          show (q_ht u l inf d f v e || ((Nat.beq (u v) e && Nat.beq (d (l v)) f) && inf v)) = _
          rw [q_beq_ne (fun q' => q q'.symm)]; simp
        have e2 : q_st u l inf d f (v + 1) e = q_st u l inf d f v e := by unfold q_st; rw [e1]
        rw [e2, ← h2 e he]
        cases c with
        | false => rfl
        | true => show sI I1 20 (u v) _ 20 e = _; rw [sI_idx q]
    · intro k hk
      cases c with
      | false => exact h4 k hk
      | true => show sI I1 20 (u v) _ k = _; rw [sI_ne hk]; exact h4 k hk
  · intro I1 ⟨h2, h4⟩
    unfold fm_S_measure_B27
    rw [h4 6 (by decide), h.2.2.1, if_pos (nI_le (Nat.le_refl _) (by omega))]
