/-! The class's trace -/
theorem measure_eq {I : IS} {W n : Nat} {u l : Nat → Nat} {bk : Nat → Bool} (h : HR I W n u l bk) {g : Nat} (hg : g < 16) : ∃ I', fm_S_measure (nI g) I = some I' ∧ (∀ e, e < 16 → I' 20 e = nI (q_d (q_v W u l bk n) g e)) ∧ (∀ k, k ≠ 20 → I' k = I k) := by
  have hl : ∀ v, v < n → l v < 16 := fun v hv => (h.2.2.2.2 v hv).2.2.2.2
  obtain ⟨I1, a1, a2, a3⟩ := fillI_eq 20 16 16 I (by decide)
  have h0 : ∀ e, e < 16 → sI I1 20 g 0 20 e = nI (q_st u l (q_inf W u l bk) (q_d (q_v W u l bk n) g) 0 0 e) := by
    intro e he
    unfold q_st
    by_cases q : e = g
    · subst q
      have := (q_d_0 (B := q_v W u l bk n) (g := e) (e := e)).2 rfl
      rw [sI_same, this]; rfl
    · have : q_d (q_v W u l bk n) g e ≠ 0 := fun q' => q (q_d_0.1 q')
      rw [sI_idx q, a2 e he, if_neg (by omega)]; rfl
  obtain ⟨I2, b1, b2, b3⟩ := for2s fm_S_measure_B18 (fun f z => (∀ e, e < 16 → z 20 e = nI (q_st u l (q_inf W u l bk) (q_d (q_v W u l bk n) g) (f - 1) 0 e)) ∧ (∀ k, k ≠ 20 → z k = I k)) 1 16 (by decide) (by decide) (I0 := sI I1 20 g 0) ⟨h0, fun k hk => by rw [sI_ne hk]; exact a3 k hk⟩ (by
    intro f I2 hf1 hf ⟨h2, h4⟩
    have hR : HR I2 W n u l bk := HR_frame h (h4 0 (by decide)) (h4 1 (by decide)) (h4 2 (by decide)) (h4 5 (by decide)) (h4 6 (by decide))
    obtain ⟨f, rfl⟩ : ∃ k, f = k + 1 := ⟨f - 1, by omega⟩
    rw [show f + 1 - 1 = f by omega] at h2
    obtain ⟨I3, c1, c2, c3⟩ := measIn_eq hR (g := g) (f := f) (by omega) h2
    refine ⟨I3, ?_, ?_, fun k hk => (c3 k hk).trans (h4 k hk)⟩
    · unfold fm_S_measure_B18
      rw [if_neg (n16 hf), c1, c_ob3, bnd_eq, c_1]
    · intro e he
      rw [c2 e he, q_st_end hl (by omega)]
      rfl) (fun _ _ => rfl)
  refine ⟨I2, ?_, ?_, b3⟩
  · unfold fm_S_measure
    rw [a1, c_ob1, c_in hg (by decide), c_gr, c_cl (by omega), bnd_eq, show ((1 : Int32), sI I1 20 g 0) = (nI 1, sI I1 20 g 0) from rfl, b1, c_ob3]
  · intro e he
    rw [b2 e he]
    unfold q_st
    have := q_d_16 (q_v W u l bk n) g e
    by_cases q : q_d (q_v W u l bk n) g e ≤ 16 - 1
    · rw [if_pos q]
    · have e1 : q_d (q_v W u l bk n) g e = 16 := by omega
      rw [if_neg q, e1]; rfl
theorem least_eq {I : IS} {W n : Nat} {u l : Nat → Nat} {bk : Nat → Bool} (h : HR I W n u l bk) {d : Nat → Nat} (hd : ∀ e, d e ≤ 16) (h20 : ∀ e, e < 16 → I 20 e = nI (d e)) {e f v : Nat} (he : e < 16) (hf : f ≤ 16) (hv : v < n) (hp : q_on u l (q_inf W u l bk) d f e v = true) (hl : ∀ w, w < v → q_on u l (q_inf W u l bk) d f e w = false) : fm_S_leastToward (nI e) (nI f) I = some (nI v) := by
  have hn := h.2.2.2.1
  unfold fm_S_leastToward
  rw [find1 (g := fun z => fm_S_leastToward_B3 (nI e) (nI f) I z) (p := q_on u l (q_inf W u l bk) d f e) (n := n) (t := 1) (by omega) ?_ hv hp hl, c_ob2, if_neg (by decide)]
  intro k hk
  obtain ⟨g0, g1, g2, gu, gl⟩ := h.2.2.2.2 k hk
  show fm_S_leastToward_B3 (nI e) (nI f) I (nI k) = _
  unfold fm_S_leastToward_B3
  rw [h.2.2.1, if_neg (nI_ge hk (by omega)), c_in (show k < 400 by omega) (by decide), c_gr, c_cl (show k < 2147483648 by omega), g0, g1, c_gr, c_in gl (by decide), c_gr, c_cl (show l k < 2147483648 by omega), h20 _ gl, inForce_eq h hk, c_ob1, bnd_eq, c_1]
  unfold q_on
  have a1 : (nI (u k) = nI e) ↔ u k = e := nI_eq (by omega) (by omega)
  have a2 : (nI (d (l k)) = nI f) ↔ d (l k) = f := nI_eq (by have := hd (l k); omega) (by omega)
  by_cases q1 : u k = e
  · rw [if_pos (a1.2 q1)]
    by_cases q2 : d (l k) = f
    · rw [if_pos (a2.2 q2), q1, q2, q_beq_self, q_beq_self]
      cases q_inf W u l bk k with
      | false => rw [bI_pos]; rfl
      | true => rw [bI_neg]; rfl
    · rw [if_neg (fun q => q2 (a2.1 q)), q_beq_ne q2]; simp [bnd_eq]
  · rw [if_neg (fun q => q1 (a1.1 q)), q_beq_ne q1]; rfl
theorem trace_eq {I : IS} {W n : Nat} {u l : Nat → Nat} {bk : Nat → Bool} (h : HR I W n u l bk) {g e0 D : Nat} (hg : g < 16) (he : e0 < 16) (hD : q_d (q_v W u l bk n) g e0 = D) (hD15 : D ≤ 15) : ∃ I', fm_S_trace (nI e0) (nI g) I = some I' ∧ I' 19 0 = nI D ∧ (∀ i, i < D → I' 18 i = nI (q_vv u l (q_inf W u l bk) (q_d (q_v W u l bk n) g) n D e0 i + 1)) ∧ (∀ k, k ≠ 18 → k ≠ 19 → k ≠ 20 → I' k = I k) := by
  have hn := h.2.2.2.1
  have hl : ∀ v, v < n → l v < 16 := fun v hv => (h.2.2.2.2 v hv).2.2.2.2
  obtain ⟨I1, a1, a2, a3⟩ := measure_eq h hg
  have hp := q_pa_ok (W := W) (bk := bk) (u := u) (g := g) hl he hD hD15
  generalize hd : q_d (q_v W u l bk n) g = d at a2 hp hD ⊢
  have hd16 : ∀ e, d e ≤ 16 := fun e => by rw [← hd]; exact q_d_16 _ _ _
  generalize hpa : q_pa u l (q_inf W u l bk) d n D e0 = pa at hp
  generalize hvv : q_vv u l (q_inf W u l bk) d n D e0 = vv at hp ⊢
  have hpv : ∀ k, pa (k + 1) = l (vv k) := fun k => by rw [← hpa, ← hvv]; rfl
  have hp0 : pa 0 = e0 := by rw [← hpa]; rfl
  obtain ⟨z, b1, b2, b3, b4, b5, b6⟩ := iter_for (step := fun z : Int32 × Int32 × IS => fm_S_trace_B24 z.1 z.2.1 z.2.2) (fun k z => z.1 = nI (pa k) ∧ z.2.1 = nI (D - k) + (-1) ∧ z.2.2 19 0 = nI k ∧ (∀ i, i < k → z.2.2 18 i = nI (vv i + 1)) ∧ (∀ k, k ≠ 18 → k ≠ 19 → z.2.2 k = I1 k)) D (by omega) (by
    intro k ⟨x1, x2, I2⟩ hk ⟨h1, h2, h3, h4, h5⟩
    have h1 : x1 = nI (pa k) := h1
    have h2 : x2 = nI (D - k) + (-1) := h2
    subst h1 h2
    have h3 : I2 19 0 = nI k := h3
    have h4 : ∀ i, i < k → I2 18 i = nI (vv i + 1) := h4
    have h5 : ∀ k, k ≠ 18 → k ≠ 19 → I2 k = I1 k := h5
    have h6 : ∀ k, k ≠ 18 → k ≠ 19 → k ≠ 20 → I2 k = I k := fun k q1 q2 q3 => (h5 k q1 q2).trans (a3 k q3)
    have hR : HR I2 W n u l bk := HR_frame h (h6 0 (by decide) (by decide) (by decide)) (h6 1 (by decide) (by decide) (by decide)) (h6 2 (by decide) (by decide) (by decide)) (h6 5 (by decide) (by decide) (by decide)) (h6 6 (by decide) (by decide) (by decide))
    obtain ⟨p1, p2, p3⟩ := hp k (by omega)
    obtain ⟨p4, p5, p6⟩ := p3 hk
    have eD : nI (D - k) + (-1) = nI (D - 1 - k) := by
      rw [show D - k = (D - 1 - k) + 1 by omega]; exact pk_m1 _
    have hle := least_eq hR hd16 (fun e he => by rw [h5 20 (by decide) (by decide)]; exact a2 e he) p1 (show D - 1 - k ≤ 16 by omega) p4 p5 p6
    refine ⟨(nI (pa (k + 1)), nI (D - (k + 1)) + (-1), sV (sI I2 18 k (nI (vv k + 1))) 19 (nI (k + 1))), ?_, rfl, rfl, sV_same (I := sI I2 18 k (nI (vv k + 1))) (k := 19) (x := nI (k + 1)) (j := 0), ?_, ?_⟩
    · show fm_S_trace_B24 (nI (pa k)) (nI (D - k) + (-1)) I2 = _
      unfold fm_S_trace_B24
      rw [eD, if_neg (nI_pos (by omega)), hle, c_ob1, if_neg (fun q => absurd (show nI (vv k) < 0 by rw [q]; decide) (nI_pos (by omega))), h3, c_in (show k < 16 by omega) (by decide), c_gr, c_cl (by omega), bnd_eq, sI_ne (k' := 19) (by decide), h3, c_1, c_1, bnd_eq, c_in (show vv k < 400 by omega) (by decide), c_gr, c_cl (by omega), sV_ne (by decide), sI_ne (by decide), (hR.2.2.2.2 _ p4).2.1, bnd_eq, bnd_eq, hpv, show D - (k + 1) = D - 1 - k by omega]
    · intro i hi
      show sV (sI I2 18 k (nI (vv k + 1))) 19 (nI (k + 1)) 18 i = _
      rw [sV_ne (by decide)]
      by_cases q : i = k
      · subst q; exact sI_same
      · rw [sI_idx q]; exact h4 i (by omega)
    · intro k' q1 q2
      show sV (sI I2 18 k (nI (vv k + 1))) 19 (nI (k + 1)) k' = _
      rw [sV_ne q2, sI_ne q1]; exact h5 k' q1 q2) (by
    intro ⟨x1, x2, I2⟩ ⟨h1, h2, _⟩
    have h1 : x1 = nI (pa D) := h1
    have h2 : x2 = nI (D - D) + (-1) := h2
    subst h1 h2
    rw [Nat.sub_self]
    rfl) (z0 := (nI e0, nI D - 1, sV I1 19 0)) ⟨by rw [hp0], by rw [Nat.sub_zero]; exact Int32.sub_eq_add_neg .. , sV_same (I := I1) (k := 19) (x := 0) (j := 0), fun i hi => absurd hi (Nat.not_lt_zero _), fun k q1 q2 => sV_ne q2⟩
  obtain ⟨x1, x2, I2⟩ := z
  refine ⟨I2, ?_, b4, b5, fun k q1 q2 q3 => (b6 k q1 q2).trans (a3 k q3)⟩
  unfold fm_S_trace
  rw [a1, c_ob1, bnd_eq, c_in he (by decide), c_gr, c_cl (by omega), sV_ne (by decide), a2 e0 he, hD, bnd_eq, b1, c_ob4]
  rfl
