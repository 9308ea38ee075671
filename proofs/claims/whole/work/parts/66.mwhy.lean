/-! The reference's reason -/
/-- the reference's far, as it is on the way -/
def MF (B : Nat → Nat) (g : Nat) (F : Nat → Nat) : Prop := ∀ e, e < 16 → F e ≤ 99 ∧ (F e = 99 ∨ q_lv B g (F e) e = true)
theorem mfar_init (I : IS) {g : Nat} (hg : g < 16) : ∃ I', iter (fun z : Int32 × IS => fm_M_findWhy_B8 (nI g) z.1 z.2) FU ((0 : Int32), I) = some (1, nI 16, I') ∧ (∀ e, e < 16 → I' 14 e = nI (if e = g then 0 else 99)) ∧ (∀ k, k ≠ 14 → I' k = I k) := by
  apply for2 (fm_M_findWhy_B8 (nI g)) (fun a z => (∀ e, e < a → z 14 e = nI (if e = g then 0 else 99)) ∧ (∀ k, k ≠ 14 → z k = I k)) 16 (by decide) (I0 := I) ⟨fun e he => absurd he (Nat.not_lt_zero _), fun _ _ => rfl⟩
  · intro a I1 ha ⟨h2, h4⟩
    refine ⟨sI I1 14 a (nI (if a = g then 0 else 99)), ?_, ?_, ?_⟩
    · unfold fm_M_findWhy_B8
      rw [if_neg (n16 ha), c_in ha (by decide), c_gr, c_gr, c_cl (by omega), bnd_eq, bnd_eq, bnd_eq, bnd_eq, c_1]
      have a1 : (nI a = nI g) ↔ a = g := nI_eq (by omega) (by omega)
      by_cases q : a = g
      · rw [if_pos (a1.2 q), if_pos q]; rfl
      · rw [if_neg (fun q' => q (a1.1 q')), if_neg q]; rfl
    · intro e he
      by_cases q : e = a
      · subst q; exact sI_same
      · rw [sI_idx q]; exact h2 e (by omega)
    · intro k hk; rw [sI_ne hk]; exact h4 k hk
  · intro I1 _; rfl
theorem mfar_in {I : IS} {h W n : Nat} {u l : Nat → Nat} {bk : Nat → Bool} (hm : MR I h W n u l bk) (hh : h < 12) {g : Nat} {F0 : Nat → Nat} (h14 : ∀ e, e < 16 → I 14 e = nI (F0 e)) (hF : MF (q_v W u l bk n) g F0) : ∃ I', iter (fun z : Int32 × IS => fm_M_findWhy_B53 (nI h) z.1 z.2) FU ((0 : Int32), I) = some (1, nI n, I') ∧ (∃ F, (∀ e, e < 16 → I' 14 e = nI (F e)) ∧ MF (q_v W u l bk n) g F ∧ (∀ e, e < 16 → F e ≤ F0 e) ∧ ∀ w, w < n → q_inf W u l bk w = true → F (u w) ≤ F0 (l w) + 1) ∧ (∀ k, k ≠ 14 → I' k = I k) := by
  have hn := hm.2.2.1
  apply for2 (fm_M_findWhy_B53 (nI h)) (fun v z => (∃ F, (∀ e, e < 16 → z 14 e = nI (F e)) ∧ MF (q_v W u l bk n) g F ∧ (∀ e, e < 16 → F e ≤ F0 e) ∧ ∀ w, w < v → q_inf W u l bk w = true → F (u w) ≤ F0 (l w) + 1) ∧ (∀ k, k ≠ 14 → z k = I k)) n (by omega) (I0 := I) ⟨⟨F0, h14, hF, fun _ _ => Nat.le_refl _, fun w hw => absurd hw (Nat.not_lt_zero _)⟩, fun _ _ => rfl⟩
  · intro v I1 hv ⟨⟨F, f1, f2, f3, f4⟩, h4⟩
    have hR : MR I1 h W n u l bk := MR_frame hm (h4 1 (by decide)) (h4 2 (by decide)) (h4 3 (by decide)) (h4 4 (by decide)) (h4 5 (by decide)) (h4 6 (by decide))
    obtain ⟨g0, g1, g2, gu, gl⟩ := hR.2.2.2 v hv
    have b1 := (f2 _ gu).1
    have b2 := (f2 _ gl).1
    let c : Bool := q_inf W u l bk v && decide (F (l v) + 1 < F (u v))
    have hc : c = (q_inf W u l bk v && decide (F (l v) + 1 < F (u v))) := rfl
    have st : fm_M_findWhy_B53 (nI h) (nI v) I1 = some (0, nI (v + 1), cond c (sI I1 14 (u v) (nI (F (l v) + 1))) I1) := by
      unfold fm_M_findWhy_B53
      rw [c_in hh (by decide), c_gr, c_cl (show h < 2147483648 by omega), hR.2.1, if_neg (nI_ge hv (by omega)), m400 hh (by omega), bnd_eq, minForce_eq hR hh hv, c_ob1, c_in (show 400 * h + v < 4800 by omega) (by decide), c_gr, c_cl (show 400 * h + v < 2147483648 by omega), g0, g1, c_in gl (by decide), c_gr, c_gr, c_in gu (by decide), c_gr, c_gr, c_gr, c_gr, c_gr, c_cl (show l v < 2147483648 by omega), c_cl (show u v < 2147483648 by omega), f1 _ gl, f1 _ gu, c_1, c_1, bnd_eq, bnd_eq]
      have a1 : (nI (F (u v)) ≤ nI (F (l v) + 1)) ↔ F (u v) ≤ F (l v) + 1 := nI_leI (by omega) (by omega)
      rw [hc]
      cases q_inf W u l bk v with
      | false => rw [bI_pos]; rfl
      | true =>
        rw [bI_neg]
        by_cases q : F (u v) ≤ F (l v) + 1
        · rw [if_pos (a1.2 q), decide_eq_false (by omega)]; rfl
        · rw [if_neg (fun q' => q (a1.1 q')), decide_eq_true (by omega)]; rfl
    refine ⟨_, st, ?_, ?_⟩
    · cases hcc : c with
      | false =>
        refine ⟨F, f1, f2, f3, fun w hw hi => ?_⟩
        by_cases q : w = v
        · subst q
          rw [hc, hi, Bool.true_and] at hcc
          have := of_decide_eq_false hcc
          have := f3 _ gl
          omega
        · exact f4 w (by omega) hi
      | true =>
        rw [hc] at hcc
        obtain ⟨hi, hlt⟩ := Bool.and_eq_true_iff.1 hcc
        have hlt := of_decide_eq_true hlt
        refine ⟨fun e => if e = u v then F (l v) + 1 else F e, fun e he => ?_, fun e he => ?_, fun e he => ?_, fun w hw hi2 => ?_⟩
        · show sI I1 14 (u v) (nI (F (l v) + 1)) 14 e = nI (if e = u v then F (l v) + 1 else F e)
          by_cases q : e = u v
          · subst q; rw [sI_same, if_pos rfl]
          · rw [sI_idx q, if_neg q]; exact f1 e he
        · show (if e = u v then F (l v) + 1 else F e) ≤ 99 ∧ ((if e = u v then F (l v) + 1 else F e) = 99 ∨ q_lv _ g (if e = u v then F (l v) + 1 else F e) e = true)
          by_cases q : e = u v
          · subst q
            rw [if_pos rfl]
            refine ⟨by omega, .inr (q_lv_s.2 (.inr ⟨l v, gl, q_v_bit.2 ⟨v, hv, hi, rfl, rfl⟩, ?_⟩))⟩
            rcases (f2 _ gl).2 with q | q
            · omega
            · exact q
          · rw [if_neg q]; exact f2 e he
        · show (if e = u v then F (l v) + 1 else F e) ≤ F0 e
          by_cases q : e = u v
          · subst q; rw [if_pos rfl]; have := f3 _ gu; omega
          · rw [if_neg q]; exact f3 e he
        · show (if u w = u v then F (l v) + 1 else F (u w)) ≤ F0 (l w) + 1
          have e2 : (if u w = u v then F (l v) + 1 else F (u w)) ≤ F (u w) := by
            by_cases q : u w = u v
            · rw [if_pos q, q]; omega
            · rw [if_neg q]; exact Nat.le_refl _
          by_cases q : w = v
          · subst q; rw [if_pos rfl]; have := f3 _ gl; omega
          · have := f4 w (by omega) hi2; omega
    · intro k hk
      cases c with
      | false => exact h4 k hk
      | true => show sI I1 14 (u v) _ k = _; rw [sI_ne hk]; exact h4 k hk
  · intro I1 ⟨_, h4⟩
    unfold fm_M_findWhy_B53
    rw [c_in hh (by decide), c_gr, c_cl (show h < 2147483648 by omega), h4 3 (by decide), hm.2.1, if_pos (nI_le (Nat.le_refl _) (by omega))]
theorem mfar_eq {I : IS} {h W n : Nat} {u l : Nat → Nat} {bk : Nat → Bool} (hm : MR I h W n u l bk) (hh : h < 12) {g : Nat} (hg : g < 16) (h14 : ∀ e, e < 16 → I 14 e = nI (if e = g then 0 else 99)) : ∃ I', iter (fun z : Int32 × IS => fm_M_findWhy_B43 (nI h) z.1 z.2) FU ((0 : Int32), I) = some (1, nI 16, I') ∧ (∀ e, e < 16 → I' 14 e = nI (if q_d (q_v W u l bk n) g e ≤ 15 then q_d (q_v W u l bk n) g e else 99)) ∧ (∀ k, k ≠ 14 → I' k = I k) := by
  obtain ⟨I', h1, ⟨F, f1, f2, f3⟩, h3⟩ := for2 (fm_M_findWhy_B43 (nI h)) (fun t z => (∃ F, (∀ e, e < 16 → z 14 e = nI (F e)) ∧ MF (q_v W u l bk n) g F ∧ ∀ e f, e < 16 → f ≤ t → q_lv (q_v W u l bk n) g f e = true → F e ≤ f) ∧ (∀ k, k ≠ 14 → z k = I k)) 16 (by decide) (I0 := I) ⟨⟨fun e => if e = g then 0 else 99, h14, fun e he => by
      show (if e = g then 0 else 99) ≤ 99 ∧ ((if e = g then 0 else 99) = 99 ∨ q_lv _ g (if e = g then 0 else 99) e = true)
      by_cases q : e = g
      · subst q; rw [if_pos rfl]; exact ⟨by omega, .inr (q_beq_self e)⟩
      · rw [if_neg q]; exact ⟨by omega, .inl rfl⟩, fun e f he hf hl => by
      have : f = 0 := by omega
      subst this
      have : e = g := q_beq_eq hl
      show (if e = g then 0 else 99) ≤ 0
      rw [if_pos this]; exact Nat.le_refl _⟩, fun _ _ => rfl⟩ (by
    intro t I1 ht ⟨⟨F, f1, f2, f3⟩, h4⟩
    have hR : MR I1 h W n u l bk := MR_frame hm (h4 1 (by decide)) (h4 2 (by decide)) (h4 3 (by decide)) (h4 4 (by decide)) (h4 5 (by decide)) (h4 6 (by decide))
    obtain ⟨I2, g1, ⟨F', e1, e2, e3, e4⟩, g3⟩ := mfar_in hR hh f1 f2
    refine ⟨I2, ?_, ⟨F', e1, e2, ?_⟩, fun k hk => (g3 k hk).trans (h4 k hk)⟩
    · unfold fm_M_findWhy_B43
      rw [if_neg (n16 ht), g1, c_ob3, bnd_eq, c_1]
    · intro e f he hf hl
      cases f with
      | zero => have := f3 e 0 he (by omega) hl; have := e3 e he; omega
      | succ f =>
        rcases q_lv_s.1 hl with q | ⟨x, a1, a2, a3⟩
        · have := f3 e f he (by omega) q; have := e3 e he; omega
        · obtain ⟨w, b1, b2, b3, b4⟩ := q_v_bit.1 a2
          have c1 := e4 w b1 b2
          rw [b3, b4] at c1
          have := f3 x f a1 (by omega) a3
          omega) (fun _ _ => rfl)
  refine ⟨I', h1, fun e he => ?_, h3⟩
  rw [f1 e he]
  by_cases q : q_d (q_v W u l bk n) g e ≤ 15
  · rw [if_pos q]
    have a1 := f3 e _ he (by omega) ((q_d_le (by omega)).1 (Nat.le_refl _))
    rcases (f2 e he).2 with a2 | a2
    · omega
    · have := (q_d_le (B := q_v W u l bk n) (g := g) (e := e) (f := F e) (by omega)).2 a2
      rw [show F e = q_d (q_v W u l bk n) g e by omega]
  · rw [if_neg q]
    have a1 : q_d (q_v W u l bk n) g e = 16 := by have := q_d_16 (q_v W u l bk n) g e; omega
    rcases (f2 e he).2 with a2 | a2
    · rw [a2]
    · rw [q_d_far hg he a1] at a2; cases a2
theorem mfind_eq {I : IS} {h W n : Nat} {u l : Nat → Nat} {bk : Nat → Bool} (hm : MR I h W n u l bk) (hh : h < 12) {d : Nat → Nat} (hd : ∀ e, d e ≤ 16) (h14 : ∀ e, e < 16 → I 14 e = nI (if d e ≤ 15 then d e else 99)) {e f v : Nat} (he : e < 16) (hde : d e = f + 1) (hf : f < 15) (hv : v < n) (hp : q_on u l (q_inf W u l bk) d f e v = true) (hl : ∀ w, w < v → q_on u l (q_inf W u l bk) d f e w = false) : iter (fun z : Int32 => fm_M_findWhy_B163 (nI h) (nI e) I z) FU (0 : Int32) = some (1, nI v) := by
  have hn := hm.2.2.1
  apply find1 (g := fun z => fm_M_findWhy_B163 (nI h) (nI e) I z) (p := q_on u l (q_inf W u l bk) d f e) (n := n) (t := 0) (by omega) ?_ hv hp hl
  intro k hk
  obtain ⟨g0, g1, g2, gu, gl⟩ := hm.2.2.2 k hk
  show fm_M_findWhy_B163 (nI h) (nI e) I (nI k) = _
  unfold fm_M_findWhy_B163
  rw [minForce_eq hm hh hk, c_ob1, m400 hh (by omega), c_in (show 400 * h + k < 4800 by omega) (by decide), c_gr, c_cl (show 400 * h + k < 2147483648 by omega), g0, g1, c_gr, c_in gl (by decide), c_gr, c_in he (by decide), c_gr, c_cl (show l k < 2147483648 by omega), c_cl (show e < 2147483648 by omega), h14 _ gl, h14 _ he, hde, if_pos (show f + 1 ≤ 15 by omega), nI_pred, bnd_eq, c_1]
  unfold q_on
  have a1 : (nI (u k) = nI e) ↔ u k = e := nI_eq (by omega) (by omega)
  have a2 : (nI (if d (l k) ≤ 15 then d (l k) else 99) = nI f) ↔ d (l k) = f := by
    by_cases q : d (l k) ≤ 15
    · rw [if_pos q, nI_eq (by omega) (by omega)]
    · rw [if_neg q, nI_eq (by omega) (by omega)]; omega
  cases q_inf W u l bk k with
  | false => rw [bI_pos]; simp
  | true =>
    rw [bI_neg]
    by_cases q1 : u k = e
    · rw [if_pos (a1.2 q1)]
      by_cases q2 : d (l k) = f
      · rw [if_pos (a2.2 q2), q1, q2, q_beq_self, q_beq_self]; rfl
      · rw [if_neg (fun q => q2 (a2.1 q)), q_beq_ne q2]; simp [bnd_eq]
    · rw [if_neg (fun q => q1 (a1.1 q)), q_beq_ne q1]; rfl
theorem mwhy_eq {I : IS} {h W n : Nat} {u l : Nat → Nat} {bk : Nat → Bool} (hm : MR I h W n u l bk) (hh : h < 12) {g e0 D : Nat} (hg : g < 16) (he : e0 < 16) (hD : q_d (q_v W u l bk n) g e0 = D) (hD15 : D ≤ 15) : ∃ I', fm_M_findWhy (nI h) (nI e0) (nI g) I = some I' ∧ I' 12 0 = nI D ∧ (∀ i, i < D → I' 13 i = nI (q_vv u l (q_inf W u l bk) (q_d (q_v W u l bk n) g) n D e0 i + 1)) ∧ (∀ k, k ≠ 12 → k ≠ 13 → k ≠ 14 → I' k = I k) := by
  have hn := hm.2.2.1
  have hl : ∀ v, v < n → l v < 16 := fun v hv => (hm.2.2.2 v hv).2.2.2.2
  obtain ⟨I1, a1, a2, a3⟩ := mfar_init (sV I 12 0) hg
  have f1 : ∀ k, k ≠ 12 → k ≠ 14 → I1 k = I k := fun k q1 q2 => by rw [a3 k q2, sV_ne q1]
  have hm1 : MR I1 h W n u l bk := MR_frame hm (f1 1 (by decide) (by decide)) (f1 2 (by decide) (by decide)) (f1 3 (by decide) (by decide)) (f1 4 (by decide) (by decide)) (f1 5 (by decide) (by decide)) (f1 6 (by decide) (by decide))
  obtain ⟨I2, b1, b2, b3⟩ := mfar_eq hm1 hh hg a2
  have f2 : ∀ k, k ≠ 12 → k ≠ 14 → I2 k = I k := fun k q1 q2 => (b3 k q2).trans (f1 k q1 q2)
  have hp := q_pa_ok (W := W) (bk := bk) (u := u) (g := g) hl he hD hD15
  have hg0 : ∀ e, q_d (q_v W u l bk n) g e = 0 ↔ e = g := fun e => q_d_0
  generalize hd : q_d (q_v W u l bk n) g = d at b2 hp hD hg0 ⊢
  have hd16 : ∀ e, d e ≤ 16 := fun e => by rw [← hd]; exact q_d_16 _ _ _
  generalize hpa : q_pa u l (q_inf W u l bk) d n D e0 = pa at hp
  generalize hvv : q_vv u l (q_inf W u l bk) d n D e0 = vv at hp ⊢
  have hpv : ∀ k, pa (k + 1) = l (vv k) := fun k => by rw [← hpa, ← hvv]; rfl
  have hp0 : pa 0 = e0 := by rw [← hpa]; rfl
  obtain ⟨z, c1, c2, c3, c4, c5⟩ := iter_for (step := fun z : Int32 × IS => fm_M_findWhy_B154 (nI h) (nI g) z.1 z.2) (fun k z => z.1 = nI (pa k) ∧ z.2 12 0 = nI k ∧ (∀ i, i < k → z.2 13 i = nI (vv i + 1)) ∧ (∀ k, k ≠ 12 → k ≠ 13 → z.2 k = I2 k)) D (by omega) (by
    intro k ⟨x1, I3⟩ hk ⟨h1, h3, h4, h5⟩
    have h1 : x1 = nI (pa k) := h1
    subst h1
    have h3 : I3 12 0 = nI k := h3
    have h4 : ∀ i, i < k → I3 13 i = nI (vv i + 1) := h4
    have h5 : ∀ k, k ≠ 12 → k ≠ 13 → I3 k = I2 k := h5
    have h6 : ∀ k, k ≠ 12 → k ≠ 13 → k ≠ 14 → I3 k = I k := fun k q1 q2 q3 => (h5 k q1 q2).trans (f2 k q1 q3)
    have hR : MR I3 h W n u l bk := MR_frame hm (h6 1 (by decide) (by decide) (by decide)) (h6 2 (by decide) (by decide) (by decide)) (h6 3 (by decide) (by decide) (by decide)) (h6 4 (by decide) (by decide) (by decide)) (h6 5 (by decide) (by decide) (by decide)) (h6 6 (by decide) (by decide) (by decide))
    obtain ⟨p1, p2, p3⟩ := hp k (by omega)
    obtain ⟨p4, p5, p6⟩ := p3 hk
    have hne : ¬ nI (pa k) = nI g := by
      rw [nI_eq (by omega) (by omega)]
      intro q
      have := (hg0 (pa k)).2 q
      omega
    have hle := mfind_eq hR hh hd16 (fun e he => by rw [h5 14 (by decide) (by decide)]; exact b2 e he) p1 (show d (pa k) = (D - 1 - k) + 1 by omega) (by omega) p4 p5 p6
    refine ⟨(nI (pa (k + 1)), sV (sI I3 13 k (nI (vv k + 1))) 12 (nI (k + 1))), ?_, rfl, sV_same (I := sI I3 13 k (nI (vv k + 1))) (k := 12) (x := nI (k + 1)) (j := 0), ?_, ?_⟩
    · show fm_M_findWhy_B154 (nI h) (nI g) (nI (pa k)) I3 = _
      unfold fm_M_findWhy_B154
      rw [if_neg hne, hle, c_ob2, h3, c_in (show k < 16 by omega) (by decide), c_gr, c_cl (by omega), bnd_eq, sI_ne (k' := 12) (by decide), h3, c_1, c_1, bnd_eq, m400 hh (by omega), c_in (show 400 * h + vv k < 4800 by omega) (by decide), c_gr, c_cl (by omega), sV_ne (by decide), sI_ne (by decide), (hR.2.2.2 _ p4).2.1, bnd_eq, hpv]
    · intro i hi
      show sV (sI I3 13 k (nI (vv k + 1))) 12 (nI (k + 1)) 13 i = _
      rw [sV_ne (by decide)]
      by_cases q : i = k
      · subst q; exact sI_same
      · rw [sI_idx q]; exact h4 i (by omega)
    · intro k' q1 q2
      show sV (sI I3 13 k (nI (vv k + 1))) 12 (nI (k + 1)) k' = _
      rw [sV_ne q1, sI_ne q2]; exact h5 k' q1 q2) (by
    intro ⟨x1, I3⟩ ⟨h1, _⟩
    have h1 : x1 = nI (pa D) := h1
    subst h1
    have e1 : pa D = g := (hg0 _).1 (by have := (hp D (Nat.le_refl _)).2.1; omega)
    show fm_M_findWhy_B154 (nI h) (nI g) (nI (pa D)) I3 = _
    unfold fm_M_findWhy_B154
    rw [if_pos (by rw [e1])]) (z0 := (nI e0, I2)) ⟨by rw [hp0], by show I2 12 0 = _; rw [b3 12 (by decide), a3 12 (by decide)]; exact sV_same, fun i hi => absurd hi (Nat.not_lt_zero _), fun k q1 q2 => rfl⟩
  obtain ⟨x1, I3⟩ := z
  refine ⟨I3, ?_, c3, c4, fun k q1 q2 q3 => (c5 k q1 q2).trans (f2 k q1 q3)⟩
  unfold fm_M_findWhy
  rw [bnd_eq, a1, c_ob3, b1, c_ob3, c1, c_ob3]
