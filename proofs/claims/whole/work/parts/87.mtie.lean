/-! The reference's widest tie, and the entries of a tie -/
theorem and_0 {w s : Nat} : (w &&& s = 0) ↔ ∀ i, w.testBit i = true → s.testBit i = false := by
  constructor
  · intro h i hw
    have : (w &&& s).testBit i = false := by rw [h]; exact Nat.zero_testBit i
    rw [Nat.testBit_and, hw, Bool.true_and] at this
    exact this
  · intro h
    apply mask_ext
    intro i
    rw [Nat.testBit_and, Nat.zero_testBit]
    cases hw : w.testBit i with
    | false => rfl
    | true => rw [h i hw]; rfl
theorem apart_eq {Bm : Nat → Nat} {s : Nat} {I : IS} (h9 : ∀ a, a < 16 → I 9 a = nI (Bm a) ∧ Bm a < 2 ^ 16) (hs : s < 2 ^ 16) : ∃ r : Bool, fm_M_apart (nI s) I = some (bI r) ∧ (r = true ↔ q_A (q_Bm Bm) (q_Lm s)) := by
  have hA : q_A (q_Bm Bm) (q_Lm s) ↔ ∀ a, a < 16 → s.testBit a = true → Bm a &&& s = 0 := by
    constructor
    · intro h a ha hsa
      apply and_0.mpr
      intro i hi
      cases hsi : s.testBit i with
      | false => rfl
      | true =>
        have hi16 : i < 16 := by
          apply Nat.lt_of_not_le
          intro q
          rw [mask_hi hs q] at hsi; cases hsi
        have := h a i ha hi16 hsa hsi
        rw [show (Bm a).testBit i = false from this] at hi; cases hi
    · intro h a b ha hb h1 h2
      cases hB : q_Bm Bm a b with
      | false => rfl
      | true =>
        have := and_0.mp (h a ha h1) b hB
        rw [show s.testBit b = true from h2] at this; cases this
  have step : ∀ k, k < 16 → fm_M_apart_B2 (nI s) I (nI k) = some (cond (!(s.testBit k && !(decide (Bm k &&& s = 0)))) (0, nI (k + 1)) (2, nI k)) := by
    intro k hk
    have h9k := (h9 k hk).2
    have hlt : Bm k &&& s < 2 ^ 16 := Nat.lt_of_le_of_lt Nat.and_le_right hs
    unfold fm_M_apart_B2
    rw [if_neg (n16 hk), c_in hk (by decide), c_gr, c_cl (by omega), (h9 k hk).1, m_and, bnd_eq, c_1]
    cases hsk : s.testBit k with
    | false => rw [if_neg (fun q => by rw [(m_bit1 (by omega) (by omega)).mp q] at hsk; cases hsk)]; rfl
    | true =>
      rw [if_pos ((m_bit1 (by omega) (by omega)).mpr hsk)]
      by_cases h0 : Bm k &&& s = 0
      · rw [if_pos (by rw [h0]; rfl), decide_eq_true h0]; rfl
      · rw [if_neg (by rw [nI0_eq (by omega)]; exact h0), decide_eq_false h0]; rfl
  unfold fm_M_apart
  rcases q_first (p := fun k => !(s.testBit k && !(decide (Bm k &&& s = 0)))) 16 with h | ⟨v, h1, h2, h3⟩
  · refine ⟨true, ?_, ?_⟩
    · rw [iter_st (fun k => nI k) 16 0 (z := nI 16) (z0 := (0 : Int32)) (by omega) rfl]
      · rfl
      · intro k hk
        show fm_M_apart_B2 (nI s) I (nI k) = _
        rw [step k hk, h k hk]; rfl
      · show fm_M_apart_B2 (nI s) I (nI 16) = _
        unfold fm_M_apart_B2
        rw [if_pos (by decide)]
    · rw [hA]
      refine ⟨fun _ a ha hsa => ?_, fun _ => rfl⟩
      have := h a ha
      rw [hsa, Bool.true_and, Bool.not_not] at this
      exact of_decide_eq_true this
  · refine ⟨false, ?_, ?_⟩
    · rw [iter_st (fun k => nI k) v 1 (z := nI v) (z0 := (0 : Int32)) (by omega) rfl]
      · rfl
      · intro k hk
        show fm_M_apart_B2 (nI s) I (nI k) = _
        rw [step k (by omega), h3 k hk]; rfl
      · show fm_M_apart_B2 (nI s) I (nI v) = _
        rw [step v h1, h2]; rfl
    · rw [hA]
      refine ⟨fun q => (by cases q), fun q => ?_⟩
      have h2' : (s.testBit v && !(decide (Bm v &&& s = 0))) = true := by
        cases hx : (s.testBit v && !(decide (Bm v &&& s = 0))) with
        | true => rfl
        | false => rw [hx] at h2; cases h2
      obtain ⟨g1, g2⟩ := Bool.and_eq_true_iff.1 h2'
      rw [decide_eq_true (q v h1 g1)] at g2; cases g2
/-- s has the first entry in which they differ -/
def q_er (s t : Nat) : Prop := ∃ a, a < 16 ∧ s.testBit a = true ∧ t.testBit a = false ∧ ∀ i, i < a → s.testBit i = t.testBit i
theorem earlier_eq {s t : Nat} (hs : s < 2 ^ 16) (ht : t < 2 ^ 16) : ∃ r : Bool, fm_M_earlier (nI s) (nI t) = some (bI r) ∧ (r = true ↔ q_er s t) ∧ (r = false → s = t ∨ q_er t s) := by
  have hx : s ^^^ t < 2 ^ 16 := Nat.xor_lt_two_pow hs ht
  have hxb : ∀ k, (s ^^^ t).testBit k = (s.testBit k ^^ t.testBit k) := fun k => Nat.testBit_xor ..
  have step : ∀ k, k < 16 → fm_M_earlier_B6 (nI (s ^^^ t)) (nI k) = some (cond (!((s ^^^ t).testBit k)) (0, nI (k + 1)) (2, nI k)) := by
    intro k hk
    unfold fm_M_earlier_B6
    rw [if_neg (n16 hk), bnd_eq, c_1]
    cases hsk : (s ^^^ t).testBit k with
    | false => rw [if_neg (fun q => by rw [(m_bit1 (by omega) (by omega)).mp q] at hsk; cases hsk)]; rfl
    | true => rw [if_pos ((m_bit1 (by omega) (by omega)).mpr hsk)]; rfl
  unfold fm_M_earlier
  rw [bnd_eq, m_xor]
  rcases q_first (p := fun k => !((s ^^^ t).testBit k)) 16 with h | ⟨v, h1, h2, h3⟩
  · have he : s = t := by
      apply mask_ext
      intro i
      by_cases hi : i < 16
      · have := h i hi
        rw [hxb] at this
        revert this
        cases s.testBit i <;> cases t.testBit i <;> simp
      · rw [mask_hi hs (by omega), mask_hi ht (by omega)]
    refine ⟨false, ?_, ⟨fun q => (by cases q), fun ⟨a, _, q1, q2, _⟩ => by rw [he, q2] at q1; cases q1⟩, fun _ => .inl he⟩
    rw [iter_st (fun k => nI k) 16 0 (z := nI 16) (z0 := (0 : Int32)) (by omega) rfl]
    · rfl
    · intro k hk
      show fm_M_earlier_B6 (nI (s ^^^ t)) (nI k) = _
      rw [step k hk, h k hk]; rfl
    · show fm_M_earlier_B6 (nI (s ^^^ t)) (nI 16) = _
      unfold fm_M_earlier_B6
      rw [if_pos (by decide)]
  · have hv : (s.testBit v ^^ t.testBit v) = true := by
      rw [hxb] at h2
      revert h2
      cases s.testBit v <;> cases t.testBit v <;> simp
    have hlo : ∀ i, i < v → s.testBit i = t.testBit i := by
      intro i hi
      have := h3 i hi
      rw [hxb] at this
      revert this
      cases s.testBit i <;> cases t.testBit i <;> simp
    have hit : iter (fun z : Int32 => fm_M_earlier_B6 (nI (s ^^^ t)) z) FU (0 : Int32) = some (2, nI v) := by
      apply iter_st (fun k => nI k) v 1 (by omega) rfl
      · intro k hk
        show fm_M_earlier_B6 (nI (s ^^^ t)) (nI k) = _
        rw [step k (by omega), h3 k hk]; rfl
      · show fm_M_earlier_B6 (nI (s ^^^ t)) (nI v) = _
        rw [step v h1, h2]; rfl
    rw [hit, c_ob2, if_neg (by decide)]
    cases hsv : s.testBit v with
    | true =>
      have htv : t.testBit v = false := by rw [hsv] at hv; revert hv; cases t.testBit v <;> simp
      rw [if_pos ((m_bit1 (by omega) (by omega)).mpr hsv)]
      exact ⟨true, rfl, ⟨fun _ => ⟨v, h1, hsv, htv, hlo⟩, fun _ => rfl⟩, fun q => (by cases q)⟩
    | false =>
      have htv : t.testBit v = true := by rw [hsv] at hv; revert hv; cases t.testBit v <;> simp
      rw [if_neg (fun q => by rw [(m_bit1 (by omega) (by omega)).mp q] at hsv; cases hsv)]
      refine ⟨false, rfl, ⟨fun q => (by cases q), fun ⟨a, a1, a2, a3, a4⟩ => ?_⟩, fun _ => .inr ⟨v, h1, htv, hsv, fun i hi => (hlo i hi).symm⟩⟩
      rcases Nat.lt_trichotomy a v with q | q | q
      · rw [hlo a q, a3] at a2; cases a2
      · subst q; rw [hsv] at a2; cases a2
      · have := a4 v q; rw [hsv, htv] at this; cases this
theorem q_er_tr {s t r : Nat} (h1 : q_er s t) (h2 : q_er t r) : q_er s r := by
  obtain ⟨a, a1, a2, a3, a4⟩ := h1
  obtain ⟨b, b1, b2, b3, b4⟩ := h2
  rcases Nat.lt_trichotomy a b with q | q | q
  · exact ⟨a, a1, a2, by rw [← b4 a q]; exact a3, fun i hi => by rw [a4 i hi, b4 i (by omega)]⟩
  · subst q; rw [b2] at a3; cases a3
  · exact ⟨b, b1, by rw [a4 b q]; exact b2, b3, fun i hi => by rw [a4 i (by omega), b4 i hi]⟩
/-- a set of sixteen as a number -/
def q_mk (p : Nat → Bool) : Nat → Nat
  | 0 => 0
  | n + 1 => cond (p n) (q_mk p n ||| 2 ^ n) (q_mk p n)
theorem q_mk_bit (p : Nat → Bool) : ∀ n i, (q_mk p n).testBit i = (p i && decide (i < n))
  | 0, i => by show Nat.testBit 0 i = _; rw [Nat.zero_testBit, decide_eq_false (Nat.not_lt_zero i), Bool.and_false]
  | n + 1, i => by
    show (cond (p n) (q_mk p n ||| 2 ^ n) (q_mk p n)).testBit i = _
    by_cases e : i = n
    · subst e
      rw [decide_eq_true (by omega : i < i + 1), Bool.and_true]
      cases hp : p i with
      | true => show (q_mk p i ||| 2 ^ i).testBit i = true; rw [q_or_bit, q_beq_self, Bool.or_true]
      | false => show (q_mk p i).testBit i = false; rw [q_mk_bit p i i, hp, Bool.false_and]
    · have e2 : decide (i < n + 1) = decide (i < n) := decide_eq_decide.mpr ⟨fun _ => by omega, fun _ => by omega⟩
      rw [e2]
      cases hp : p n with
      | true => show (q_mk p n ||| 2 ^ n).testBit i = _; rw [q_or_bit, q_beq_ne e, Bool.or_false]; exact q_mk_bit p n i
      | false => exact q_mk_bit p n i
/-- the best of the sets below s -/
def q_bs (B : Nat → Nat → Bool) (W s T : Nat) : Prop := q_sub T W ∧ q_A B (q_Lm T) ∧ ∀ s', s' < s → q_sub s' W → q_A B (q_Lm s') → q_pop s' < q_pop T ∨ (q_pop s' = q_pop T ∧ (T = s' ∨ q_er T s'))
theorem q_bs_0 {B : Nat → Nat → Bool} (W : Nat) : q_bs B W (0 + 1) 0 := by
  refine ⟨q_sub_0 W, fun a b _ _ q => ?_, fun s' hs' _ _ => ?_⟩
  · rw [show q_Lm 0 a = false from Nat.zero_testBit a] at q; cases q
  · have : s' = 0 := by omega
    subst this
    exact .inr ⟨rfl, .inl rfl⟩
theorem q_bs_T {B : Nat → Nat → Bool} {W T : Nat} (hW : W < 2 ^ 16) (h : q_bs B W (W + 1) T) : q_T B (q_Lm W) (q_Lm T) := by
  obtain ⟨h1, h2, h3⟩ := h
  have key : ∀ X : Nat → Bool, (∀ i, i < 16 → X i = true → q_Lm W i = true) → q_A B X → ∃ s', (∀ i, i < 16 → s'.testBit i = X i) ∧ q_pop s' = q_c X ∧ (q_pop s' < q_pop T ∨ (q_pop s' = q_pop T ∧ (T = s' ∨ q_er T s'))) := by
    intro X hX hA
    have hb : ∀ i, i < 16 → (q_mk X 16).testBit i = X i := fun i hi => by rw [q_mk_bit, decide_eq_true hi, Bool.and_true]
    have hs : q_sub (q_mk X 16) W := fun i hi => by
      rw [q_mk_bit] at hi
      obtain ⟨q1, q2⟩ := Bool.and_eq_true_iff.1 hi
      exact hX i (of_decide_eq_true q2) q1
    refine ⟨q_mk X 16, hb, q_c_congr hb, h3 _ (by have := q_sub_le hs; omega) hs (q_A_congr (fun i hi => (hb i hi).symm) hA)⟩
  refine ⟨fun i _ hi => h1 i hi, h2, ⟨⟨q_Lm T, fun i _ hi => h1 i hi, h2, rfl⟩, fun X hX hA => ?_⟩, fun X hX hA hc => ?_⟩
  · obtain ⟨s', _, q1, q2⟩ := key X hX hA
    have : q_c (q_Lm T) = q_pop T := rfl
    omega
  · obtain ⟨s', q0, q1, q2⟩ := key X hX hA
    have hT : q_c (q_Lm T) = q_pop T := rfl
    rcases q2 with q2 | ⟨_, q2 | ⟨a, a1, a2, a3, a4⟩⟩
    · omega
    · right; intro i hi; show T.testBit i = _; rw [q2, q0 i hi]
    · left
      exact ⟨a, a1, a2, by rw [← q0 a a1]; exact a3, fun i hi => by rw [← q0 i (by omega)]; exact a4 i hi⟩
theorem mwid_eq {Bm : Nat → Nat} {W : Nat} {I : IS} (h8 : I 8 0 = nI W) (hW : W < 2 ^ 16) (h9 : ∀ a, a < 16 → I 9 a = nI (Bm a) ∧ Bm a < 2 ^ 16) (h20 : I 20 0 = 0) : ∃ x T I', iter (fun z : Int32 × Int32 × IS => fm_M_widest_B14 z.1 z.2.1 z.2.2) FU ((0 : Int32), (1 : Int32), I) = some (1, x, nI (W + 1), I') ∧ T < 2 ^ 16 ∧ I' 20 0 = nI T ∧ q_T (q_Bm Bm) (q_Lm W) (q_Lm T) ∧ (∀ k, k ≠ 20 → I' k = I k) := by
  obtain ⟨⟨x, y, I'⟩, e1, T, e2, e3, e4, e5⟩ := iter_for (step := fun z : Int32 × Int32 × IS => fm_M_widest_B14 z.1 z.2.1 z.2.2) (z0 := ((0 : Int32), (1 : Int32), I))
    (fun k z => ∃ T, z = (nI (q_pop T), nI (k + 1), z.2.2) ∧ q_bs (q_Bm Bm) W (k + 1) T ∧ z.2.2 20 0 = nI T ∧ (∀ k', k' ≠ 20 → z.2.2 k' = I k')) W (by omega) (by
      intro k ⟨x, y, I1⟩ hk ⟨T, e, hb, hT, hf⟩
      have ex : x = nI (q_pop T) := congrArg (fun z => z.1) e
      have ey : y = nI (k + 1) := congrArg (fun z => z.2.1) e
      subst ex ey
      replace hT : I1 20 0 = nI T := hT
      replace hf : ∀ k', k' ≠ 20 → I1 k' = I k' := hf
      generalize hs : k + 1 = s at *
      have hs16 : s < 2 ^ 16 := by omega
      have hT16 : T < 2 ^ 16 := q_sub_lt hW hb.1
      have hpT := q_pop_16 T
      have hps := q_pop_16 s
      have h91 : ∀ a, a < 16 → I1 9 a = nI (Bm a) ∧ Bm a < 2 ^ 16 := fun a ha => by rw [hf 9 (by decide)]; exact h9 a ha
      have keep : ((q_sub s W → q_A (q_Bm Bm) (q_Lm s) → q_pop s < q_pop T ∨ (q_pop s = q_pop T ∧ (T = s ∨ q_er T s))) → q_bs (q_Bm Bm) W (s + 1) T) := by
        intro h
        refine ⟨hb.1, hb.2.1, fun s' hs' h1 h2 => ?_⟩
        by_cases q : s' = s
        · subst q; exact h h1 h2
        · exact hb.2.2 s' (by omega) h1 h2
      show ∃ z', fm_M_widest_B14 (nI (q_pop T)) (nI s) I1 = some (0, z') ∧ _
      unfold fm_M_widest_B14
      rw [hf 8 (by decide), h8, if_neg (nI_nlt (by omega) (by omega)), m_dif, c_1]
      simp only [bnd_eq]
      have hd0 : (nI (dif s W) = 0) ↔ q_sub s W := by
        have hdl := dif_le s W
        rw [nI0_eq (by omega), dif_0 (by omega), q_and_sub]
      by_cases hsub : q_sub s W
      · rw [if_pos (hd0.mpr hsub)]
        obtain ⟨r, r1, r2⟩ := apart_eq (s := s) h91 hs16
        rw [r1, c_ob1]
        cases r with
        | false =>
          rw [bI_pos]
          exact ⟨_, rfl, T, rfl, keep (fun _ q => by have := r2.mpr q; cases this), hT, hf⟩
        | true =>
          have hA := r2.mp rfl
          rw [bI_neg, mbits_eq (by omega), c_ob1]
          have hnew : q_pop T ≤ q_pop s → (q_pop T = q_pop s → q_er s T ∨ s = T) → q_bs (q_Bm Bm) W (s + 1) s := by
            intro h1 h2
            refine ⟨hsub, hA, fun s' hs' g1 g2 => ?_⟩
            by_cases q : s' = s
            · subst q; exact .inr ⟨rfl, .inl rfl⟩
            · rcases hb.2.2 s' (by omega) g1 g2 with q1 | ⟨q1, q2⟩
              · left; omega
              · by_cases q3 : q_pop T = q_pop s
                · right
                  refine ⟨by omega, ?_⟩
                  rcases h2 q3 with q4 | q4
                  · rcases q2 with q2 | q2
                    · subst q2; exact .inr q4
                    · exact .inr (q_er_tr q4 q2)
                  · subst q4; exact q2
                · left; omega
          by_cases hlt : q_pop T < q_pop s
          · rw [if_pos (nI_lt hlt (by omega))]
            refine ⟨_, rfl, s, rfl, hnew (by omega) (fun q => by omega), sV_same (I := I1) (k := 20) (x := nI s) (j := 0), fun k' hk' => ?_⟩
            show sV I1 20 (nI s) k' = _
            rw [sV_ne hk']; exact hf k' hk'
          · rw [if_neg (nI_nlt (by omega) (by omega))]
            by_cases heq : q_pop s = q_pop T
            · rw [if_pos (by rw [heq]), hT]
              obtain ⟨r, t1, t2, t3⟩ := earlier_eq hs16 hT16
              rw [t1, c_ob1]
              cases r with
              | false =>
                rw [bI_pos]
                exact ⟨_, rfl, T, rfl, keep (fun _ _ => .inr ⟨heq, (t3 rfl).elim (fun q => .inl q.symm) .inr⟩), hT, hf⟩
              | true =>
                rw [bI_neg]
                refine ⟨_, rfl, s, rfl, hnew (by omega) (fun _ => .inl (t2.mp rfl)), sV_same (I := I1) (k := 20) (x := nI s) (j := 0), fun k' hk' => ?_⟩
                show sV I1 20 (nI s) k' = _
                rw [sV_ne hk']; exact hf k' hk'
            · rw [if_neg (fun q => heq ((nI_eq (by omega) (by omega)).mp q))]
              exact ⟨_, rfl, T, rfl, keep (fun _ _ => .inl (by omega)), hT, hf⟩
      · rw [if_neg (fun q => hsub (hd0.mp q))]
        exact ⟨_, rfl, T, rfl, keep (fun q => absurd q hsub), hT, hf⟩) (by
      intro ⟨x, y, I1⟩ ⟨T, e, _, _, hf⟩
      have ey : y = nI (W + 1) := congrArg (fun z => z.2.1) e
      subst ey
      replace hf : ∀ k', k' ≠ 20 → I1 k' = I k' := hf
      show fm_M_widest_B14 x (nI (W + 1)) I1 = _
      unfold fm_M_widest_B14
      rw [hf 8 (by decide), h8, if_pos (nI_lt (by omega) (by omega))]) ⟨0, (by show _ = (nI (q_pop 0), _, _); rw [q_pop_0]; rfl), q_bs_0 W, h20, fun _ _ => rfl⟩
  have ey : y = nI (W + 1) := congrArg (fun z => z.2.1) e2
  subst ey
  exact ⟨x, T, I', e1, q_sub_lt hW e3.1, e4, q_bs_T hW e3, e5⟩
theorem tied_both {C i : Nat} {I IM : IS} (hC : C < 2 ^ 16) (hi : i < 2147483648) (h11 : I 11 0 = nI C) (h20 : IM 20 0 = nI C) : ∃ r, fm_R_tied (nI i) I = some r ∧ ob3 (iter (fun z : Int32 × Int32 => fm_M_tieEntry_B29 (nI i) IM z.1 z.2) FU ((0 : Int32), (0 : Int32))) (fun tg73 x74 x75 => if tg73 = 1 then some ((-1 : Int32), IM) else some (x75, IM)) = some (r, IM) := by
  let c : Nat → Nat := fun a => q_cn (fun j => C.testBit j) a
  have cs : ∀ a, c (a + 1) = c a + q_b (C.testBit a) := fun a => rfl
  have c16 : ∀ a, a ≤ 16 → c a ≤ 16 := fun a ha => Nat.le_trans (q_cn_max _ a) ha
  let p : Nat → Bool := fun a => !(C.testBit a && decide (c a = i))
  have hle : ∀ a, (∀ j, j < a → p j = true) → c a ≤ i := by
    intro a
    induction a with
    | zero => intro _; exact Nat.zero_le _
    | succ a ih =>
      intro h
      have h1 := ih (fun j hj => h j (by omega))
      rw [cs]
      cases hb : C.testBit a with
      | false => exact h1
      | true =>
        have : p a = true := h a (by omega)
        have h2 : ¬ c a = i := by
          intro q
          have : (!(C.testBit a && decide (c a = i))) = true := this
          rw [hb, decide_eq_true q] at this; cases this
        show c a + 1 ≤ i
        omega
  have s1 : ∀ k, k < 16 → c k ≤ i → fm_R_tied_B4 I (nI (i - c k)) (nI k) = some (cond (p k) (0, nI (i - c (k + 1)), nI (k + 1)) (2, nI (i - c k), nI k)) := by
    intro k hk hc
    have hpk : p k = !(C.testBit k && decide (c k = i)) := rfl
    unfold fm_R_tied_B4
    rw [if_neg (n16 hk), h11, holds_b (by omega) (by omega), c_ob1, cs, hpk]
    cases hb : C.testBit k with
    | false => rw [bI_pos, bnd_eq, c_1]; rfl
    | true =>
      rw [bI_neg]
      by_cases h : c k = i
      · rw [if_pos (by rw [h, Nat.sub_self]; rfl), decide_eq_true h]; rfl
      · rw [if_neg (by rw [nI0_eq (by omega)]; omega), decide_eq_false h, bnd_eq, bnd_eq, c_1, show i - c k = (i - (c k + 1)) + 1 by omega, pk_m1]; rfl
  have s2 : ∀ k, k < 16 → fm_M_tieEntry_B29 (nI i) IM (nI (c k)) (nI k) = some (cond (p k) (0, nI (c (k + 1)), nI (k + 1)) (2, nI (c k), nI k)) := by
    intro k hk
    have hpk : p k = !(C.testBit k && decide (c k = i)) := rfl
    have := c16 k (by omega)
    unfold fm_M_tieEntry_B29
    rw [if_neg (n16 hk), h20, cs, hpk, c_1, c_1]
    simp only [bnd_eq]
    cases hb : C.testBit k with
    | false => rw [if_neg (fun q => by rw [(m_bit1 (by omega) (by omega)).mp q] at hb; cases hb)]; rfl
    | true =>
      rw [if_pos ((m_bit1 (by omega) (by omega)).mpr hb)]
      by_cases h : c k = i
      · rw [if_pos (by rw [h]), decide_eq_true h]; rfl
      · rw [if_neg (fun q => h ((nI_eq (by omega) (by omega)).mp q)), decide_eq_false h]; rfl
  unfold fm_R_tied
  rcases q_first (p := p) 16 with h | ⟨v, h1, h2, h3⟩
  · refine ⟨-1, ?_, ?_⟩
    · rw [iter_st (z0 := (nI i, (0 : Int32))) (fun k => (nI (i - c k), nI k)) 16 0 (z := (nI (i - c 16), nI 16)) (by omega) rfl]
      · rfl
      · intro k hk
        show fm_R_tied_B4 I (nI (i - c k)) (nI k) = _
        rw [s1 k hk (hle k (fun j hj => h j (by omega))), h k hk]; rfl
      · show fm_R_tied_B4 I (nI (i - c 16)) (nI 16) = _
        unfold fm_R_tied_B4
        rw [if_pos (by decide)]
    · rw [iter_st (z0 := ((0 : Int32), (0 : Int32))) (fun k => (nI (c k), nI k)) 16 0 (z := (nI (c 16), nI 16)) (by omega) rfl]
      · rfl
      · intro k hk
        show fm_M_tieEntry_B29 (nI i) IM (nI (c k)) (nI k) = _
        rw [s2 k hk, h k hk]; rfl
      · show fm_M_tieEntry_B29 (nI i) IM (nI (c 16)) (nI 16) = _
        unfold fm_M_tieEntry_B29
        rw [if_pos (by decide)]
  · refine ⟨nI v, ?_, ?_⟩
    · rw [iter_st (z0 := (nI i, (0 : Int32))) (fun k => (nI (i - c k), nI k)) v 1 (z := (nI (i - c v), nI v)) (by omega) rfl]
      · rfl
      · intro k hk
        show fm_R_tied_B4 I (nI (i - c k)) (nI k) = _
        rw [s1 k (by omega) (hle k (fun j hj => h3 j (by omega))), h3 k hk]; rfl
      · show fm_R_tied_B4 I (nI (i - c v)) (nI v) = _
        rw [s1 v h1 (hle v h3), h2]; rfl
    · rw [iter_st (z0 := ((0 : Int32), (0 : Int32))) (fun k => (nI (c k), nI k)) v 1 (z := (nI (c v), nI v)) (by omega) rfl]
      · rfl
      · intro k hk
        show fm_M_tieEntry_B29 (nI i) IM (nI (c k)) (nI k) = _
        rw [s2 k (by omega), h3 k hk]; rfl
      · show fm_M_tieEntry_B29 (nI i) IM (nI (c v)) (nI v) = _
        rw [s2 v h1, h2]; rfl
