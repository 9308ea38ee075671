/-! The class's search for one more pair -/
def q_Bm (Bm : Nat → Nat) (a b : Nat) : Bool := (Bm a).testBit b
def q_Lm (L : Nat) (b : Nat) : Bool := L.testBit b
theorem q_inj16 {Q : Nat → Nat} {w : Nat} (h1 : ∀ j, j < w → Q j < 16) (h2 : ∀ i j, i < w → j < w → Q i = Q j → i = j) : w ≤ 16 := by
  have h := q_cn_inj (f := Q) (n := w) (p := fun _ => true) (r := fun _ => true) (fun i hi _ => ⟨h1 i hi, rfl⟩) (fun i j hi hj _ _ e => h2 i j hi hj e)
  have h3 : q_cn (fun _ => true) w = w := by
    show q_sum (fun _ => 1) w = w
    rw [q_sum_const, Nat.mul_one]
  have h4 := q_c_16 (fun _ => true)
  omega
/-- what is known while the queue is worked off -/
def q_BI (Bm : Nat → Nat) (L : Nat) (nx : Nat → Option Nat) (a0 : Nat) (I0 : IS) (i k f w : Nat) (I : IS) (Q : Nat → Nat) : Prop :=
  f < 2 ^ 16 ∧ (∀ b, f.testBit b = true → L.testBit b = true) ∧ 1 ≤ w ∧ Q 0 = a0 ∧ (∀ j, j < w → I 15 j = nI (Q j)) ∧ q_Q (q_Bm Bm) (q_Lm L) nx Q (I 14) w ∧
  (∀ b, b < 16 → L.testBit b = true → f.testBit b = false → ∃ j, 1 ≤ j ∧ j < w ∧ nx (Q j) = some b) ∧
  (∀ j, 1 ≤ j → j < w → ∃ b, b < 16 ∧ nx (Q j) = some b ∧ f.testBit b = false) ∧
  (∀ j b, j < i → b < 16 → L.testBit b = true → (Bm (Q j)).testBit b = true → f.testBit b = false) ∧
  (∀ b, b < k → L.testBit b = true → (Bm (Q i)).testBit b = true → f.testBit b = false) ∧
  (∀ k', k' ≠ 14 → k' ≠ 15 → I k' = I0 k')
theorem dif_b {f k : Nat} (hf : f < 2 ^ 16) (j : Nat) : (dif f (2 ^ k)).testBit j = (f.testBit j && !(decide (k = j))) := by
  rw [dif_bit (by omega), Nat.testBit_two_pow]
theorem dif_16 {f k : Nat} (hf : f < 2 ^ 16) : dif f (2 ^ k) < 2 ^ 16 := Nat.lt_of_le_of_lt (dif_le _ _) hf
theorem q_Q_rf {B : Nat → Nat → Bool} {L : Nat → Bool} {nx : Nat → Option Nat} {Q : Nat → Nat} {rf rf' : Nat → Int32} {w : Nat} (h : q_Q B L nx Q rf w) (hr : ∀ j b, j < w → nx (Q j) = some b → rf' b = rf b) : q_Q B L nx Q rf' w := by
  refine ⟨h.1, h.2.1, fun j hj => ?_⟩
  rcases h.2.2 j hj with q | ⟨b, j', a1, a2, a3, a4, a5, a6⟩
  · exact .inl q
  · exact .inr ⟨b, j', a1, a2, a3, by rw [hr j b hj a3]; exact a4, a5, a6⟩
theorem q_Q_push {B : Nat → Nat → Bool} {L : Nat → Bool} {nx : Nat → Option Nat} {Q : Nat → Nat} {rf : Nat → Int32} {w u b i : Nat} (h : q_Q B L nx Q rf w) (hu : u < 16) (hn : ∀ j, j < w → Q j ≠ u) (hb : b < 16) (hi : i < w) (hnx : nx u = some b) (hr : rf b = nI (Q i)) (hB : B (Q i) b = true) (hL : L b = true) : q_Q B L nx (fun j => if j = w then u else Q j) rf (w + 1) := by
  refine ⟨fun j hj => ?_, fun x y hx hy e => ?_, fun j hj => ?_⟩
  · show (if j = w then u else Q j) < 16
    by_cases e : j = w
    · rw [if_pos e]; exact hu
    · rw [if_neg e]; exact h.1 j (by omega)
  · have e : (if x = w then u else Q x) = (if y = w then u else Q y) := e
    by_cases e1 : x = w <;> by_cases e2 : y = w
    · omega
    · rw [if_pos e1, if_neg e2] at e; exact absurd e.symm (hn y (by omega))
    · rw [if_neg e1, if_pos e2] at e; exact absurd e (hn x (by omega))
    · rw [if_neg e1, if_neg e2] at e; exact h.2.1 x y (by omega) (by omega) e
  · show nx (if j = w then u else Q j) = none ∨ _
    by_cases e : j = w
    · right
      refine ⟨b, i, by omega, hb, ?_, ?_, ?_, hL⟩
      · show nx (if j = w then u else Q j) = some b
        rw [if_pos e]; exact hnx
      · show rf b = nI (if i = w then u else Q i)
        rw [if_neg (by omega)]; exact hr
      · show B (if i = w then u else Q i) b = true
        rw [if_neg (by omega)]; exact hB
    · rw [if_neg e]
      rcases h.2.2 j (by omega) with q | ⟨b', j', a1, a2, a3, a4, a5, a6⟩
      · exact .inl q
      · refine .inr ⟨b', j', a1, a2, ?_, ?_, ?_, a6⟩
        · show nx (if j = w then u else Q j) = some b'
          rw [if_neg e]; exact a3
        · show rf b' = nI (if j' = w then u else Q j')
          rw [if_neg (by omega)]; exact a4
        · show B (if j' = w then u else Q j') b' = true
          rw [if_neg (by omega)]; exact a5
theorem pairIn_eq {Bm : Nat → Nat} {L : Nat} {nx pv : Nat → Option Nat} {a0 : Nat} {I0 : IS} (h3 : ∀ a, a < 16 → I0 3 a = nI (Bm a) ∧ Bm a < 2 ^ 16) (hP : PS I0 12 13 nx pv) (hK : q_K nx pv) (hV : q_V pv) (hn0 : nx a0 = none) (ha0 : a0 < 16) {i f w : Nat} {I : IS} {Q : Nat → Nat} (hi : i < w) (hb : q_BI Bm L nx a0 I0 i 0 f w I Q) :
    ∃ t z, iter (fun z : Int32 × Int32 × Int32 × IS => fm_R_pairUp_B42 (nI (Q i)) z.1 z.2.1 z.2.2.1 z.2.2.2) FU (nI f, nI w, (0 : Int32), I) = some (t + 1, z) ∧
      ((t = 0 ∧ ∃ f' w' Q', w ≤ w' ∧ z = (nI f', nI w', nI 16, z.2.2.2) ∧ q_BI Bm L nx a0 I0 i 16 f' w' z.2.2.2 Q') ∨
       (t = 1 ∧ ∃ b w' Q', w ≤ w' ∧ z.2.2.1 = nI b ∧ b < 16 ∧ pv b = none ∧ L.testBit b = true ∧ (Bm (Q' i)).testBit b = true ∧ z.2.2.2 14 b = nI (Q' i) ∧ Q' 0 = a0 ∧ q_Q (q_Bm Bm) (q_Lm L) nx Q' (z.2.2.2 14) w' ∧ (∀ j, 1 ≤ j → j < w' → ∃ b, nx (Q' j) = some b) ∧ (∀ k', k' ≠ 14 → k' ≠ 15 → z.2.2.2 k' = I0 k'))) := by
  apply iter_inv (step := fun z : Int32 × Int32 × Int32 × IS => fm_R_pairUp_B42 (nI (Q i)) z.1 z.2.1 z.2.2.1 z.2.2.2) (fun k z => ∃ f' w' Q', w ≤ w' ∧ Q' i = Q i ∧ z = (nI f', nI w', nI k, z.2.2.2) ∧ q_BI Bm L nx a0 I0 i k f' w' z.2.2.2 Q')
    _ 16 (by decide) _ ⟨f, w, Q, Nat.le_refl _, rfl, rfl, hb⟩
  intro k ⟨x1, x2, x3, I1⟩ hk ⟨f', w', Q', hw, hQi, e, hI⟩
  have e1 : x1 = nI f' := congrArg (fun z => z.1) e
  have e2 : x2 = nI w' := congrArg (fun z => z.2.1) e
  have e3 : x3 = nI k := congrArg (fun z => z.2.2.1) e
  subst e1 e2 e3
  replace hI : q_BI Bm L nx a0 I0 i k f' w' I1 Q' := hI
  obtain ⟨b1, b2, b3, b4, b5, b6, b7, b8, b9, b10, b11⟩ := hI
  have hw16 := q_inj16 b6.1 b6.2.1
  have hqi : Q i < 16 := by rw [← hQi]; exact b6.1 i (by omega)
  by_cases hk16 : k = 16
  · right
    subst hk16
    refine ⟨0, (nI f', nI w', nI 16, I1), ?_, .inl ⟨rfl, f', w', Q', hw, rfl, b1, b2, b3, b4, b5, b6, b7, b8, b9, b10, b11⟩⟩
    show fm_R_pairUp_B42 (nI (Q i)) (nI f') (nI w') (nI 16) I1 = _
    unfold fm_R_pairUp_B42
    rw [if_pos (by decide)]
  have hk1 : k < 16 := by omega
  have hB16 := (h3 _ hqi).2
  have st : fm_R_pairUp_B42 (nI (Q i)) (nI f') (nI w') (nI k) I1 = (if bI ((Bm (Q i)).testBit k && f'.testBit k) = 0 then some (0, nI f', nI w', nI (k + 1), I1) else if oI (pv k) = (-1 : Int32) then some (2, nI (dif f' (2 ^ k)), nI w', nI k, sI I1 14 k (nI (Q i))) else grd (inB (nI w') 16) (some (0, nI (dif f' (2 ^ k)), nI (w' + 1), nI (k + 1), sI (sI I1 14 k (nI (Q i))) 15 w' (oI (pv k))))) := by
    have hlt : Bm (Q i) &&& f' < 2 ^ 16 := Nat.lt_of_le_of_lt Nat.and_le_right b1
    unfold fm_R_pairUp_B42
    rw [if_neg (n16 hk1), c_in hqi (by decide), c_gr, c_cl (by omega), b11 3 (by decide) (by decide), (h3 _ hqi).1, m_and, holds_b (by omega) (by omega), c_ob1, Nat.testBit_and, c_shl (by omega), m_dif, c_in hk1 (by decide)]
    simp only [bnd_eq, c_gr]
    rw [c_cl (by omega), sI_ne (by decide), b11 13 (by decide) (by decide), (hP k hk1).2, c_1, c_1, c_cl (by omega)]
  have hst : ∀ r, (if bI ((Bm (Q i)).testBit k && f'.testBit k) = 0 then some (0, nI f', nI w', nI (k + 1), I1) else if oI (pv k) = (-1 : Int32) then some (2, nI (dif f' (2 ^ k)), nI w', nI k, sI I1 14 k (nI (Q i))) else grd (inB (nI w') 16) (some (0, nI (dif f' (2 ^ k)), nI (w' + 1), nI (k + 1), sI (sI I1 14 k (nI (Q i))) 15 w' (oI (pv k))))) = r → fm_R_pairUp_B42 (nI (Q i)) (nI f') (nI w') (nI k) I1 = r := fun r hr => by rw [st]; exact hr
  cases hc : ((Bm (Q i)).testBit k && f'.testBit k) with
  | false =>
    left
    refine ⟨hk1, (nI f', nI w', nI (k + 1), I1), ?_, f', w', Q', hw, hQi, rfl, b1, b2, b3, b4, b5, b6, b7, b8, b9, ?_, b11⟩
    · apply hst; rw [hc, bI_pos]
    · intro b hbk hL hB
      by_cases eb : b = k
      · subst eb
        rw [hQi] at hB
        rw [hB, Bool.true_and] at hc; exact hc
      · exact b10 b (by omega) hL hB
  | true =>
    obtain ⟨c1, c2⟩ := Bool.and_eq_true_iff.1 hc
    have hLk := b2 k c2
    have hfk : ∀ j, j < w' → ∀ b, nx (Q' j) = some b → b ≠ k := by
      intro j hj b hnb q
      subst q
      by_cases ej : j = 0
      · subst ej; rw [b4, hn0] at hnb; cases hnb
      · obtain ⟨b', _, q2, q3⟩ := b8 j (by omega) hj
        rw [hnb] at q2; cases q2; rw [c2] at q3; cases q3
    have hQ1 : q_Q (q_Bm Bm) (q_Lm L) nx Q' (sI I1 14 k (nI (Q i)) 14) w' := q_Q_rf b6 (fun j b hj hnb => sI_idx (hfk j hj b hnb))
    cases hpk : pv k with
    | none =>
      right
      refine ⟨1, (nI (dif f' (2 ^ k)), nI w', nI k, sI I1 14 k (nI (Q i))), ?_, .inr ⟨rfl, k, w', Q', hw, rfl, hk1, hpk, hLk, ?_, ?_, b4, hQ1, fun j hj1 hj2 => ?_, ?_⟩⟩
      · apply hst; rw [hc, bI_neg, hpk, if_pos oI_none]
      · rw [hQi]; exact c1
      · show sI I1 14 k (nI (Q i)) 14 k = _
        rw [sI_same, hQi]
      · obtain ⟨b', _, q2, _⟩ := b8 j hj1 hj2
        exact ⟨b', q2⟩
      · intro k' hk1 hk2
        show sI I1 14 k (nI (Q i)) k' = _
        rw [sI_ne hk1]; exact b11 k' hk1 hk2
    | some u =>
      left
      have hu : u < 16 := hV k u hk1 hpk
      have hnu : nx u = some k := (hK u k hu hk1).mpr hpk
      have hQu : ∀ j, j < w' → Q' j ≠ u := fun j hj q => hfk j hj k (by rw [q]; exact hnu) rfl
      have hQ2 := q_Q_push (rf := sI I1 14 k (nI (Q i)) 14) (b := k) (i := i) hQ1 hu hQu hk1 (by omega) hnu (by rw [sI_same, hQi]) (by show (Bm (Q' i)).testBit k = true; rw [hQi]; exact c1) hLk
      have hw17 := q_inj16 hQ2.1 hQ2.2.1
      refine ⟨hk1, (nI (dif f' (2 ^ k)), nI (w' + 1), nI (k + 1), sI (sI I1 14 k (nI (Q i))) 15 w' (nI u)), ?_, dif f' (2 ^ k), w' + 1, (fun j => if j = w' then u else Q' j), by omega, ?_, rfl, dif_16 b1, ?_, by omega, ?_, ?_, ?_, ?_, ?_, ?_, ?_, ?_⟩
      · apply hst
        rw [hc, bI_neg, hpk, oI_some, if_neg (nI_m1 (by omega)), c_in (by omega) (by decide), c_gr]
      · show (if i = w' then u else Q' i) = Q i
        rw [if_neg (by omega)]; exact hQi
      · intro b hb
        rw [dif_b b1] at hb
        exact b2 b (Bool.and_eq_true_iff.1 hb).1
      · show (if 0 = w' then u else Q' 0) = a0
        rw [if_neg (by omega)]; exact b4
      · intro j hj
        show sI (sI I1 14 k (nI (Q i))) 15 w' (nI u) 15 j = nI (if j = w' then u else Q' j)
        by_cases ej : j = w'
        · subst ej; rw [sI_same, if_pos rfl]
        · rw [sI_idx ej, sI_ne (by decide), if_neg ej]; exact b5 j (by omega)
      · show q_Q _ _ nx _ (sI (sI I1 14 k (nI (Q i))) 15 w' (nI u) 14) (w' + 1)
        rw [sI_ne (by decide)]
        exact hQ2
      · intro b hb hL hf
        rw [dif_b b1] at hf
        by_cases eb : k = b
        · subst eb
          refine ⟨w', by omega, by omega, ?_⟩
          show nx (if w' = w' then u else Q' w') = some k
          rw [if_pos rfl]; exact hnu
        · rw [decide_eq_false eb, Bool.not_false, Bool.and_true] at hf
          obtain ⟨j, j1, j2, j3⟩ := b7 b hb hL hf
          refine ⟨j, j1, by omega, ?_⟩
          show nx (if j = w' then u else Q' j) = some b
          rw [if_neg (by omega)]; exact j3
      · intro j j1 j2
        show ∃ b, b < 16 ∧ nx (if j = w' then u else Q' j) = some b ∧ _
        by_cases ej : j = w'
        · rw [if_pos ej]
          exact ⟨k, hk1, hnu, by rw [dif_b b1, decide_eq_true rfl, Bool.not_true, Bool.and_false]⟩
        · rw [if_neg ej]
          obtain ⟨b, q1, q2, q3⟩ := b8 j j1 (by omega)
          exact ⟨b, q1, q2, by rw [dif_b b1, q3, Bool.false_and]⟩
      · intro j b hj hb hL hB
        have hB : (Bm (if j = w' then u else Q' j)).testBit b = true := hB
        rw [if_neg (by omega)] at hB
        rw [dif_b b1, b9 j b hj hb hL hB, Bool.false_and]
      · intro b hb hL hB
        have hB : (Bm (if i = w' then u else Q' i)).testBit b = true := hB
        rw [if_neg (by omega)] at hB
        rw [dif_b b1]
        by_cases eb : k = b
        · rw [decide_eq_true eb, Bool.not_true, Bool.and_false]
        · rw [b10 b (by omega) hL hB, Bool.false_and]
      · intro k' hk1 hk2
        show sI (sI I1 14 k (nI (Q i))) 15 w' (nI u) k' = _
        rw [sI_ne hk2, sI_ne hk1]; exact b11 k' hk1 hk2
