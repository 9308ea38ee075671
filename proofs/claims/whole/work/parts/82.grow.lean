/-! The reference's search for one more pair: entries below n have their partners already -/
def fx (n : Nat) : Int32 := nI n - 1
theorem fx_1 (n : Nat) : fx n + 1 = nI n := by
  unfold fx
  apply Int32.toBitVec_inj.1
  show BitVec.ofNat 32 n - 1 + 1 = BitVec.ofNat 32 n
  rw [BitVec.sub_add_cancel]
theorem fx_s (n : Nat) : fx (n + 1) = nI n := nI_pred n
theorem fx_0 : fx 0 = -1 := by decide
theorem fx_le {u n : Nat} (hu : u < 2147483648) (hn : n < 2147483648) : (nI u ≤ fx n) ↔ u < n := by
  cases n with
  | zero =>
    rw [fx_0]
    constructor
    · intro q
      exact absurd (Int32.lt_of_le_of_lt q m1_lt) (nI_pos (by omega))
    · intro q; omega
  | succ n => rw [fx_s, nI_leI (by omega) (by omega)]; omega
theorem fx_lt {u n : Nat} (hu : u < 2147483648) (hn : n < 2147483648) : (fx n < nI u) ↔ n ≤ u := by
  constructor
  · intro q
    apply Nat.le_of_not_lt
    intro q2
    exact absurd ((fx_le hu hn).mpr q2) (Int32.not_le.mpr q)
  · intro q
    exact Int32.not_le.mp (fun q2 => by have := (fx_le hu hn).mp q2; omega)
theorem oI_neg {o : Option Nat} (h : ∀ b, o = some b → b < 16) : (oI o < 0) ↔ o = none := by
  cases o with
  | none => exact ⟨fun _ => rfl, fun _ => m1_lt⟩
  | some b =>
    rw [oI_some]
    exact ⟨fun q => absurd q (nI_pos (by have := h b rfl; omega)), fun q => by cases q⟩
theorem oI_nn {o : Option Nat} (h : ∀ b, o = some b → b < 16) : (0 ≤ oI o) ↔ ¬ o = none := by
  rw [← oI_neg h]
  exact ⟨fun q q2 => absurd q (Int32.not_le.mpr q2), fun q => Int32.not_lt.mp q⟩
theorem mfill_eq {k : Nat} (g : Int32 → IS → Option (Nat × Int32 × IS)) (hg : ∀ x I, g x I = if (16 : Int32) ≤ x then some (1, x, I) else grd (inB x 16) (bnd (sI I k x.toNatClampNeg (-1 : Int32)) (fun I23 => bnd (x + (1 : Int32)) (fun x31 => some (0, x31, I23))))) (s : Nat) (hs : s ≤ 16) (I : IS) : ∃ I', iter (fun z : Int32 × IS => g z.1 z.2) FU (nI s, I) = some (1, nI 16, I') ∧ (∀ j, s ≤ j → j < 16 → I' k j = -1) ∧ (∀ j, j < s → I' k j = I k j) ∧ (∀ k', k' ≠ k → I' k' = I k') := by
  obtain ⟨I', h1, h2, h3, h4⟩ := for2s g (fun i I1 => (∀ j, s ≤ j → j < i → I1 k j = -1) ∧ (∀ j, j < s → I1 k j = I k j) ∧ (∀ k', k' ≠ k → I1 k' = I k')) s 16 hs (by decide) (I0 := I) ⟨fun j h1 h2 => by omega, fun _ _ => rfl, fun _ _ => rfl⟩ (by
    intro i I1 hs1 hi ⟨h1, h2, h3⟩
    refine ⟨sI I1 k i (-1), ?_, ?_, ?_, ?_⟩
    · rw [hg, if_neg (n16 hi), c_in hi (by decide), c_gr, c_cl (by omega), bnd_eq, bnd_eq, c_1]
    · intro j hj1 hj2
      by_cases e : j = i
      · subst e; rw [sI_same]
      · rw [sI_idx e]; exact h1 j hj1 (by omega)
    · intro j hj; rw [sI_idx (by omega)]; exact h2 j hj
    · intro k' hk; rw [sI_ne hk]; exact h3 k' hk) (by
    intro I1 _
    rw [hg, if_pos (by decide)])
  exact ⟨I', h1, h2, h3, h4⟩
def q_tt : Nat → Bool := fun _ => true
/-- those that begin -/
def q_G0 (W n : Nat) (nx : Nat → Option Nat) (a w : Nat) (Q : Nat → Nat) : Prop :=
  (∀ j, j < w → Q j < a ∧ n ≤ Q j ∧ W.testBit (Q j) = true ∧ nx (Q j) = none) ∧ (∀ i j, i < w → j < w → Q i = Q j → i = j) ∧ ∀ u, n ≤ u → u < a → W.testBit u = true → nx u = none → ∃ j, j < w ∧ Q j = u
theorem begin_eq {Bm : Nat → Nat} {W n : Nat} {nx pv : Nat → Option Nat} {I : IS} (h8 : I 8 0 = nI W) (hW : W < 2 ^ 16) (hP : PS I 16 17 nx pv) (hE : q_E (q_Bm Bm) q_tt nx) (hn : n ≤ 16) : ∃ w I' Q, iter (fun z : Int32 × Int32 × IS => fm_M_grow_B30 z.1 z.2.1 z.2.2) FU ((0 : Int32), nI n, I) = some (1, nI w, nI 16, I') ∧ (∀ j, j < w → I' 18 j = nI (Q j)) ∧ q_G0 W n nx 16 w Q ∧ (∀ k, k ≠ 18 → I' k = I k) := by
  obtain ⟨⟨x, y, I'⟩, e1, w, Q, e2, e3, e4, e5⟩ := iter_for (step := fun z : Int32 × Int32 × IS => fm_M_grow_B30 z.1 z.2.1 z.2.2) (z0 := ((0 : Int32), nI n, I))
    (fun k z => ∃ w Q, z = (nI w, nI (n + k), z.2.2) ∧ (∀ j, j < w → z.2.2 18 j = nI (Q j)) ∧ q_G0 W n nx (n + k) w Q ∧ (∀ k', k' ≠ 18 → z.2.2 k' = I k')) (16 - n) (by omega) (by
      intro k ⟨x, y, I1⟩ hk ⟨w, Q, e, h1, ⟨g1, g2, g3⟩, h2⟩
      have ex : x = nI w := congrArg (fun z => z.1) e
      have ey : y = nI (n + k) := congrArg (fun z => z.2.1) e
      replace h1 : ∀ j, j < w → I1 18 j = nI (Q j) := h1
      replace h2 : ∀ k', k' ≠ 18 → I1 k' = I k' := h2
      subst ex ey
      have ha : n + k < 16 := by omega
      generalize hae : n + k = a at *
      have hw16 := q_inj16 (fun j hj => by have := (g1 j hj).1; omega) g2
      show ∃ z', fm_M_grow_B30 (nI w) (nI a) I1 = some (0, z') ∧ ∃ w Q, z' = (nI w, nI (n + (k + 1)), z'.2.2) ∧ (∀ j, j < w → z'.2.2 18 j = nI (Q j)) ∧ q_G0 W n nx (n + (k + 1)) w Q ∧ (∀ k', k' ≠ 18 → z'.2.2 k' = I k')
      rw [show n + (k + 1) = a + 1 by omega]
      have skip : (W.testBit a = true → nx a ≠ none) → q_G0 W n nx (a + 1) w Q := by
        intro hs
        refine ⟨fun j hj => ?_, g2, fun u hu1 hu2 hu3 hu4 => ?_⟩
        · have := g1 j hj; exact ⟨by omega, this.2⟩
        · by_cases e : u = a
          · subst e; exact absurd hu4 (hs hu3)
          · exact g3 u hu1 (by omega) hu3 hu4
      unfold fm_M_grow_B30
      rw [if_neg (n16 ha), h2 8 (by decide), h8, h2 16 (by decide), c_in ha (by decide), c_gr, c_cl (by omega), (hP a ha).1, c_1]
      simp only [bnd_eq]
      by_cases hWa : W.testBit a = true
      · rw [if_pos ((m_bit1 (by omega) (by omega)).mpr hWa)]
        cases hna : nx a with
        | some b =>
          rw [if_pos ((oI_nn (fun b' hb' => (hE a b' ha (by rw [hna]; exact hb')).1)).mpr (fun q => by cases q))]
          exact ⟨_, rfl, w, Q, rfl, h1, skip (fun _ q => by rw [hna] at q; cases q), h2⟩
        | none =>
          have gi : ∀ i j, i < w + 1 → j < w + 1 → (if i = w then a else Q i) = (if j = w then a else Q j) → i = j := by
            intro i j hi hj e
            by_cases e1 : i = w <;> by_cases e2 : j = w
            · omega
            · rw [if_pos e1, if_neg e2] at e; have := (g1 j (by omega)).1; omega
            · rw [if_neg e1, if_pos e2] at e; have := (g1 i (by omega)).1; omega
            · rw [if_neg e1, if_neg e2] at e; exact g2 i j (by omega) (by omega) e
          have hw17 := q_inj16 (Q := fun j => if j = w then a else Q j) (w := w + 1) (fun j hj => by
            show (if j = w then a else Q j) < 16
            by_cases e : j = w
            · rw [if_pos e]; exact ha
            · rw [if_neg e]; have := (g1 j (by omega)).1; omega) gi
          rw [if_neg (fun q => (oI_nn (o := none) (fun b hb => by cases hb)).mp q rfl), c_in (by omega) (by decide), c_gr, c_cl (by omega), c_1]
          refine ⟨_, rfl, w + 1, (fun j => if j = w then a else Q j), rfl, ?_, ⟨?_, gi, ?_⟩, ?_⟩
          · intro j hj
            show sI I1 18 w (nI a) 18 j = nI (if j = w then a else Q j)
            by_cases e : j = w
            · subst e; rw [sI_same, if_pos rfl]
            · rw [sI_idx e, if_neg e]; exact h1 j (by omega)
          · intro j hj
            show (if j = w then a else Q j) < a + 1 ∧ n ≤ (if j = w then a else Q j) ∧ W.testBit (if j = w then a else Q j) = true ∧ nx (if j = w then a else Q j) = none
            by_cases e : j = w
            · rw [if_pos e]; exact ⟨by omega, by omega, hWa, hna⟩
            · rw [if_neg e]; have := g1 j (by omega); exact ⟨by omega, this.2⟩
          · intro u hu1 hu2 hu3 hu4
            by_cases e : u = a
            · subst e; exact ⟨w, by omega, by show (if w = w then u else Q w) = u; rw [if_pos rfl]⟩
            · obtain ⟨j, j1, j2⟩ := g3 u hu1 (by omega) hu3 hu4
              exact ⟨j, by omega, by show (if j = w then a else Q j) = u; rw [if_neg (by omega)]; exact j2⟩
          · intro k' hk'
            show sI I1 18 w (nI a) k' = _
            rw [sI_ne hk']; exact h2 k' hk'
      · rw [if_neg (fun q => hWa ((m_bit1 (by omega) (by omega)).mp q))]
        exact ⟨_, rfl, w, Q, rfl, h1, skip (fun q => absurd q hWa), h2⟩) (by
      intro ⟨x, y, I1⟩ ⟨w, Q, e, _⟩
      have ey : y = nI (n + (16 - n)) := congrArg (fun z => z.2.1) e
      rw [show n + (16 - n) = 16 by omega] at ey
      subst ey
      show fm_M_grow_B30 x (nI 16) I1 = _
      unfold fm_M_grow_B30
      rw [if_pos (by decide)]) ⟨0, fun _ => 0, rfl, fun j hj => absurd hj (Nat.not_lt_zero _), ⟨fun j hj => absurd hj (Nat.not_lt_zero _), fun i j hi => absurd hi (Nat.not_lt_zero _), fun u h1 h2 => absurd h2 (by omega)⟩, fun _ _ => rfl⟩
  have ex : x = nI w := congrArg (fun z => z.1) e2
  have ey : y = nI (n + (16 - n)) := congrArg (fun z => z.2.1) e2
  rw [show n + (16 - n) = 16 by omega] at ey e4
  subst ex ey
  exact ⟨w, I', Q, e1, e3, e4, e5⟩
/-- what is known while the queue is worked off -/
def q_GI (Bm : Nat → Nat) (W n : Nat) (nx pv : Nat → Option Nat) (I0 : IS) (i k w : Nat) (I : IS) (Q : Nat → Nat) (N : Nat → Bool) : Prop :=
  (∀ j, j < w → I 18 j = nI (Q j) ∧ n ≤ Q j) ∧ q_Q (q_Bm Bm) q_tt nx Q (I 19) w ∧
  (∀ b, b < 16 → (N b = false ∧ I 19 b = -1) ∨ (N b = true ∧ ∃ x, x < 16 ∧ I 19 b = nI x)) ∧
  (∀ b, b < 16 → N b = true → ∃ j, j < w ∧ nx (Q j) = some b) ∧
  (∀ j b, j < w → nx (Q j) = some b → N b = true) ∧
  (∀ u, n ≤ u → u < 16 → W.testBit u = true → nx u = none → ∃ j, j < w ∧ Q j = u) ∧
  (∀ j b, j < i → b < 16 → (∀ x, pv b = some x → n ≤ x) → (Bm (Q j)).testBit b = true → N b = true) ∧
  (∀ b, b < k → (∀ x, pv b = some x → n ≤ x) → (Bm (Q i)).testBit b = true → N b = true) ∧
  (∀ k', k' ≠ 18 → k' ≠ 19 → I k' = I0 k')
theorem growIn_eq {Bm : Nat → Nat} {W n : Nat} {nx pv : Nat → Option Nat} {I0 : IS} (h9 : ∀ a, a < 16 → I0 9 a = nI (Bm a) ∧ Bm a < 2 ^ 16) (hn : n ≤ 16) (hP : PS I0 16 17 nx pv) (hK : q_K nx pv) (hV : q_V pv) {i w : Nat} {I : IS} {Q : Nat → Nat} {N : Nat → Bool} (hi : i < w) (hb : q_GI Bm W n nx pv I0 i 0 w I Q N) :
    ∃ t z, iter (fun z : Int32 × Int32 × IS => fm_M_grow_B96 (fx n) (nI (Q i)) z.1 z.2.1 z.2.2) FU (nI w, (0 : Int32), I) = some (t + 1, z) ∧
      ((t = 0 ∧ ∃ w' Q' N', w ≤ w' ∧ z = (nI w', nI 16, z.2.2) ∧ q_GI Bm W n nx pv I0 i 16 w' z.2.2 Q' N') ∨
       (t = 1 ∧ ∃ b w' Q', w ≤ w' ∧ z.2.1 = nI b ∧ b < 16 ∧ pv b = none ∧ (Bm (Q' i)).testBit b = true ∧ z.2.2 19 b = nI (Q' i) ∧ (∀ j, j < w' → n ≤ Q' j) ∧ q_Q (q_Bm Bm) q_tt nx Q' (z.2.2 19) w' ∧ (∀ k', k' ≠ 18 → k' ≠ 19 → z.2.2 k' = I0 k'))) := by
  apply iter_inv (step := fun z : Int32 × Int32 × IS => fm_M_grow_B96 (fx n) (nI (Q i)) z.1 z.2.1 z.2.2) (fun k z => ∃ w' Q' N', w ≤ w' ∧ Q' i = Q i ∧ z = (nI w', nI k, z.2.2) ∧ q_GI Bm W n nx pv I0 i k w' z.2.2 Q' N')
    _ 16 (by decide) _ ⟨w, Q, N, Nat.le_refl _, rfl, rfl, hb⟩
  intro k ⟨x2, x3, I1⟩ hk ⟨w', Q', N', hw, hQi, e, hI⟩
  have e2 : x2 = nI w' := congrArg (fun z => z.1) e
  have e3 : x3 = nI k := congrArg (fun z => z.2.1) e
  subst e2 e3
  replace hI : q_GI Bm W n nx pv I0 i k w' I1 Q' N' := hI
  obtain ⟨b1, b2, b3, b4, b5, b6, b7, b8, b9⟩ := hI
  have hw16 := q_inj16 b2.1 b2.2.1
  have hqi : Q i < 16 := by rw [← hQi]; exact b2.1 i (by omega)
  by_cases hk16 : k = 16
  · right
    subst hk16
    refine ⟨0, (nI w', nI 16, I1), ?_, .inl ⟨rfl, w', Q', N', hw, rfl, b1, b2, b3, b4, b5, b6, b7, b8, b9⟩⟩
    show fm_M_grow_B96 (fx n) (nI (Q i)) (nI w') (nI 16) I1 = _
    unfold fm_M_grow_B96
    rw [if_pos (by decide)]
  have hk1 : k < 16 := by omega
  have hB16 := (h9 _ hqi).2
  have hpr : ∀ b, pv k = some b → b < 16 := fun b hb => hV k b hk1 hb
  have e9 : I1 9 = I0 9 := b9 9 (by decide) (by decide)
  have e17 : I1 17 = I0 17 := b9 17 (by decide) (by decide)
  have skip : fm_M_grow_B96 (fx n) (nI (Q i)) (nI w') (nI k) I1 = some (0, nI w', nI (k + 1), I1) → ((∀ x, pv k = some x → n ≤ x) → (Bm (Q i)).testBit k = true → N' k = true) → (k < 16 ∧ ∃ z', fm_M_grow_B96 (fx n) (nI (Q i)) (nI w') (nI k) I1 = some (0, z') ∧ ∃ w'_1 Q'_1 N'_1, w ≤ w'_1 ∧ Q'_1 i = Q i ∧ z' = (nI w'_1, nI (k + 1), z'.2.2) ∧ q_GI Bm W n nx pv I0 i (k + 1) w'_1 z'.2.2 Q'_1 N'_1) := by
    intro hs hN
    refine ⟨hk1, (nI w', nI (k + 1), I1), hs, w', Q', N', hw, hQi, rfl, b1, b2, b3, b4, b5, b6, b7, ?_, b9⟩
    intro b hbk hf hB
    by_cases eb : b = k
    · subst eb; rw [hQi] at hB; exact hN hf hB
    · exact b8 b (by omega) hf hB
  have st : fm_M_grow_B96 (fx n) (nI (Q i)) (nI w') (nI k) I1 = (if (nI (Bm (Q i)) >>> (nI k &&& 31)) &&& (1 : Int32) = 1 then (if 0 ≤ I1 19 k then some (0, nI w', nI (k + 1), I1) else if oI (pv k) < 0 then fm_M_grow_j150 (nI (Q i)) (nI w') (nI k) I1 else if oI (pv k) ≤ fx n then some (0, nI w', nI (k + 1), I1) else fm_M_grow_j150 (nI (Q i)) (nI w') (nI k) I1) else some (0, nI w', nI (k + 1), I1)) := by
    unfold fm_M_grow_B96
    rw [if_neg (n16 hk1), c_in hqi (by decide), c_gr, c_cl (by omega), e9, (h9 _ hqi).1, c_in hk1 (by decide), c_gr, c_cl (by omega), e17, (hP k hk1).2, c_1]
    simp only [c_gr, bnd_eq]
  by_cases hBk : (Bm (Q i)).testBit k = true
  · rw [if_pos ((m_bit1 (by omega) (by omega)).mpr hBk)] at st
    rcases b3 k hk1 with ⟨hN, hc⟩ | ⟨hN, x, hx, hc⟩
    · rw [hc, if_neg (by decide)] at st
      -- reached for the first time
      have hfk : ∀ j, j < w' → ∀ b, nx (Q' j) = some b → b ≠ k := by
        intro j hj b hnb q
        subst q
        rw [b5 j b hj hnb] at hN; cases hN
      have hQ1 : q_Q (q_Bm Bm) q_tt nx Q' (sI I1 19 k (nI (Q i)) 19) w' := q_Q_rf b2 (fun j b hj hnb => sI_idx (hfk j hj b hnb))
      have jst : fm_M_grow_j150 (nI (Q i)) (nI w') (nI k) I1 = (if 0 ≤ oI (pv k) then grd (inB (nI w') 16) (some (0, nI (w' + 1), nI (k + 1), sI (sI I1 19 k (nI (Q i))) 18 w' (oI (pv k)))) else some (2, nI w', nI k, sI I1 19 k (nI (Q i)))) := by
        unfold fm_M_grow_j150
        rw [c_in hk1 (by decide)]
        simp only [c_gr, bnd_eq]
        rw [c_cl (by omega), sI_ne (by decide), e17, (hP k hk1).2, c_1, c_1, c_cl (by omega)]
      cases hpk : pv k with
      | none =>
        right
        rw [hpk, if_pos ((oI_neg (fun b hb => by cases hb)).mpr rfl)] at st
        rw [hpk, if_neg (fun q => (oI_nn (o := none) (fun b hb => by cases hb)).mp q rfl)] at jst
        refine ⟨1, (nI w', nI k, sI I1 19 k (nI (Q i))), ?_, .inr ⟨rfl, k, w', Q', hw, rfl, hk1, hpk, ?_, ?_, fun j hj => (b1 j hj).2, hQ1, ?_⟩⟩
        · show fm_M_grow_B96 (fx n) (nI (Q i)) (nI w') (nI k) I1 = _
          rw [st, jst]
        · rw [hQi]; exact hBk
        · show sI I1 19 k (nI (Q i)) 19 k = _
          rw [sI_same, hQi]
        · intro k' h1 h2
          show sI I1 19 k (nI (Q i)) k' = _
          rw [sI_ne h2]; exact b9 k' h1 h2
      | some u =>
        left
        have hu : u < 16 := hpr u hpk
        rw [hpk, if_neg (fun q => by have := (oI_neg (o := some u) (fun b hb => by cases hb; exact hu)).mp q; cases this), oI_some] at st
        by_cases hun : u < n
        · rw [if_pos ((fx_le (by omega) (by omega)).mpr hun)] at st
          refine skip st (fun hf _ => ?_)
          have := hf u hpk
          omega
        · rw [if_neg (fun q => hun ((fx_le (by omega) (by omega)).mp q))] at st
          have hnu : nx u = some k := (hK u k hu hk1).mpr hpk
          have hQu : ∀ j, j < w' → Q' j ≠ u := fun j hj q => hfk j hj k (by rw [q]; exact hnu) rfl
          have hQ2 := q_Q_push (rf := sI I1 19 k (nI (Q i)) 19) (b := k) (i := i) hQ1 hu hQu hk1 (by omega) hnu (by rw [sI_same, hQi]) (by show (Bm (Q' i)).testBit k = true; rw [hQi]; exact hBk) rfl
          have hw17 := q_inj16 hQ2.1 hQ2.2.1
          rw [hpk, if_pos ((oI_nn (o := some u) (fun b hb => by cases hb; exact hu)).mpr (fun q => by cases q)), c_in (by omega) (by decide), c_gr, oI_some] at jst
          refine ⟨hk1, (nI (w' + 1), nI (k + 1), sI (sI I1 19 k (nI (Q i))) 18 w' (nI u)), ?_, w' + 1, (fun j => if j = w' then u else Q' j), q_in N' k, by omega, ?_, rfl, ?_, ?_, ?_, ?_, ?_, ?_, ?_, ?_, ?_⟩
          · show fm_M_grow_B96 (fx n) (nI (Q i)) (nI w') (nI k) I1 = _
            rw [st, jst]
          · show (if i = w' then u else Q' i) = Q i
            rw [if_neg (by omega)]; exact hQi
          · intro j hj
            show sI (sI I1 19 k (nI (Q i))) 18 w' (nI u) 18 j = nI (if j = w' then u else Q' j) ∧ n ≤ (if j = w' then u else Q' j)
            by_cases ej : j = w'
            · subst ej; rw [sI_same, if_pos rfl]; exact ⟨rfl, by omega⟩
            · rw [sI_idx ej, sI_ne (by decide), if_neg ej]; exact b1 j (by omega)
          · show q_Q _ _ nx _ (sI (sI I1 19 k (nI (Q i))) 18 w' (nI u) 19) (w' + 1)
            rw [sI_ne (by decide)]
            exact hQ2
          · intro b hb
            show (q_in N' k b = false ∧ sI (sI I1 19 k (nI (Q i))) 18 w' (nI u) 19 b = -1) ∨ (q_in N' k b = true ∧ ∃ x, x < 16 ∧ sI (sI I1 19 k (nI (Q i))) 18 w' (nI u) 19 b = nI x)
            rw [sI_ne (by decide)]
            by_cases eb : b = k
            · subst eb; right; exact ⟨q_in_same _ _, Q i, hqi, sI_same⟩
            · rw [q_in_ne _ eb, sI_idx eb]; exact b3 b hb
          · intro b hb hN
            rcases q_in_sub hN with q | q
            · obtain ⟨j, j1, j2⟩ := b4 b hb q
              refine ⟨j, by omega, ?_⟩
              show nx (if j = w' then u else Q' j) = some b
              rw [if_neg (by omega)]; exact j2
            · subst q
              refine ⟨w', by omega, ?_⟩
              show nx (if w' = w' then u else Q' w') = some b
              rw [if_pos rfl]; exact hnu
          · intro j b hj hnb
            have hnb : nx (if j = w' then u else Q' j) = some b := hnb
            by_cases ej : j = w'
            · rw [if_pos ej, hnu] at hnb; cases hnb; exact q_in_same _ _
            · rw [if_neg ej] at hnb
              have q := b5 j b (by omega) hnb
              rw [q_in_ne _ (hfk j (by omega) b hnb)]; exact q
          · intro u' h1 h2 h3 h4
            obtain ⟨j, j1, j2⟩ := b6 u' h1 h2 h3 h4
            refine ⟨j, by omega, ?_⟩
            show (if j = w' then u else Q' j) = u'
            rw [if_neg (by omega)]; exact j2
          · intro j b hj hb hf hB
            have hB : (Bm (if j = w' then u else Q' j)).testBit b = true := hB
            rw [if_neg (by omega)] at hB
            have q := b7 j b hj hb hf hB
            by_cases eb : b = k
            · subst eb; exact q_in_same _ _
            · rw [q_in_ne _ eb]; exact q
          · intro b hbk hf hB
            have hB : (Bm (if i = w' then u else Q' i)).testBit b = true := hB
            rw [if_neg (by omega)] at hB
            by_cases eb : b = k
            · subst eb; exact q_in_same _ _
            · rw [q_in_ne _ eb]; exact b8 b (by omega) hf hB
          · intro k' h1 h2
            show sI (sI I1 19 k (nI (Q i))) 18 w' (nI u) k' = _
            rw [sI_ne h1, sI_ne h2]; exact b9 k' h1 h2
    · rw [hc, if_pos (show (0 : Int32) ≤ nI x from nI_pos' (by omega))] at st
      left
      exact skip st (fun _ _ => hN)
  · rw [if_neg (fun q => hBk ((m_bit1 (by omega) (by omega)).mp q))] at st
    left
    exact skip st (fun _ q => absurd q hBk)
