/-! One more pair, or none; the most pairs -/
theorem pairUp_eq {Bm : Nat → Nat} {L : Nat} {nx pv : Nat → Option Nat} {a0 : Nat} {I : IS} (h3 : ∀ a, a < 16 → I 3 a = nI (Bm a) ∧ Bm a < 2 ^ 16) (hL : L < 2 ^ 16) (hP : PS I 12 13 nx pv) (hK : q_K nx pv) (hE : q_E (q_Bm Bm) (q_Lm L) nx) (hV : q_V pv) (hn0 : nx a0 = none) (ha0 : a0 < 16) :
    ∃ r I', fm_R_pairUp (nI a0) (nI L) I = some (r, I') ∧ (∀ k, k ≠ 12 → k ≠ 13 → k ≠ 14 → k ≠ 15 → I' k = I k) ∧
      ((r = 0 ∧ PS I' 12 13 nx pv ∧ ∃ Z N : Nat → Bool, (∀ b, b < 16 → N b = true → ∃ u, u < 16 ∧ pv b = some u ∧ nx u = some b ∧ Z u = true ∧ u ≠ a0) ∧ (∀ u b, u < 16 → b < 16 → Z u = true → q_Lm L b = true → q_Bm Bm u b = true → N b = true) ∧ Z a0 = true) ∨
       (r = 1 ∧ ∃ nx' pv', PS I' 12 13 nx' pv' ∧ q_K nx' pv' ∧ q_E (q_Bm Bm) (q_Lm L) nx' ∧ q_V pv' ∧ ∀ u, u < 16 → (nx' u).isSome = ((nx u).isSome || decide (u = a0)))) := by
  unfold fm_R_pairUp
  rw [show inB (0 : Int32) 16 = true from by decide, c_gr, bnd_eq, show (0 : Int32).toNatClampNeg = 0 from by decide]
  have h3' : ∀ a, a < 16 → sI I 15 0 (nI a0) 3 a = nI (Bm a) ∧ Bm a < 2 ^ 16 := fun a ha => by rw [sI_ne (by decide)]; exact h3 a ha
  have hP' : PS (sI I 15 0 (nI a0)) 12 13 nx pv := fun j hj => by rw [sI_ne (by decide), sI_ne (by decide)]; exact hP j hj
  generalize hI0 : sI I 15 0 (nI a0) = I0 at *
  have hfr : ∀ k, k ≠ 15 → I0 k = I k := fun k hk => by rw [← hI0, sI_ne hk]
  have h15 : I0 15 0 = nI a0 := by rw [← hI0, sI_same]
  obtain ⟨t, z, e1, e2⟩ := iter_inv (step := fun z : Int32 × Int32 × Int32 × Int32 × IS => fm_R_pairUp_B16 z.1 z.2.1 z.2.2.1 z.2.2.2.1 z.2.2.2.2) (z0 := (nI L, (1 : Int32), (0 : Int32), (0 : Int32), I0))
    (fun i z => ∃ f w Q, i ≤ w ∧ z = (nI f, nI w, nI i, (0 : Int32), z.2.2.2.2) ∧ q_BI Bm L nx a0 I0 i 0 f w z.2.2.2.2 Q)
    (fun t z => (t = 0 ∧ ∃ f w Q, q_BI Bm L nx a0 I0 w 0 f w z.2.2.2.2 Q) ∨ (t = 1 ∧ ∃ i b w Q, i < w ∧ z.2.2.2.1 = nI b ∧ b < 16 ∧ pv b = none ∧ L.testBit b = true ∧ (Bm (Q i)).testBit b = true ∧ z.2.2.2.2 14 b = nI (Q i) ∧ Q 0 = a0 ∧ q_Q (q_Bm Bm) (q_Lm L) nx Q (z.2.2.2.2 14) w ∧ (∀ j, 1 ≤ j → j < w → ∃ b, nx (Q j) = some b) ∧ (∀ k', k' ≠ 14 → k' ≠ 15 → z.2.2.2.2 k' = I0 k'))) 16 (by decide) (by
      intro i ⟨x1, x2, x3, x4, I1⟩ hi ⟨f, w, Q, hiw, e, hB⟩
      have e1 : x1 = nI f := congrArg (fun z => z.1) e
      have e2 : x2 = nI w := congrArg (fun z => z.2.1) e
      have e3 : x3 = nI i := congrArg (fun z => z.2.2.1) e
      have e4 : x4 = 0 := congrArg (fun z => z.2.2.2.1) e
      subst e1 e2 e3 e4
      replace hB : q_BI Bm L nx a0 I0 i 0 f w I1 Q := hB
      have hw16 := q_inj16 hB.2.2.2.2.2.1.1 hB.2.2.2.2.2.1.2.1
      by_cases hew : i = w
      · subst hew
        right
        refine ⟨0, (nI f, nI i, nI i, 0, I1), ?_, .inl ⟨rfl, f, i, Q, hB⟩⟩
        show fm_R_pairUp_B16 (nI f) (nI i) (nI i) 0 I1 = _
        unfold fm_R_pairUp_B16
        rw [if_pos (nI_le (Nat.le_refl _) (by omega))]
      · have hlt : i < w := by omega
        obtain ⟨t, z, q1, q2⟩ := pairIn_eq h3' hP' hK hV hn0 ha0 hlt hB
        have st : fm_R_pairUp_B16 (nI f) (nI w) (nI i) 0 I1 = (if t + 1 = 1 then some (0, z.1, z.2.1, nI (i + 1), (0 : Int32), z.2.2.2) else some (2, nI f, nI w, nI i, z.2.2.1, z.2.2.2)) := by
          unfold fm_R_pairUp_B16
          rw [if_neg (nI_ge hlt (by omega)), if_neg (n16 (by omega)), c_in (by omega) (by decide), c_gr, c_cl (by omega), hB.2.2.2.2.1 i hlt, bnd_eq, q1]
          obtain ⟨y1, y2, y3, y4⟩ := z
          rw [c_ob5, bnd_eq, c_1]
        rcases q2 with ⟨rfl, f', w', Q', g1, g2, g3⟩ | ⟨rfl, b, w', Q', g1, g2, g3⟩
        · left
          refine ⟨by omega, (nI f', nI w', nI (i + 1), 0, z.2.2.2), ?_, f', w', Q', by omega, rfl, ?_⟩
          · show fm_R_pairUp_B16 (nI f) (nI w) (nI i) 0 I1 = _
            rw [st, if_pos rfl, g2]
          · show q_BI Bm L nx a0 I0 (i + 1) 0 f' w' z.2.2.2 Q'
            obtain ⟨c1, c2, c3, c4, c5, c6, c7, c8, c9, c10, c11⟩ := g3
            refine ⟨c1, c2, c3, c4, c5, c6, c7, c8, ?_, fun b hb => absurd hb (Nat.not_lt_zero _), c11⟩
            intro j b hj hb hLb hBb
            by_cases ej : j = i
            · subst ej; exact c10 b hb hLb hBb
            · exact c9 j b (by omega) hb hLb hBb
        · right
          refine ⟨1, (nI f, nI w, nI i, z.2.2.1, z.2.2.2), ?_, .inr ⟨rfl, i, b, w', Q', by omega, g2, g3⟩⟩
          show fm_R_pairUp_B16 (nI f) (nI w) (nI i) 0 I1 = _
          rw [st, if_neg (by decide)]) ⟨L, 1, fun _ => a0, by omega, rfl, hL, fun _ h => h, Nat.le_refl _, rfl, fun j hj => by
        have : j = 0 := by omega
        subst this; exact h15, ⟨fun _ _ => ha0, fun i j hi hj _ => by omega, fun _ _ => .inl hn0⟩, fun b _ h1 h2 => (by rw [h1] at h2; cases h2), fun j h1 h2 => by omega, fun j b hj => absurd hj (Nat.not_lt_zero _), fun b hb => absurd hb (Nat.not_lt_zero _), fun _ _ _ => rfl⟩
  rw [e1]
  obtain ⟨y1, y2, y3, y4, I1⟩ := z
  rw [show ob6 (some (t + 1, y1, y2, y3, y4, I1)) _ = (if t + 1 = 1 then some ((0 : Int32), I1) else ob1 (fm_R_changePartners y4 I1) (fun I186 => some ((1 : Int32), I186))) from rfl]
  rcases e2 with ⟨rfl, f, w, Q, g⟩ | ⟨rfl, i, b, w, Q, g1, g2, g3, g4, g5, g6, g7, g8, g9, g10, g11⟩
  · rw [if_pos rfl]
    replace g : q_BI Bm L nx a0 I0 w 0 f w I1 Q := g
    obtain ⟨c1, c2, c3, c4, c5, c6, c7, c8, c9, c10, c11⟩ := g
    refine ⟨0, I1, rfl, fun k h1 h2 h3 h4 => by rw [c11 k h3 h4, hfr k h4], .inl ⟨rfl, ?_, fun u => decide (∃ j, j < w ∧ Q j = u), fun b => L.testBit b && !(f.testBit b), ?_, ?_, ?_⟩⟩
    · intro j hj
      rw [c11 12 (by decide) (by decide), c11 13 (by decide) (by decide)]; exact hP' j hj
    · intro b hb hN
      obtain ⟨n1, n2⟩ := Bool.and_eq_true_iff.1 hN
      obtain ⟨j, j1, j2, j3⟩ := c7 b hb n1 (by simpa using n2)
      refine ⟨Q j, c6.1 j j2, (hK _ b (c6.1 j j2) hb).mp j3, j3, decide_eq_true ⟨j, j2, rfl⟩, ?_⟩
      intro q; rw [q, hn0] at j3; cases j3
    · intro u b hu hb hZ hLb hBb
      obtain ⟨j, j1, rfl⟩ := of_decide_eq_true hZ
      have := c9 j b j1 hb hLb hBb
      show (L.testBit b && !(f.testBit b)) = true
      rw [this, show L.testBit b = true from hLb]; rfl
    · exact decide_eq_true ⟨0, by omega, c4⟩
  · rw [if_neg (by decide)]
    replace g2 : y4 = nI b := g2
    replace g7 : I1 14 b = nI (Q i) := g7
    replace g9 : q_Q (q_Bm Bm) (q_Lm L) nx Q (I1 14) w := g9
    replace g11 : ∀ k', k' ≠ 14 → k' ≠ 15 → I1 k' = I0 k' := g11
    subst g2
    have hP1 : PS I1 12 13 nx pv := fun j hj => by
      have a1 : I1 12 = I0 12 := g11 12 (by decide) (by decide)
      have a2 : I1 13 = I0 13 := g11 13 (by decide) (by decide)
      rw [a1, a2]; exact hP' j hj
    have hw16 := q_inj16 g9.1 g9.2.1
    obtain ⟨I', nx', pv', d1, d2, ⟨d3, d4, d5, _, s, d6, d7, d8⟩, d9⟩ := change_eq hw16 g9 hP1 (q_fl_0 (Q := Q) (rf := I1 14) (w := w) (p := i) hK hE hV g3 g5 g1 g7 g6 g4)
    rw [d1, c_ob1]
    refine ⟨1, I', rfl, ?_, .inr ⟨rfl, nx', pv', d2, d3, d4, d5, ?_⟩⟩
    · intro k h1 h2 h3 h4
      have a1 : I1 k = I0 k := g11 k h3 h4
      rw [d9 k h1 h2, a1, hfr k h4]
    · have : s = 0 := by
        apply Nat.eq_zero_of_not_pos
        intro hs
        obtain ⟨b', q⟩ := g10 s hs d6
        rw [q] at d7; cases d7
      subst this
      intro u hu
      rw [d8 u hu, g8]
theorem q_M_of {B : Nat → Nat → Bool} {U L : Nat → Bool} {nx pv : Nat → Option Nat} (hK : q_K nx pv) (hE : q_E B L nx) (hU : ∀ u, u < 16 → (nx u).isSome = true → U u = true) : q_M B U L nx := by
  refine ⟨fun a b ha hn => ?_, fun a a' b ha ha' hn hn' => ?_⟩
  · obtain ⟨h1, h2, h3⟩ := hE a b ha hn
    exact ⟨hU a ha (by rw [hn]; rfl), h2, h1, h3⟩
  · have hb := (hE a b ha hn).1
    have q1 := (hK a b ha hb).mp hn
    have q2 := (hK a' b ha' hb).mp hn'
    rw [q1] at q2; cases q2; rfl
theorem q_c_in_le (X : Nat → Bool) {a : Nat} (ha : a < 16) : q_c (q_in X a) ≤ q_c X + 1 := by
  cases h : X a with
  | false => rw [q_c_in ha h]; exact Nat.le_refl _
  | true =>
    have : q_c (q_in X a) = q_c X := q_c_congr (fun i hi => by
      by_cases e : i = a
      · subst e; rw [q_in_same, h]
      · rw [q_in_ne _ e])
    omega
/-- the uppers below a -/
def q_Ua (U a : Nat) (u : Nat) : Bool := U.testBit u && decide (u < a)
theorem mostPairs_eq {Bm : Nat → Nat} {U L : Nat} {I : IS} (h3 : ∀ a, a < 16 → I 3 a = nI (Bm a) ∧ Bm a < 2 ^ 16) (hU : U < 2 ^ 16) (hL : L < 2 ^ 16) : ∃ m I', fm_R_mostPairs (nI U) (nI L) I = some (nI m, I') ∧ m ≤ 16 ∧ q_nu (q_Bm Bm) (q_Lm U) (q_Lm L) m ∧ (∀ k, k ≠ 12 → k ≠ 13 → k ≠ 14 → k ≠ 15 → I' k = I k) := by
  unfold fm_R_mostPairs
  obtain ⟨I1, f1, f2, f3⟩ := fillI_eq 12 16 (-1) I (by decide)
  obtain ⟨I2, f4, f5, f6⟩ := fillI_eq 13 16 (-1) I1 (by decide)
  rw [f1, c_ob1, f4, c_ob1]
  have h3' : ∀ a, a < 16 → I2 3 a = nI (Bm a) ∧ Bm a < 2 ^ 16 := fun a ha => by rw [f6 3 (by decide), f3 3 (by decide)]; exact h3 a ha
  obtain ⟨⟨x, y, I'⟩, e1, e2⟩ := iter_for (step := fun z : Int32 × Int32 × IS => fm_R_mostPairs_B22 (nI U) (nI L) z.1 z.2.1 z.2.2) (z0 := ((0 : Int32), (0 : Int32), I2))
    (fun a z => z.2.1 = nI a ∧ (∀ k, k ≠ 12 → k ≠ 13 → k ≠ 14 → k ≠ 15 → z.2.2 k = I2 k) ∧ ∃ nx pv X Y, PS z.2.2 12 13 nx pv ∧ q_K nx pv ∧ q_E (q_Bm Bm) (q_Lm L) nx ∧ q_V pv ∧ (∀ u, u < 16 → (nx u).isSome = true → q_Ua U a u = true) ∧ z.1 = nI (q_sz nx) ∧ q_C (q_Bm Bm) (q_Ua U a) (q_Lm L) X Y ∧ q_c X + q_c Y ≤ q_sz nx) 16 (by decide) (by
      intro a ⟨x, y, I3⟩ ha ⟨h1, h2, nx, pv, X, Y, a1, a2, a3, a4, a5, a6, a7, a8⟩
      replace h1 : y = nI a := h1
      replace a6 : x = nI (q_sz nx) := a6
      subst h1 a6
      replace h2 : ∀ k, k ≠ 12 → k ≠ 13 → k ≠ 14 → k ≠ 15 → I3 k = I2 k := h2
      replace a1 : PS I3 12 13 nx pv := a1
      have hq : q_sz nx ≤ 16 := q_c_16 _
      show ∃ z', fm_R_mostPairs_B22 (nI U) (nI L) (nI (q_sz nx)) (nI a) I3 = some (0, z') ∧ _
      unfold fm_R_mostPairs_B22
      rw [if_neg (n16 ha), holds_b (by omega) (by omega), c_ob1]
      have hUs : ∀ u, u < 16 → q_Ua U (a + 1) u = (q_Ua U a u || (U.testBit a && decide (u = a))) := by
        intro u hu
        unfold q_Ua
        by_cases e : u = a
        · subst e; rw [decide_eq_true (by omega : u < u + 1), decide_eq_false (Nat.lt_irrefl u), decide_eq_true rfl]; simp
        · by_cases e2 : u < a
          · rw [decide_eq_true (by omega : u < a + 1), decide_eq_true e2, decide_eq_false e]; simp
          · rw [decide_eq_false (by omega : ¬ u < a + 1), decide_eq_false e2, decide_eq_false e]; simp
      cases hUa : U.testBit a with
      | false =>
        rw [bI_pos, bnd_eq, c_1]
        refine ⟨_, rfl, rfl, h2, nx, pv, X, Y, a1, a2, a3, a4, ?_, rfl, ?_, a8⟩
        · intro u hu hs; rw [hUs u hu, a5 u hu hs]; rfl
        · exact q_C_congr (fun _ _ _ _ => rfl) (fun u hu => by rw [hUs u hu, hUa]; simp) (fun _ _ => rfl) a7
      | true =>
        have hn0 : nx a = none := by
          cases hn : nx a with
          | none => rfl
          | some b =>
            have := a5 a ha (by rw [hn]; rfl)
            unfold q_Ua at this
            rw [decide_eq_false (Nat.lt_irrefl a), Bool.and_false] at this; cases this
        have h33 : ∀ a, a < 16 → I3 3 a = nI (Bm a) ∧ Bm a < 2 ^ 16 := fun a ha => by
          rw [h2 3 (by decide) (by decide) (by decide) (by decide)]; exact h3' a ha
        obtain ⟨r, I4, p1, p2, p3⟩ := pairUp_eq h33 hL a1 a2 a3 a4 hn0 ha
        have hUin : ∀ u, u < 16 → q_in (q_Ua U a) a u = q_Ua U (a + 1) u := by
          intro u hu
          rw [hUs u hu, hUa]
          unfold q_in
          by_cases e : u = a
          · subst e; rw [q_beq_self, decide_eq_true rfl]; simp
          · rw [q_beq_ne e, decide_eq_false e]; simp
        have hfr : ∀ k, k ≠ 12 → k ≠ 13 → k ≠ 14 → k ≠ 15 → I4 k = I2 k := fun k k1 k2 k3 k4 => by rw [p2 k k1 k2 k3 k4, h2 k k1 k2 k3 k4]
        rw [bI_neg, p1, c_ob2]
        rcases p3 with ⟨rfl, p4, Z, N, p5, p6, p7⟩ | ⟨rfl, nx', pv', p4, p5, p6, p7, p8⟩
        · rw [if_pos rfl, bnd_eq, c_1]
          obtain ⟨g1, g2⟩ := q_fail (q_M_of a2 a3 a5) p5 p6 p7 a7 a8
          refine ⟨_, rfl, rfl, hfr, nx, pv, _, _, p4, a2, a3, a4, ?_, rfl, q_C_congr (fun _ _ _ _ => rfl) hUin (fun _ _ => rfl) g1, g2⟩
          intro u hu hs; rw [hUs u hu, a5 u hu hs]; rfl
        · rw [if_neg (by decide), bnd_eq, bnd_eq, c_1, c_1]
          have hsz : q_sz nx' = q_sz nx + 1 := by
            have e1 : q_sz nx' = q_c (q_in (fun u => (nx u).isSome) a) := q_c_congr (fun u hu => by
              show (nx' u).isSome = _
              rw [p8 u hu]
              unfold q_in
              by_cases e : u = a
              · subst e; rw [q_beq_self, decide_eq_true rfl]
              · rw [q_beq_ne e, decide_eq_false e])
            rw [e1, q_c_in ha (by show (nx a).isSome = false; rw [hn0]; rfl)]; rfl
          refine ⟨_, rfl, rfl, hfr, nx', pv', q_in X a, Y, p4, p5, p6, p7, ?_, by rw [hsz], ?_, ?_⟩
          · intro u hu hs
            rw [p8 u hu] at hs
            rw [hUs u hu, hUa, Bool.true_and]
            rcases (Bool.or_eq_true_iff.1 hs) with q | q
            · rw [a5 u hu q]; rfl
            · rw [q, Bool.or_true]
          · intro u b hu hb hu1 hLb hBb
            rw [← hUin u hu] at hu1
            rcases q_in_sub hu1 with q | q
            · rcases a7 u b hu hb q hLb hBb with q2 | q2
              · left
                by_cases e : u = a
                · subst e; exact q_in_same X u
                · rw [q_in_ne X e]; exact q2
              · exact .inr q2
            · left; subst q; exact q_in_same X u
          · have := q_c_in_le X ha
            omega) (by
      intro ⟨x, y, I3⟩ ⟨h1, _⟩
      have h1 : y = nI 16 := h1
      subst h1
      show fm_R_mostPairs_B22 (nI U) (nI L) x (nI 16) I3 = _
      unfold fm_R_mostPairs_B22
      rw [if_pos (by decide)]) ⟨rfl, fun _ _ _ _ _ => rfl, fun _ => none, fun _ => none, fun _ => false, fun _ => false, fun j hj => ⟨by show I2 12 j = _; rw [f6 12 (by decide)]; exact f2 j hj, f5 j hj⟩, fun u c _ _ => ⟨fun q => (by cases q), fun q => (by cases q)⟩, fun u c _ q => (by cases q), fun c u _ q => (by cases q), fun u _ q => (by cases q), (by show (0 : Int32) = nI (q_sz (fun _ => none)); rw [show q_sz (fun _ => none) = 0 from q_c_zero (fun _ _ => rfl)]; rfl), fun u b _ _ q => (by unfold q_Ua at q; rw [decide_eq_false (Nat.not_lt_zero u), Bool.and_false] at q; cases q), (by rw [show q_c (fun _ => false) = 0 from q_c_zero (fun _ _ => rfl)]; exact Nat.zero_le _)⟩
  obtain ⟨_, h2, nx, pv, X, Y, a1, a2, a3, a4, a5, a6, a7, a8⟩ := e2
  have a6 : x = nI (q_sz nx) := a6
  subst a6
  rw [e1, c_ob4]
  have hq : q_sz nx ≤ 16 := q_c_16 _
  have hU16 : ∀ u, u < 16 → q_Ua U 16 u = q_Lm U u := fun u hu => by unfold q_Ua q_Lm; rw [decide_eq_true hu, Bool.and_true]
  refine ⟨q_sz nx, I', rfl, hq, ⟨⟨nx, q_M_congr (fun _ _ _ _ => rfl) hU16 (fun _ _ => rfl) (q_M_of a2 a3 a5), rfl⟩, X, Y, q_C_congr (fun _ _ _ _ => rfl) hU16 (fun _ _ => rfl) a7, a8⟩, ?_⟩
  intro k k1 k2 k3 k4
  have : I' k = I2 k := h2 k k1 k2 k3 k4
  rw [this, f6 k k2, f3 k k1]
