/-! The reference's most pairs -/
theorem grow_eq {Bm : Nat → Nat} {W n : Nat} {nx pv : Nat → Option Nat} {I : IS} (h8 : I 8 0 = nI W) (hW : W < 2 ^ 16) (h9 : ∀ a, a < 16 → I 9 a = nI (Bm a) ∧ Bm a < 2 ^ 16) (hn : n ≤ 16) (hP : PS I 16 17 nx pv) (hK : q_K nx pv) (hE : q_E (q_Bm Bm) q_tt nx) (hV : q_V pv) :
    ∃ r I', fm_M_grow (fx n) I = some (r, I') ∧ (∀ k, k ≠ 16 → k ≠ 17 → k ≠ 18 → k ≠ 19 → I' k = I k) ∧
      ((r = 0 ∧ PS I' 16 17 nx pv ∧ ∃ Z N : Nat → Bool, (∀ b, b < 16 → N b = true → ∃ u, u < 16 ∧ pv b = some u ∧ nx u = some b ∧ Z u = true) ∧ (∀ u b, u < 16 → b < 16 → Z u = true → (∀ x, pv b = some x → n ≤ x) → q_Bm Bm u b = true → N b = true) ∧ (∀ u, u < 16 → n ≤ u → W.testBit u = true → nx u = none → Z u = true) ∧ (∀ u, Z u = true → n ≤ u)) ∨
       (r = 1 ∧ ∃ nx' pv' s, PS I' 16 17 nx' pv' ∧ q_K nx' pv' ∧ q_E (q_Bm Bm) q_tt nx' ∧ q_V pv' ∧ (∀ u, u < n → nx' u = nx u) ∧ n ≤ s ∧ s < 16 ∧ nx s = none ∧ ∀ u, u < 16 → (nx' u).isSome = ((nx u).isSome || decide (u = s)))) := by
  unfold fm_M_grow
  obtain ⟨I1, f1, f2, _, f3⟩ := mfill_eq (k := 19) fm_M_grow_B2 (fun _ _ => rfl) 0 (by decide) I
  rw [show ((0 : Int32), I) = (nI 0, I) from rfl, f1, c_ob3, bnd_eq, fx_1]
  have hP1 : PS I1 16 17 nx pv := fun j hj => by rw [f3 16 (by decide), f3 17 (by decide)]; exact hP j hj
  obtain ⟨w, I2, Q, g1, g2, ⟨g3, g4, g5⟩, g6⟩ := begin_eq (I := I1) (n := n) (by rw [f3 8 (by decide)]; exact h8) hW hP1 hE hn
  rw [g1, c_ob4]
  have h92 : ∀ a, a < 16 → I2 9 a = nI (Bm a) ∧ Bm a < 2 ^ 16 := fun a ha => by rw [g6 9 (by decide), f3 9 (by decide)]; exact h9 a ha
  have hP2 : PS I2 16 17 nx pv := fun j hj => by rw [g6 16 (by decide), g6 17 (by decide)]; exact hP1 j hj
  have h19 : ∀ b, b < 16 → I2 19 b = -1 := fun b hb => by rw [g6 19 (by decide)]; exact f2 b (Nat.zero_le _) hb
  have hfr : ∀ k, k ≠ 18 → k ≠ 19 → I2 k = I k := fun k k1 k2 => by rw [g6 k k1, f3 k k2]
  have hw16 := q_inj16 (fun j hj => (g3 j hj).1) g4
  obtain ⟨t, z, e1, e2⟩ := iter_inv (step := fun z : Int32 × Int32 × Int32 × IS => fm_M_grow_B77 (fx n) z.1 z.2.1 z.2.2.1 z.2.2.2) (z0 := (nI w, (0 : Int32), (0 : Int32), I2))
    (fun i z => ∃ w Q N, i ≤ w ∧ z = (nI w, nI i, (0 : Int32), z.2.2.2) ∧ q_GI Bm W n nx pv I2 i 0 w z.2.2.2 Q N)
    (fun t z => (t = 0 ∧ ∃ w Q N, q_GI Bm W n nx pv I2 w 0 w z.2.2.2 Q N) ∨ (t = 1 ∧ ∃ i b w Q, i < w ∧ z.2.2.1 = nI b ∧ b < 16 ∧ pv b = none ∧ (Bm (Q i)).testBit b = true ∧ z.2.2.2 19 b = nI (Q i) ∧ (∀ j, j < w → n ≤ Q j) ∧ q_Q (q_Bm Bm) q_tt nx Q (z.2.2.2 19) w ∧ (∀ k', k' ≠ 18 → k' ≠ 19 → z.2.2.2 k' = I2 k'))) 16 (by decide) (by
      intro i ⟨x1, x2, x3, I3⟩ hi ⟨w, Q, N, hiw, e, hB⟩
      have e1 : x1 = nI w := congrArg (fun z => z.1) e
      have e2 : x2 = nI i := congrArg (fun z => z.2.1) e
      have e3 : x3 = 0 := congrArg (fun z => z.2.2.1) e
      subst e1 e2 e3
      replace hB : q_GI Bm W n nx pv I2 i 0 w I3 Q N := hB
      have hw16 := q_inj16 hB.2.1.1 hB.2.1.2.1
      by_cases hew : i = w
      · subst hew
        right
        refine ⟨0, (nI i, nI i, 0, I3), ?_, .inl ⟨rfl, i, Q, N, hB⟩⟩
        show fm_M_grow_B77 (fx n) (nI i) (nI i) 0 I3 = _
        unfold fm_M_grow_B77
        rw [if_pos (nI_le (Nat.le_refl _) (by omega))]
      · have hlt : i < w := by omega
        obtain ⟨t, z, q1, q2⟩ := growIn_eq h92 hn hP2 hK hV hlt hB
        have st : fm_M_grow_B77 (fx n) (nI w) (nI i) 0 I3 = (if t + 1 = 1 then some (0, z.1, nI (i + 1), (0 : Int32), z.2.2) else some (2, nI w, nI i, z.2.1, z.2.2)) := by
          unfold fm_M_grow_B77
          rw [if_neg (nI_ge hlt (by omega)), c_in (by omega) (by decide), c_gr, c_cl (by omega), (hB.1 i hlt).1, bnd_eq, bnd_eq, q1]
          obtain ⟨y1, y2, y3⟩ := z
          rw [c_ob4, c_1]
        rcases q2 with ⟨rfl, w', Q', N', g1, g2, g3⟩ | ⟨rfl, b, w', Q', g1, g2, g3⟩
        · left
          refine ⟨by omega, (nI w', nI (i + 1), 0, z.2.2), ?_, w', Q', N', by omega, rfl, ?_⟩
          · show fm_M_grow_B77 (fx n) (nI w) (nI i) 0 I3 = _
            rw [st, if_pos rfl, g2]
          · show q_GI Bm W n nx pv I2 (i + 1) 0 w' z.2.2 Q' N'
            obtain ⟨c1, c2, c3, c4, c5, c6, c7, c8, c9⟩ := g3
            refine ⟨c1, c2, c3, c4, c5, c6, ?_, fun b hb => absurd hb (Nat.not_lt_zero _), c9⟩
            intro j b hj hb hLb hBb
            by_cases ej : j = i
            · subst ej; exact c8 b hb hLb hBb
            · exact c7 j b (by omega) hb hLb hBb
        · right
          refine ⟨1, (nI w, nI i, z.2.1, z.2.2), ?_, .inr ⟨rfl, i, b, w', Q', by omega, g2, g3⟩⟩
          show fm_M_grow_B77 (fx n) (nI w) (nI i) 0 I3 = _
          rw [st, if_neg (by decide)]) ⟨w, Q, fun _ => false, by omega, rfl, fun j hj => ⟨g2 j hj, (g3 j hj).2.1⟩, ⟨fun j hj => (g3 j hj).1, g4, fun j hj => .inl (g3 j hj).2.2.2⟩, fun b hb => .inl ⟨rfl, h19 b hb⟩, fun b _ q => (by cases q), fun j b hj q => (by rw [(g3 j hj).2.2.2] at q; cases q), g5, fun j b hj => absurd hj (Nat.not_lt_zero _), fun b hb => absurd hb (Nat.not_lt_zero _), fun _ _ _ => rfl⟩
  rw [e1]
  obtain ⟨y1, y2, y4, I3⟩ := z
  rw [show ob5 (some (t + 1, y1, y2, y4, I3)) _ = (if t + 1 = 1 then some ((0 : Int32), I3) else ob1 (fm_M_turnAbout y4 I3) (fun I309 => some ((1 : Int32), I309))) from rfl]
  rcases e2 with ⟨rfl, w, Q, N, g⟩ | ⟨rfl, i, b, w, Q, d1, d2, d3, d4, d5, d6, d7, d8, d9⟩
  · rw [if_pos rfl]
    replace g : q_GI Bm W n nx pv I2 w 0 w I3 Q N := g
    obtain ⟨c1, c2, c3, c4, c5, c6, c7, c8, c9⟩ := g
    refine ⟨0, I3, rfl, fun k h1 h2 h3 h4 => by rw [c9 k h3 h4, hfr k h3 h4], .inl ⟨rfl, ?_, fun u => decide (∃ j, j < w ∧ Q j = u), N, ?_, ?_, ?_, ?_⟩⟩
    · intro j hj
      rw [c9 16 (by decide) (by decide), c9 17 (by decide) (by decide)]; exact hP2 j hj
    · intro b hb hN
      obtain ⟨j, j2, j3⟩ := c4 b hb hN
      exact ⟨Q j, c2.1 j j2, (hK _ b (c2.1 j j2) hb).mp j3, j3, decide_eq_true ⟨j, j2, rfl⟩⟩
    · intro u b hu hb hZ hLb hBb
      obtain ⟨j, j1, rfl⟩ := of_decide_eq_true hZ
      exact c7 j b j1 hb hLb hBb
    · intro u hu hnu hWu hnn
      exact decide_eq_true (c6 u hnu hu hWu hnn)
    · intro u hZ
      obtain ⟨j, j1, rfl⟩ := of_decide_eq_true hZ
      exact (c1 j j1).2
  · rw [if_neg (by decide)]
    replace d2 : y4 = nI b := d2
    replace d6 : I3 19 b = nI (Q i) := d6
    replace d8 : q_Q (q_Bm Bm) q_tt nx Q (I3 19) w := d8
    replace d9 : ∀ k', k' ≠ 18 → k' ≠ 19 → I3 k' = I2 k' := d9
    subst d2
    have hP3 : PS I3 16 17 nx pv := fun j hj => by
      rw [d9 16 (by decide) (by decide), d9 17 (by decide) (by decide)]; exact hP2 j hj
    have hw16 := q_inj16 d8.1 d8.2.1
    obtain ⟨I', nx', pv', c1, c2, ⟨c3, c4, c5, c6, s, c7, c8, c9⟩, c10⟩ := about_eq hw16 d8 hP3 (q_fl_0 (Q := Q) (rf := I3 19) (w := w) (p := i) hK hE hV d3 rfl d1 d6 d5 d4)
    rw [c1, c_ob1]
    refine ⟨1, I', rfl, ?_, .inr ⟨rfl, nx', pv', Q s, c2, c3, c4, c5, ?_, d7 s c7, d8.1 s c7, c8, c9⟩⟩
    · intro k h1 h2 h3 h4
      rw [c10 k h1 h2, d9 k h3 h4, hfr k h3 h4]
    · intro u hu
      exact c6 u (fun j hj q => by have := d7 j hj; omega)
/-- the lowers that are not taken by entries below n -/
def q_fL (nx : Nat → Option Nat) (n : Nat) (b : Nat) : Bool := decide (∀ x, x < n → nx x ≠ some b)
def q_fU (W n : Nat) (u : Nat) : Bool := W.testBit u && decide (n ≤ u)
def q_up (n : Nat) (nx : Nat → Option Nat) (u : Nat) : Option Nat := if u < n then none else nx u
theorem q_up_some {n : Nat} {nx : Nat → Option Nat} {u b : Nat} (h : q_up n nx u = some b) : n ≤ u ∧ nx u = some b := by
  unfold q_up at h
  by_cases e : u < n
  · rw [if_pos e] at h; cases h
  · rw [if_neg e] at h; exact ⟨by omega, h⟩
theorem q_up_ge {n : Nat} {nx : Nat → Option Nat} {u : Nat} (h : n ≤ u) : q_up n nx u = nx u := by unfold q_up; rw [if_neg (by omega)]
theorem q_up_M {B : Nat → Nat → Bool} {W n : Nat} {nx pv : Nat → Option Nat} (hn : n ≤ 16) (hBW : ∀ a b, B a b = true → W.testBit a = true ∧ W.testBit b = true) (hK : q_K nx pv) (hE : q_E B q_tt nx) : q_M B (q_fU W n) (q_fL nx n) (q_up n nx) := by
  refine ⟨fun a b ha h => ?_, fun a a' b ha ha' h h' => ?_⟩
  · obtain ⟨h1, h2⟩ := q_up_some h
    obtain ⟨h3, _, h4⟩ := hE a b ha h2
    refine ⟨?_, ?_, h3, h4⟩
    · unfold q_fU; rw [(hBW a b h4).1, decide_eq_true h1]; rfl
    · apply decide_eq_true
      intro x hx q
      have q1 := (hK x b (by omega) h3).mp q
      rw [(hK a b ha h3).mp h2] at q1
      cases q1
      omega
  · obtain ⟨h1, h2⟩ := q_up_some h
    obtain ⟨h1', h2'⟩ := q_up_some h'
    have h3 := (hE a b ha h2).1
    have q1 := (hK a b ha h3).mp h2
    rw [(hK a' b ha' h3).mp h2'] at q1
    cases q1; rfl
theorem mmost_eq {Bm : Nat → Nat} {W n : Nat} {f : Nat → Option Nat} {I : IS} (h8 : I 8 0 = nI W) (hW : W < 2 ^ 16) (h9 : ∀ a, a < 16 → I 9 a = nI (Bm a) ∧ Bm a < 2 ^ 16) (hBW : ∀ a b, q_Bm Bm a b = true → W.testBit a = true ∧ W.testBit b = true) (hn : n ≤ 16) (hf : ∀ a, a < n → I 16 a = oI (f a)) (hfB : ∀ a b, a < n → f a = some b → b < 16 ∧ q_Bm Bm a b = true) (hfi : ∀ a a' b, a < n → a' < n → f a = some b → f a' = some b → a = a') :
    ∃ m I', fm_M_most (fx n) I = some (nI m, I') ∧ m ≤ 16 ∧ q_nu (q_Bm Bm) (q_fU W n) (q_fL f n) m ∧ (∀ a, a < n → I' 16 a = oI (f a)) ∧ (∀ k, k ≠ 16 → k ≠ 17 → k ≠ 18 → k ≠ 19 → I' k = I k) := by
  unfold fm_M_most
  rw [bnd_eq, fx_1]
  obtain ⟨I1, f1, f2, f2', f3⟩ := mfill_eq (k := 16) fm_M_most_B4 (fun _ _ => rfl) n hn I
  obtain ⟨I2, f4, f5, _, f6⟩ := mfill_eq (k := 17) fm_M_most_B25 (fun _ _ => rfl) 0 (by decide) I1
  rw [f1, c_ob3, show ((0 : Int32), I1) = (nI 0, I1) from rfl, f4, c_ob3]
  -- the fixed ones are written down
  have hl : ∀ j, j < n → I2 16 j = oI (f j) := fun j hj => by rw [f6 16 (by decide), f2' j hj]; exact hf j hj
  have hh : ∀ j, n ≤ j → j < 16 → I2 16 j = oI none := fun j h1 h2 => by rw [f6 16 (by decide)]; exact f2 j h1 h2
  obtain ⟨I3, g1, g2, g3⟩ : ∃ I3, iter (fun z : Int32 × IS => fm_M_most_B46 (fx n) z.1 z.2) FU ((0 : Int32), I2) = some (1, nI n, I3) ∧ (∃ pv : Nat → Option Nat, (∀ b, b < 16 → I3 17 b = oI (pv b)) ∧ (∀ b u, b < 16 → (pv b = some u ↔ u < n ∧ f u = some b))) ∧ (∀ k, k ≠ 17 → I3 k = I2 k) := by
    apply for2 (fm_M_most_B46 (fx n)) (fun i I4 => (∃ pv : Nat → Option Nat, (∀ b, b < 16 → I4 17 b = oI (pv b)) ∧ (∀ b u, b < 16 → (pv b = some u ↔ u < i ∧ f u = some b))) ∧ (∀ k, k ≠ 17 → I4 k = I2 k)) n (by omega) (I0 := I2)
    · exact ⟨⟨fun _ => none, fun b hb => f5 b (Nat.zero_le _) hb, fun b u _ => ⟨fun q => (by cases q), fun q => absurd q.1 (Nat.not_lt_zero _)⟩⟩, fun _ _ => rfl⟩
    · intro i I4 hi ⟨⟨pv, p1, p2⟩, p3⟩
      unfold fm_M_most_B46
      rw [if_neg (fun q => by have := (fx_lt (by omega) (by omega)).mp q; omega), c_in (by omega) (by decide), c_gr, c_cl (by omega), p3 16 (by decide), hl i hi]
      cases hfi' : f i with
      | none =>
        rw [if_pos (show oI none < 0 from m1_lt), bnd_eq, c_1]
        refine ⟨I4, rfl, ⟨pv, p1, fun b u hb => ?_⟩, p3⟩
        rw [p2 b u hb]
        constructor
        · intro ⟨q1, q2⟩; exact ⟨by omega, q2⟩
        · intro ⟨q1, q2⟩
          by_cases e : u = i
          · subst e; rw [hfi'] at q2; cases q2
          · exact ⟨by omega, q2⟩
      | some b0 =>
        have hb0 := (hfB i b0 hi hfi').1
        rw [oI_some, if_neg (nI_pos (by omega)), c_gr, c_in hb0 (by decide), c_gr, c_cl (by omega), bnd_eq, bnd_eq, c_1]
        refine ⟨_, rfl, ⟨upo pv b0 (some i), fun b hb => ?_, fun b u hb => ?_⟩, fun k hk => by rw [sI_ne hk]; exact p3 k hk⟩
        · by_cases e : b = b0
          · subst e; rw [sI_same, upo_same]; rfl
          · rw [sI_idx e, upo_ne _ _ e]; exact p1 b hb
        · by_cases e : b = b0
          · subst e
            rw [upo_same]
            constructor
            · intro q; cases q; exact ⟨by omega, hfi'⟩
            · intro ⟨q1, q2⟩; rw [hfi u i b (by omega) hi q2 hfi']
          · rw [upo_ne _ _ e, p2 b u hb]
            constructor
            · intro ⟨q1, q2⟩; exact ⟨by omega, q2⟩
            · intro ⟨q1, q2⟩
              by_cases e2 : u = i
              · subst e2; rw [hfi'] at q2; cases q2; exact absurd rfl e
              · exact ⟨by omega, q2⟩
    · intro I4 _
      unfold fm_M_most_B46
      rw [if_pos ((fx_lt (by omega) (by omega)).mpr (Nat.le_refl _))]
  rw [g1, c_ob3]
  obtain ⟨pv, p1, p2⟩ := g2
  let nx : Nat → Option Nat := fun u => if u < n then f u else none
  have nlo : ∀ u, u < n → nx u = f u := fun u hu => by show (if u < n then f u else none) = _; rw [if_pos hu]
  have nhi : ∀ u, n ≤ u → nx u = none := fun u hu => by show (if u < n then f u else none) = _; rw [if_neg (by omega)]
  have hP : PS I3 16 17 nx pv := fun j hj => by
    refine ⟨?_, p1 j hj⟩
    rw [g3 16 (by decide)]
    by_cases e : j < n
    · rw [nlo j e]; exact hl j e
    · rw [nhi j (by omega)]; exact hh j (by omega) hj
  have hK : q_K nx pv := fun u c hu hc => by
    rw [p2 c u hc]
    by_cases e : u < n
    · rw [nlo u e]; exact ⟨fun q => ⟨e, q⟩, fun q => q.2⟩
    · rw [nhi u (by omega)]; exact ⟨fun q => (by cases q), fun q => absurd q.1 e⟩
  have hE : q_E (q_Bm Bm) q_tt nx := fun u c hu hnc => by
    by_cases e : u < n
    · rw [nlo u e] at hnc; have := hfB u c e hnc; exact ⟨this.1, rfl, this.2⟩
    · rw [nhi u (by omega)] at hnc; cases hnc
  have hV : q_V pv := fun c u hc hpc => by have := ((p2 c u hc).mp hpc).1; omega
  have hfr : ∀ k, k ≠ 16 → k ≠ 17 → I3 k = I k := fun k k1 k2 => by rw [g3 k k2, f6 k k2, f3 k k1]
  obtain ⟨t, ⟨x, I'⟩, e1, rfl, nx', pv', m, e2, e3⟩ := iter_inv (step := fun z : Int32 × IS => fm_M_most_B80 (fx n) z.1 z.2) (z0 := ((0 : Int32), I3))
    (fun i z => z.1 = nI i ∧ (∀ k, k ≠ 16 → k ≠ 17 → k ≠ 18 → k ≠ 19 → z.2 k = I3 k) ∧ ∃ nx' pv', PS z.2 16 17 nx' pv' ∧ q_K nx' pv' ∧ q_E (q_Bm Bm) q_tt nx' ∧ q_V pv' ∧ (∀ u, u < n → nx' u = f u) ∧ q_sz (q_up n nx') = i)
    (fun t z => t = 0 ∧ ∃ nx' pv' m, z.1 = nI m ∧ m ≤ 16 ∧ (∀ k, k ≠ 16 → k ≠ 17 → k ≠ 18 → k ≠ 19 → z.2 k = I3 k) ∧ PS z.2 16 17 nx' pv' ∧ (∀ u, u < n → nx' u = f u) ∧ q_nu (q_Bm Bm) (q_fU W n) (q_fL f n) m) 16 (by decide) (by
      intro i ⟨x, I4⟩ hi ⟨h1, h2, nx', pv', a1, a2, a3, a4, a5, a6⟩
      replace h1 : x = nI i := h1
      subst h1
      replace h2 : ∀ k, k ≠ 16 → k ≠ 17 → k ≠ 18 → k ≠ 19 → I4 k = I3 k := h2
      replace a1 : PS I4 16 17 nx' pv' := a1
      have h84 : I4 8 0 = nI W := by rw [h2 8 (by decide) (by decide) (by decide) (by decide), hfr 8 (by decide) (by decide)]; exact h8
      have h94 : ∀ a, a < 16 → I4 9 a = nI (Bm a) ∧ Bm a < 2 ^ 16 := fun a ha => by rw [h2 9 (by decide) (by decide) (by decide) (by decide), hfr 9 (by decide) (by decide)]; exact h9 a ha
      obtain ⟨r, I5, c1, c2, c3⟩ := grow_eq h84 hW h94 hn a1 a2 a3 a4
      have hfr5 : ∀ k, k ≠ 16 → k ≠ 17 → k ≠ 18 → k ≠ 19 → I5 k = I3 k := fun k k1 k2 k3 k4 => by rw [c2 k k1 k2 k3 k4, h2 k k1 k2 k3 k4]
      have hLL : ∀ b, b < 16 → q_fL nx' n b = q_fL f n b := fun b _ => by
        unfold q_fL
        apply decide_eq_decide.mpr
        constructor
        · intro q x hx; rw [← a5 x hx]; exact q x hx
        · intro q x hx; rw [a5 x hx]; exact q x hx
      have hM := q_up_M hn hBW a2 a3
      rcases c3 with ⟨rfl, c4, Z, N, d1, d2, d3, d4⟩ | ⟨rfl, nx2, pv2, s, c4, c5, c6, c7, c8, c9, c10, c11, c12⟩
      · right
        refine ⟨0, (nI i, I5), ?_, rfl, nx', pv', i, rfl, hi, hfr5, c4, a5, ?_⟩
        · show fm_M_most_B80 (fx n) (nI i) I4 = _
          unfold fm_M_most_B80
          rw [c1, c_ob2, if_pos rfl]
        · obtain ⟨k1, k2⟩ := q_stop (B := q_Bm Bm) (U := q_fU W n) (L := q_fL nx' n) (Z := Z) (N := N) (nx := q_up n nx') (pv := pv') (fun b hb hN => by
            obtain ⟨u, u1, u2, u3, u4⟩ := d1 b hb hN
            exact ⟨u, u1, u2, by rw [q_up_ge (d4 u u4)]; exact u3, u4⟩) (fun u b hu hb hZ hL hB => d2 u b hu hb hZ (fun x hx => by
              apply Nat.le_of_not_lt
              intro q
              exact of_decide_eq_true hL x q ((a2 x b (by omega) hb).mpr hx)) hB) (fun u hu hU hnn => by
              obtain ⟨q1, q2⟩ := Bool.and_eq_true_iff.1 hU
              have q3 := of_decide_eq_true q2
              rw [q_up_ge q3] at hnn
              exact d3 u hu q3 q1 hnn)
          rw [a6] at k2
          exact q_nu_congr (fun _ _ _ _ => rfl) (fun _ _ => rfl) hLL ⟨⟨_, hM, a6⟩, _, _, k1, k2⟩
      · left
        have hsz : q_sz (q_up n nx2) = i + 1 := by
          have e1 : q_sz (q_up n nx2) = q_c (q_in (fun u => (q_up n nx' u).isSome) s) := q_c_congr (fun u hu => by
            by_cases e : u < n
            · have q1 : q_up n nx2 u = none := by unfold q_up; rw [if_pos e]
              have q2 : q_up n nx' u = none := by unfold q_up; rw [if_pos e]
              show (q_up n nx2 u).isSome = ((q_up n nx' u).isSome || Nat.beq u s)
              rw [q1, q2, q_beq_ne (by omega)]; rfl
            · show (q_up n nx2 u).isSome = ((q_up n nx' u).isSome || Nat.beq u s)
              rw [q_up_ge (by omega), q_up_ge (by omega), c12 u hu]
              by_cases e2 : u = s
              · subst e2; rw [q_beq_self, decide_eq_true rfl]
              · rw [q_beq_ne e2, decide_eq_false e2])
          rw [e1, q_c_in c10 (by show (q_up n nx' s).isSome = false; rw [q_up_ge c9, c11]; rfl)]
          show q_sz (q_up n nx') + 1 = i + 1
          rw [a6]
        have hi16 : i + 1 ≤ 16 := by rw [← hsz]; exact q_c_16 _
        refine ⟨by omega, (nI (i + 1), I5), ?_, rfl, hfr5, nx2, pv2, c4, c5, c6, c7, fun u hu => by rw [c8 u hu]; exact a5 u hu, hsz⟩
        show fm_M_most_B80 (fx n) (nI i) I4 = _
        unfold fm_M_most_B80
        rw [c1, c_ob2, if_neg (by decide), bnd_eq, c_1]) ⟨rfl, fun _ _ _ _ _ => rfl, nx, pv, hP, hK, hE, hV, nlo, by
        apply q_c_zero
        intro u _
        show (q_up n nx u).isSome = false
        unfold q_up
        by_cases e : u < n
        · rw [if_pos e]; rfl
        · rw [if_neg e, nhi u (by omega)]; rfl⟩
  replace e2 : x = nI m := e2
  subst e2
  obtain ⟨e4, e5, e6, e7, e8⟩ := e3
  rw [e1, c_ob3]
  refine ⟨m, I', rfl, e4, e8, fun a ha => ?_, fun k k1 k2 k3 k4 => ?_⟩
  · have := (e6 a (by omega)).1
    rw [e7 a ha] at this
    exact this
  · have : I' k = I3 k := e5 k k1 k2 k3 k4
    rw [this, hfr k k1 k2]
