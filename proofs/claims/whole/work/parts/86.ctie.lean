/-! The class's widest tie, and all that it arranges -/
theorem q_wd_congr {B : Nat → Nat → Bool} {S S' : Nat → Bool} {k : Nat} (h : ∀ i, i < 16 → S i = S' i) (hw : q_wd B S k) : q_wd B S' k := by
  obtain ⟨⟨T, h1, h2, h3⟩, h4⟩ := hw
  exact ⟨⟨T, fun i hi q => by rw [← h i hi]; exact h1 i hi q, h2, h3⟩, fun T hT hA => h4 T (fun i hi q => by rw [h i hi]; exact hT i hi q) hA⟩
theorem q_A_congr {B : Nat → Nat → Bool} {T T' : Nat → Bool} (h : ∀ i, i < 16 → T i = T' i) (hA : q_A B T) : q_A B T' := fun a b ha hb h1 h2 => hA a b ha hb (by rw [h a ha]; exact h1) (by rw [h b hb]; exact h2)
theorem q_T_congr {B : Nat → Nat → Bool} {S T T' : Nat → Bool} (h : ∀ i, i < 16 → T i = T' i) (hT : q_T B S T) : q_T B S T' := by
  obtain ⟨h1, h2, h3, h4⟩ := hT
  have hc : q_c T = q_c T' := q_c_congr h
  refine ⟨fun i hi q => h1 i hi (by rw [h i hi]; exact q), q_A_congr h h2, by rw [← hc]; exact h3, fun X hX hA hX2 => ?_⟩
  rcases h4 X hX hA (by rw [hc]; exact hX2) with ⟨a, g1, g2, g3, g4⟩ | q
  · exact .inl ⟨a, g1, by rw [← h a g1]; exact g2, g3, fun i hi => by rw [← h i (by omega)]; exact g4 i hi⟩
  · exact .inr (fun i hi => by rw [← h i hi]; exact q i hi)
theorem widthOf_eq {Bm : Nat → Nat} {S : Nat} {I : IS} (h3 : ∀ a, a < 16 → I 3 a = nI (Bm a) ∧ Bm a < 2 ^ 16) (ht : ∀ a b c, a < 16 → b < 16 → c < 16 → q_Bm Bm a b = true → q_Bm Bm b c = true → q_Bm Bm a c = true) (hS : S < 2 ^ 16) : ∃ m I', fm_R_widthOf (nI S) I = some (nI (q_pop S - m), I') ∧ m ≤ q_pop S ∧ q_nu (q_Bm Bm) (q_Lm S) (q_Lm S) m ∧ q_wd (q_Bm Bm) (q_Lm S) (q_pop S - m) ∧ (∀ k, k ≠ 12 → k ≠ 13 → k ≠ 14 → k ≠ 15 → I' k = I k) := by
  unfold fm_R_widthOf
  obtain ⟨m, I', m1, m2, m3, m4⟩ := mostPairs_eq h3 hS hS
  obtain ⟨d1, d2⟩ := q_dil ht m3
  have d2 : m ≤ q_pop S := d2
  rw [bitCount_eq hS, c_ob1, m1, c_ob2, pk_sub d2]
  exact ⟨m, I', rfl, d2, m3, d1, m4⟩
theorem m_2shl {a : Nat} (ha : a < 16) : ((2 : Int32) <<< (nI a &&& 31)) - 1 = nI (2 ^ (a + 1) - 1) := by
  have h1 : (2 : Int32) <<< (nI a &&& 31) = nI (2 * 2 ^ a) := by
    have h2 : 2 ^ a ≤ 2 ^ 16 := Nat.pow_le_pow_right (by decide) (by omega)
    exact pk_shlN (n := 2) (nI a &&& 31) a (m_sm a (by omega)) (by omega)
  have h3 : 2 * 2 ^ a = 2 ^ (a + 1) := by rw [Nat.pow_succ, Nat.mul_comm]
  have h4 : 0 < 2 ^ (a + 1) := Nat.pow_pos (by decide)
  rw [h1, h3]
  exact pk_sub (b := 1) h4
theorem cTie_eq {Bm Am : Nat → Nat} {W w : Nat} {I : IS} (h5 : I 5 0 = nI W) (hW : W < 2 ^ 16) (h3 : ∀ a, a < 16 → I 3 a = nI (Bm a) ∧ Bm a < 2 ^ 16) (h4 : ∀ a, a < 16 → I 4 a = nI (Am a) ∧ Am a < 2 ^ 16) (hAB : ∀ a b, (Am a).testBit b = (Bm b).testBit a) (ht : ∀ a b c, a < 16 → b < 16 → c < 16 → q_Bm Bm a b = true → q_Bm Bm b c = true → q_Bm Bm a c = true) (hi : ∀ a, a < 16 → q_Bm Bm a a = false) (hw : q_wd (q_Bm Bm) (q_Lm W) w) (hw16 : w ≤ 16) (h9 : I 9 0 = nI w) : ∃ I' C, fm_R_chooseTie I = some I' ∧ C < 2 ^ 16 ∧ I' 11 0 = nI C ∧ q_T (q_Bm Bm) (q_Lm W) (q_Lm C) ∧ (∀ k, k ≠ 11 → k ≠ 12 → k ≠ 13 → k ≠ 14 → k ≠ 15 → I' k = I k) := by
  unfold fm_R_chooseTie
  rw [bnd_eq, bnd_eq, bnd_eq, sV_ne (by decide), sV_ne (by decide), h5, h9]
  obtain ⟨⟨x1, x2, x3, I'⟩, e1, Cm, Pm, C, P, m, e2, e3, e4⟩ := iter_for (step := fun z : Int32 × Int32 × Int32 × IS => fm_R_chooseTie_B18 z.1 z.2.1 z.2.2.1 z.2.2.2) (z0 := (nI W, nI w, (0 : Int32), sV I 11 0))
    (fun a z => ∃ Cm Pm C P m, z = (nI Pm, nI m, nI a, z.2.2.2) ∧ (Cm < 2 ^ 16 ∧ Pm < 2 ^ 16 ∧ m ≤ 16 ∧ z.2.2.2 11 0 = nI Cm ∧ (∀ i, i < 16 → Cm.testBit i = C i) ∧ (∀ i, i < 16 → Pm.testBit i = P i) ∧ q_G (q_Bm Bm) (q_Lm W) w a C P m) ∧ (∀ k, k ≠ 11 → k ≠ 12 → k ≠ 13 → k ≠ 14 → k ≠ 15 → z.2.2.2 k = I k)) 16 (by decide) (by
      intro a ⟨x1, x2, x3, I1⟩ ha ⟨Cm, Pm, C, P, m, e, ⟨a1, a2, a3, a4, a5, a6, a7⟩, h2⟩
      have e1 : x1 = nI Pm := congrArg (fun z => z.1) e
      have e2 : x2 = nI m := congrArg (fun z => z.2.1) e
      have e3 : x3 = nI a := congrArg (fun z => z.2.2.1) e
      subst e1 e2 e3
      replace a4 : I1 11 0 = nI Cm := a4
      replace h2 : ∀ k, k ≠ 11 → k ≠ 12 → k ≠ 13 → k ≠ 14 → k ≠ 15 → I1 k = I k := h2
      have h31 : ∀ a, a < 16 → I1 3 a = nI (Bm a) ∧ Bm a < 2 ^ 16 := fun a ha => by rw [h2 3 (by decide) (by decide) (by decide) (by decide) (by decide)]; exact h3 a ha
      have e4 : I1 4 = I 4 := h2 4 (by decide) (by decide) (by decide) (by decide) (by decide)
      let O : Nat := dif (dif (dif Pm (2 ^ (a + 1) - 1)) (Bm a)) (Am a)
      have o1 : dif Pm (2 ^ (a + 1) - 1) < 2 ^ 16 := Nat.lt_of_le_of_lt (dif_le _ _) a2
      have o2 : dif (dif Pm (2 ^ (a + 1) - 1)) (Bm a) < 2 ^ 16 := Nat.lt_of_le_of_lt (dif_le _ _) o1
      have hO : O < 2 ^ 16 := Nat.lt_of_le_of_lt (dif_le _ _) o2
      have hOb : ∀ i, i < 16 → O.testBit i = q_O (q_Bm Bm) P a i := by
        intro i hi16
        show (dif (dif (dif Pm (2 ^ (a + 1) - 1)) (Bm a)) (Am a)).testBit i = _
        rw [dif_bit (by omega), dif_bit (by omega), dif_bit (by omega), Nat.testBit_two_pow_sub_one, a6 i hi16, hAB a i]
        unfold q_O q_Bm
        by_cases q : i < a + 1
        · rw [decide_eq_true q, decide_eq_false (by omega : ¬ a + 1 ≤ i)]; simp
        · rw [decide_eq_false q, decide_eq_true (by omega : a + 1 ≤ i)]
          cases P i <;> cases (Bm a).testBit i <;> cases (Bm i).testBit a <;> rfl
      obtain ⟨mo, I2, w1, w2, _, w4, w5⟩ := widthOf_eq h31 ht hO
      have wO := q_wd_congr (fun i hi => hOb i hi) w4
      have hO16 := q_pop_16 O
      obtain ⟨s1, s2⟩ := q_G_step hi ha a7 wO
      have hfr : ∀ k, k ≠ 11 → k ≠ 12 → k ≠ 13 → k ≠ 14 → k ≠ 15 → I2 k = I k := fun k k0 k1 k2 k3 k4 => by rw [w5 k k1 k2 k3 k4, h2 k k0 k1 k2 k3 k4]
      have e11 : I2 11 0 = nI Cm := by rw [w5 11 (by decide) (by decide) (by decide) (by decide)]; exact a4
      show ∃ z', fm_R_chooseTie_B18 (nI Pm) (nI m) (nI a) I1 = some (0, z') ∧ _
      have st : fm_R_chooseTie_B18 (nI Pm) (nI m) (nI a) I1 = (if bI (Pm.testBit a) = 0 then some (0, nI Pm, nI m, nI (a + 1), I1) else if nI (q_pop O - mo) = fx m then some (0, nI O, nI m + (-1), nI (a + 1), sV I2 11 (nI (Cm ||| 2 ^ a))) else some (0, nI Pm, nI m, nI (a + 1), I2)) := by
        unfold fm_R_chooseTie_B18
        rw [if_neg (n16 ha), c_in ha (by decide), c_gr, c_gr, c_cl (by omega), m_2shl ha, m_dif, (h31 a ha).1, m_dif, e4, (h4 a ha).1, m_dif, bnd_eq, holds_b (by omega) (by omega), c_ob1, w1]
        simp only [c_ob2, bnd_eq, c_1, e11]
        rw [c_shl (by omega), m_or]
        rfl
      rw [st]
      cases hP : Pm.testBit a with
      | false =>
        rw [bI_pos]
        refine ⟨_, rfl, Cm, Pm, C, P, m, rfl, ⟨a1, a2, a3, a4, a5, a6, s2 ?_⟩, h2⟩
        intro q; rw [← a6 a ha, hP] at q; cases q.1
      | true =>
        rw [bI_neg]
        by_cases hm : q_pop O - mo + 1 = m
        · rw [if_pos ((fx_eq (by omega) (by omega)).mpr hm)]
          have hm1 : m = (q_pop O - mo) + 1 := hm.symm
          rw [hm1, pk_m1]
          refine ⟨_, rfl, Cm ||| 2 ^ a, O, q_in C a, q_O (q_Bm Bm) P a, q_pop O - mo, rfl, ⟨or_lt a1 (Nat.pow_lt_pow_right (by decide) ha), hO, by omega, ?_, ?_, hOb, s1 ⟨by rw [← a6 a ha]; exact hP, hm⟩⟩, ?_⟩
          · exact sV_same (I := I2) (k := 11) (x := nI (Cm ||| 2 ^ a)) (j := 0)
          · intro i hi16
            rw [q_or_bit]
            unfold q_in
            rw [a5 i hi16]
          · intro k k0 k1 k2 k3 k4
            show sV I2 11 _ k = _
            rw [sV_ne k0]; exact hfr k k0 k1 k2 k3 k4
        · rw [if_neg (fun q => hm ((fx_eq (by omega) (by omega)).mp q))]
          exact ⟨_, rfl, Cm, Pm, C, P, m, rfl, ⟨a1, a2, a3, e11, a5, a6, s2 (fun q => hm q.2)⟩, hfr⟩) (by
      intro ⟨x1, x2, x3, I1⟩ ⟨Cm, Pm, C, P, m, e, _⟩
      have e3 : x3 = nI 16 := congrArg (fun z => z.2.2.1) e
      subst e3
      show fm_R_chooseTie_B18 x1 x2 (nI 16) I1 = _
      unfold fm_R_chooseTie_B18
      rw [if_pos (by decide)]) ⟨0, W, fun _ => false, q_Lm W, w, rfl, ⟨by decide, hW, hw16, sV_same (I := I) (k := 11) (x := 0) (j := 0), fun i _ => Nat.zero_testBit i, fun _ _ => rfl, q_G_start hw⟩, fun k k0 _ _ _ _ => sV_ne k0⟩
  rw [e1]
  obtain ⟨a1, a2, a3, a4, a5, a6, a7⟩ := e3
  refine ⟨I', Cm, rfl, a1, a4, q_T_congr (fun i hi => (a5 i hi).symm) (q_G_end hw a7).1, e4⟩
def RK (I : IS) (W : Nat) (Bm : Nat → Nat) : Prop := ∃ m f p C, m ≤ q_pop W ∧ q_nu (q_Bm Bm) (q_Lm W) (q_Lm W) m ∧ I 9 0 = nI (q_pop W - m) ∧ q_FO (q_Bm Bm) W m 16 f p ∧ (∀ a, a < 16 → I 10 a = oI (f a)) ∧ C < 2 ^ 16 ∧ I 11 0 = nI C ∧ q_T (q_Bm Bm) (q_Lm W) (q_Lm C) ∧ q_pop C = q_pop W - m
theorem arrange_eq {Bm Am : Nat → Nat} {W : Nat} {I : IS} (h5 : I 5 0 = nI W) (hW : W < 2 ^ 16) (h3 : ∀ a, a < 16 → I 3 a = nI (Bm a) ∧ Bm a < 2 ^ 16) (h4 : ∀ a, a < 16 → I 4 a = nI (Am a) ∧ Am a < 2 ^ 16) (hAB : ∀ a b, (Am a).testBit b = (Bm b).testBit a) (hBW : ∀ a b, q_Bm Bm a b = true → W.testBit a = true ∧ W.testBit b = true) (ht : ∀ a b c, a < 16 → b < 16 → c < 16 → q_Bm Bm a b = true → q_Bm Bm b c = true → q_Bm Bm a c = true) (hi : ∀ a, a < 16 → q_Bm Bm a a = false) : ∃ I', fm_R_arrange I = some I' ∧ I' 8 0 = 1 ∧ RK I' W Bm ∧ (∀ k, k < 8 ∨ 15 < k → I' k = I k) := by
  unfold fm_R_arrange
  rw [h5]
  obtain ⟨m, I1, w1, w2, w3, w4, w5⟩ := widthOf_eq h3 ht hW
  rw [w1, c_ob2, bnd_eq]
  have hfr1 : ∀ k, k < 8 ∨ 15 < k → sV I1 9 (nI (q_pop W - m)) k = I k := fun k hk => by rw [sV_ne (by omega), w5 k (by omega) (by omega) (by omega) (by omega)]
  obtain ⟨I2, f, p, f1, f2, f3, f4⟩ := follow_eq (Bm := Bm) (I := sV I1 9 (nI (q_pop W - m))) (W := W) (m := m) (by rw [hfr1 5 (by omega)]; exact h5) hW (fun a ha => by rw [hfr1 3 (by omega)]; exact h3 a ha) hBW w2 sV_same
  rw [f1, c_ob1]
  have hfr2 : ∀ k, k < 8 ∨ 15 < k → I2 k = I k := fun k hk => by rw [f4 k (by omega) (by omega) (by omega) (by omega) (by omega)]; exact hfr1 k hk
  have h29 : I2 9 0 = nI (q_pop W - m) := by rw [f4 9 (by decide) (by decide) (by decide) (by decide) (by decide), sV_same]
  have hp16 := q_pop_16 W
  obtain ⟨I3, C, c1, c2, c3, c4, c5⟩ := cTie_eq (Bm := Bm) (Am := Am) (I := I2) (W := W) (w := q_pop W - m) (by rw [hfr2 5 (by omega)]; exact h5) hW (fun a ha => by rw [hfr2 3 (by omega)]; exact h3 a ha) (fun a ha => by rw [hfr2 4 (by omega)]; exact h4 a ha) hAB ht hi w4 (by omega) h29
  rw [c1, c_ob1, bnd_eq]
  refine ⟨_, rfl, sV_same, ⟨m, f, p, C, w2, w3, ?_, f2, fun a ha => ?_, c2, ?_, c4, ?_⟩, fun k hk => ?_⟩
  · rw [sV_ne (by decide), c5 9 (by decide) (by decide) (by decide) (by decide) (by decide)]; exact h29
  · rw [sV_ne (by decide), c5 10 (by decide) (by decide) (by decide) (by decide) (by decide)]; exact f3 a ha
  · rw [sV_ne (by decide)]; exact c3
  · exact q_wd_eq c4.2.2.1 w4
  · rw [sV_ne (by omega), c5 k (by omega) (by omega) (by omega) (by omega) (by omega)]; exact hfr2 k hk
