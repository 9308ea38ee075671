/-! What lies above what; sums of ranks; the evenest pair -/
def hb2 (W : Nat) (B : Nat → Nat) (x y : Int32) : Bool := hb W x && (hb W y && (B x.toNatClampNeg).testBit y.toNatClampNeg)
theorem isAbove_eq {I : IS} {W : Nat} {B : Nat → Nat} (h5 : I 5 0 = nI W) (hW : W < 2 ^ 16) (h3 : ∀ a, a < 16 → I 3 a = nI (B a) ∧ B a < 2 ^ 16) (x y : Int32) : fm_H_isAbove x y I = some (bI (hb2 W B x y)) := by
  unfold fm_H_isAbove
  rw [has_eq h5 hW, c_ob1]
  cases hx : hb W x with
  | false => rw [bI_pos]; unfold hb2; rw [hx]; rfl
  | true =>
    rw [bI_neg, has_eq h5 hW, c_ob1]
    cases hy : hb W y with
    | false => rw [bI_pos]; unfold hb2; rw [hx, hy]; rfl
    | true =>
      obtain ⟨a, ha, rfl, _⟩ := hb_t hx
      obtain ⟨b, hb', rfl, _⟩ := hb_t hy
      have h31 := (h3 a ha).2
      rw [bI_neg, c_in ha (by decide), c_gr, c_cl (by omega), (h3 a ha).1, holds_b (by omega) (by omega), c_ob1]
      unfold hb2
      rw [hx, hy, c_cl (by omega), c_cl (by omega), Bool.true_and, Bool.true_and]
      cases (B a).testBit b <;> rfl
theorem hb2_in (W : Nat) (B : Nat → Nat) {a b : Nat} (ha : a < 16) (hb' : b < 16) (hBW : ∀ x y, (B x).testBit y = true → W.testBit x = true ∧ W.testBit y = true) : hb2 W B (nI a) (nI b) = (B a).testBit b := by
  unfold hb2
  rw [hb_in W ha, hb_in W hb', c_cl (by omega), c_cl (by omega)]
  cases h : (B a).testBit b with
  | false => simp
  | true => rw [(hBW _ _ h).1, (hBW _ _ h).2]; rfl
def q_mr (W : Nat) (A T F : Nat → Nat) (a : Nat) (k : Nat) : Nat := q_sum (fun r => (r + 1) * q_ST W A T F a r) k
theorem q_mr_lt {W : Nat} {A T F : Nat → Nat} (hc : Ct W A T F) {a : Nat} (ha : a < 16) (hWa : W.testBit a = true) : q_mr W A T F a 16 < 2 ^ 63 := by
  have h1 : q_mr W A T F a 16 ≤ q_sum (fun _ => 16 * 2 ^ 50) 16 := q_sum_le (fun r hr => by
    have h2 := q_ST_le hc ha hWa r
    have h3 := hc.2.2.1 0 (q_sub_0 W)
    have h4 : (r + 1) * q_ST W A T F a r ≤ 16 * 2 ^ 50 := Nat.mul_le_mul (by omega) (by omega)
    exact h4)
  rw [q_sum_const] at h1
  exact Nat.lt_of_le_of_lt h1 (by decide)
theorem sumRanks_eq {J : JS} {W : Nat} {A T F : Nat → Nat} (h1 : ∀ i, i < 256 → J 1 i = lN (q_ST W A T F (i / 16) (i % 16))) {a : Nat} (ha : a < 16) : fm_T_sumOfRanks (nI a) J = some (lN (q_mr W A T F a 16)) := by
  unfold fm_T_sumOfRanks
  rw [iter_st (z0 := ((0 : Int64), (1 : Int32))) (fun k => (lN (q_mr W A T F a k), nI (k + 1))) 16 0 (z := (lN (q_mr W A T F a 16), nI 17)) (by omega) rfl]
  · rfl
  · intro k hk
    show fm_T_sumOfRanks_B5 (nI a) J (lN (q_mr W A T F a k)) (nI (k + 1)) = _
    unfold fm_T_sumOfRanks_B5
    have e : nI a * (16 : Int32) + nI (k + 1) - 1 = nI (16 * a + k) := by
      rw [c_lit 16, pk_mul, nI_add, show a * 16 + (k + 1) = (16 * a + k) + 1 by omega, nI_pred]
    rw [if_neg (show ¬ (16 : Int32) < nI (k + 1) from nI_nlt (a := 16) (b := k + 1) (by omega) (by decide)), e, c_in (by omega) (by decide), c_gr, c_cl (by omega), h1 _ (by omega), bnd_eq, bnd_eq, c_1, nI_l (by omega), lN_mul, lN_add, show (16 * a + k) / 16 = a by omega, show (16 * a + k) % 16 = k by omega]
    rfl
  · show fm_T_sumOfRanks_B5 (nI a) J (lN (q_mr W A T F a 16)) (nI 17) = _
    unfold fm_T_sumOfRanks_B5
    rw [if_pos (by decide)]
/-- a pair is looked at -/
def q_gp (d : Int64) : Int64 := if 0 < d then d else -d
theorem q_gp' (d : Int64) : (if 0 ≤ lg_cmp d 0 then d else -d) = q_gp d := by
  unfold q_gp
  by_cases h : 0 < d
  · rw [if_pos h, if_pos]
    rw [lg_cmp_ge]; exact Int64.le_of_lt h
  · rw [if_neg h]
    by_cases h2 : d = 0
    · subst h2; rw [if_pos (by decide)]; rfl
    · rw [if_neg]
      rw [lg_cmp_ge]
      intro q
      rcases Int64.lt_or_eq_of_le q with q | q
      · exact h q
      · exact h2 q.symm
def q_es (op : Nat → Nat → Bool) (g : Nat → Nat → Int64) (a b : Nat) (st : Int32 × Int64) : Int32 × Int64 := cond (op a b && (decide (st.1 = -1) || decide (g a b < st.2))) (nI (16 * a + b), g a b) st
def q_ei (op : Nat → Nat → Bool) (g : Nat → Nat → Int64) (a : Nat) (st : Int32 × Int64) : Nat → Int32 × Int64
  | 0 => st
  | k + 1 => q_es op g a (a + 1 + k) (q_ei op g a st k)
def q_eo (op : Nat → Nat → Bool) (g : Nat → Nat → Int64) : Nat → Int32 × Int64
  | 0 => (-1, 0)
  | a + 1 => q_ei op g a (q_eo op g a) (15 - a)
def q_e1 (x : Int32) : Prop := x = -1 ∨ ∃ p, p < 256 ∧ x = nI p
theorem q_es_1 {op : Nat → Nat → Bool} {g : Nat → Nat → Int64} {a b : Nat} (ha : a < 16) (hb : b < 16) {st : Int32 × Int64} (h : q_e1 st.1) : q_e1 (q_es op g a b st).1 := by
  unfold q_es
  cases (op a b && (decide (st.1 = -1) || decide (g a b < st.2))) with
  | false => exact h
  | true => exact .inr ⟨16 * a + b, by omega, rfl⟩
theorem q_ei_1 {op : Nat → Nat → Bool} {g : Nat → Nat → Int64} {a : Nat} (ha : a < 16) {st : Int32 × Int64} (h : q_e1 st.1) : ∀ k, k ≤ 15 - a → q_e1 (q_ei op g a st k).1
  | 0, _ => h
  | k + 1, hk => q_es_1 ha (by omega) (q_ei_1 ha h k (by omega))
theorem q_eo_1 {op : Nat → Nat → Bool} {g : Nat → Nat → Int64} : ∀ a, a ≤ 16 → q_e1 (q_eo op g a).1
  | 0, _ => .inl rfl
  | a + 1, ha => q_ei_1 (by omega) (q_eo_1 a (by omega)) _ (Nat.le_refl _)
def q_open (W : Nat) (B : Nat → Nat) (a b : Nat) : Bool := W.testBit a && (W.testBit b && (!((B a).testBit b) && !((B b).testBit a)))
theorem isOpen_eq {I : IS} {W : Nat} {B : Nat → Nat} (h5 : I 5 0 = nI W) (hW : W < 2 ^ 16) (h3 : ∀ a, a < 16 → I 3 a = nI (B a) ∧ B a < 2 ^ 16) (hBW : ∀ x y, (B x).testBit y = true → W.testBit x = true ∧ W.testBit y = true) {a b : Nat} (ha : a < 16) (hb' : b < 16) : fm_T_isOpen (nI a) (nI b) I = some (bI (q_open W B a b)) := by
  unfold fm_T_isOpen q_open
  rw [has_eq h5 hW, c_ob1, hb_in W ha]
  cases W.testBit a with
  | false => rfl
  | true =>
    rw [bI_neg, has_eq h5 hW, c_ob1, hb_in W hb']
    cases W.testBit b with
    | false => rfl
    | true =>
      rw [bI_neg, isAbove_eq h5 hW h3, c_ob1, hb2_in W B ha hb' hBW]
      cases (B a).testBit b with
      | true => rfl
      | false =>
        rw [bI_pos, isAbove_eq h5 hW h3, c_ob1, hb2_in W B hb' ha hBW]
        cases (B b).testBit a <;> rfl
def q_gap2 (W : Nat) (A T F : Nat → Nat) (a b : Nat) : Int64 := q_gp (lN (q_AH W A T F a b) - lN (q_AH W A T F b a))
theorem c_16 {a b : Nat} : nI a * (16 : Int32) + nI b = nI (16 * a + b) := by rw [c_lit 16, pk_mul, nI_add, Nat.mul_comm]
theorem c_16' {a b : Nat} : (16 : Int32) * nI a + nI b = nI (16 * a + b) := by rw [c_lit 16, pk_mul, nI_add]
theorem q_open_W {W : Nat} {B : Nat → Nat} {a b : Nat} (h : q_open W B a b = true) : W.testBit a = true ∧ W.testBit b = true := by
  unfold q_open at h
  rw [Bool.and_eq_true, Bool.and_eq_true] at h
  exact ⟨h.1, h.2.1⟩
theorem even_step {I : IS} {J : JS} {W : Nat} {B A T F : Nat → Nat} (h5 : I 5 0 = nI W) (hW : W < 2 ^ 16) (h3 : ∀ a, a < 16 → I 3 a = nI (B a) ∧ B a < 2 ^ 16) (hBW : ∀ x y, (B x).testBit y = true → W.testBit x = true ∧ W.testBit y = true) (hT : Tl J W A T F) {a b : Nat} (ha : a < b) (hb' : b < 16) (st : Int32 × Int64) : fm_T_evenestPair_B20 I J (nI a) st.1 st.2 (nI b) = some (0, (q_es (q_open W B) (q_gap2 W A T F) a b st).1, (q_es (q_open W B) (q_gap2 W A T F) a b st).2, nI (b + 1)) := by
  unfold fm_T_evenestPair_B20
  rw [if_neg (n16 hb'), c_16, c_16, bnd_eq, c_in (by omega) (by decide), c_gr, c_in (by omega) (by decide), c_gr, c_cl (by omega), c_cl (by omega), bnd_eq, isOpen_eq h5 hW h3 hBW (by omega) hb', c_ob1, c_1]
  simp only [bnd_eq]
  unfold q_es
  cases ho : q_open W B a b with
  | false => rw [bI_pos]; rfl
  | true =>
    have hw := q_open_W ho
    have e1 : J 2 (16 * a + b) = lN (q_AH W A T F a b) := by
      have := hT.2.2 (16 * a + b) (by omega) (by omega) (by rw [show (16 * a + b) / 16 = a by omega]; exact hw.1) (by rw [show (16 * a + b) % 16 = b by omega]; exact hw.2)
      rw [this, show (16 * a + b) / 16 = a by omega, show (16 * a + b) % 16 = b by omega]
    have e2 : J 2 (16 * b + a) = lN (q_AH W A T F b a) := by
      have := hT.2.2 (16 * b + a) (by omega) (by omega) (by rw [show (16 * b + a) / 16 = b by omega]; exact hw.2) (by rw [show (16 * b + a) % 16 = a by omega]; exact hw.1)
      rw [this, show (16 * b + a) / 16 = b by omega, show (16 * b + a) % 16 = a by omega]
    rw [bI_neg, e1, e2]
    have e3 : (if 0 < lN (q_AH W A T F a b) - lN (q_AH W A T F b a) then lN (q_AH W A T F a b) - lN (q_AH W A T F b a) else -(lN (q_AH W A T F a b) - lN (q_AH W A T F b a))) = q_gap2 W A T F a b := rfl
    rw [e3]
    by_cases hs : st.1 = -1
    · rw [if_pos hs, decide_eq_true hs]; rfl
    · rw [if_neg hs, decide_eq_false hs, Bool.true_and, Bool.false_or]
      by_cases hg : q_gap2 W A T F a b < st.2
      · rw [decide_eq_true hg, if_neg (by rw [lg_cmp_ge]; exact Int64.not_le.mpr hg)]; rfl
      · rw [decide_eq_false hg, if_pos (by rw [lg_cmp_ge]; exact Int64.not_lt.mp hg)]; rfl
theorem evenest_eq {I : IS} {J : JS} {W : Nat} {B A T F : Nat → Nat} (h5 : I 5 0 = nI W) (hW : W < 2 ^ 16) (h3 : ∀ a, a < 16 → I 3 a = nI (B a) ∧ B a < 2 ^ 16) (hBW : ∀ x y, (B x).testBit y = true → W.testBit x = true ∧ W.testBit y = true) (hT : Tl J W A T F) : fm_T_evenestPair I J = some (q_eo (q_open W B) (q_gap2 W A T F) 16).1 := by
  unfold fm_T_evenestPair
  rw [iter_st (z0 := ((-1 : Int32), (0 : Int64), (0 : Int32))) (fun a => ((q_eo (q_open W B) (q_gap2 W A T F) a).1, (q_eo (q_open W B) (q_gap2 W A T F) a).2, nI a)) 16 0 (z := ((q_eo (q_open W B) (q_gap2 W A T F) 16).1, (q_eo (q_open W B) (q_gap2 W A T F) 16).2, nI 16)) (by omega) rfl]
  · rfl
  · intro a ha
    show fm_T_evenestPair_B7 I J (q_eo (q_open W B) (q_gap2 W A T F) a).1 (q_eo (q_open W B) (q_gap2 W A T F) a).2 (nI a) = _
    unfold fm_T_evenestPair_B7
    rw [if_neg (n16 ha), bnd_eq, c_1]
    generalize hst : q_eo (q_open W B) (q_gap2 W A T F) a = st
    rw [iter_st (z0 := (st.1, st.2, nI (a + 1))) (fun k => ((q_ei (q_open W B) (q_gap2 W A T F) a st k).1, (q_ei (q_open W B) (q_gap2 W A T F) a st k).2, nI (a + 1 + k))) (15 - a) 0 (z := ((q_ei (q_open W B) (q_gap2 W A T F) a st (15 - a)).1, (q_ei (q_open W B) (q_gap2 W A T F) a st (15 - a)).2, nI 16)) (by omega) rfl]
    · rw [c_ob4, bnd_eq, ← hst]; rfl
    · intro k hk
      show fm_T_evenestPair_B20 I J (nI a) (q_ei (q_open W B) (q_gap2 W A T F) a st k).1 (q_ei (q_open W B) (q_gap2 W A T F) a st k).2 (nI (a + 1 + k)) = _
      rw [even_step h5 hW h3 hBW hT (by omega) (by omega)]; rfl
    · show fm_T_evenestPair_B20 I J (nI a) (q_ei (q_open W B) (q_gap2 W A T F) a st (15 - a)).1 (q_ei (q_open W B) (q_gap2 W A T F) a st (15 - a)).2 (nI (a + 1 + (15 - a))) = _
      rw [show a + 1 + (15 - a) = 16 by omega]
      unfold fm_T_evenestPair_B20
      rw [if_pos (by decide)]
  · show fm_T_evenestPair_B7 I J (q_eo (q_open W B) (q_gap2 W A T F) 16).1 (q_eo (q_open W B) (q_gap2 W A T F) 16).2 (nI 16) = _
    unfold fm_T_evenestPair_B7
    rw [if_pos (by decide)]
theorem mask_step {I : IS} {J : JS} {W : Nat} {B A T F : Nat → Nat} (h8 : I 8 0 = nI W) (hW : W < 2 ^ 16) (h9 : ∀ a, a < 16 → I 9 a = nI (B a) ∧ B a < 2 ^ 16) (h2 : ∀ i, i < 256 → i / 16 ≠ i % 16 → J 2 i = lN (q_AH W A T F (i / 16) (i % 16))) {a b : Nat} (ha : a < b) (hb' : b < 16) {st : Int32 × Int64} (h1 : q_e1 st.1) : fm_M_ask_B50 I J (nI a) st.1 st.2 (nI b) = some (0, (q_es (q_open W B) (q_gap2 W A T F) a b st).1, (q_es (q_open W B) (q_gap2 W A T F) a b st).2, nI (b + 1)) := by
  have ha16 : a < 16 := by omega
  have hBa := (h9 a ha16).2
  have hBb := (h9 b hb').2
  have e1 : J 2 (16 * a + b) = lN (q_AH W A T F a b) := by
    rw [h2 (16 * a + b) (by omega) (by omega), show (16 * a + b) / 16 = a by omega, show (16 * a + b) % 16 = b by omega]
  have e2 : J 2 (16 * b + a) = lN (q_AH W A T F b a) := by
    rw [h2 (16 * b + a) (by omega) (by omega), show (16 * b + a) / 16 = b by omega, show (16 * b + a) % 16 = a by omega]
  have hneg : (st.1 < 0) ↔ st.1 = -1 := by
    rcases h1 with h | ⟨p, hp, h⟩
    · rw [h]; decide
    · rw [h]
      have := nI_pos (n := p) (by omega)
      constructor
      · intro q; exact absurd q this
      · intro q; rw [q] at this; exact absurd m1_lt this
  have key : ∀ c : Bool, fm_M_ask_j118 J (nI a) st.1 st.2 (nI b) (bI c) = some (0, (cond (c && (decide (st.1 = -1) || decide (q_gap2 W A T F a b < st.2))) (nI (16 * a + b), q_gap2 W A T F a b) st).1, (cond (c && (decide (st.1 = -1) || decide (q_gap2 W A T F a b < st.2))) (nI (16 * a + b), q_gap2 W A T F a b) st).2, nI (b + 1)) := by
    intro c
    have k1 : ∀ y, y = q_gap2 W A T F a b → fm_M_ask_j161 (nI a) st.1 st.2 (nI b) (bI c) y = some (0, (cond (c && (decide (st.1 = -1) || decide (q_gap2 W A T F a b < st.2))) (nI (16 * a + b), q_gap2 W A T F a b) st).1, (cond (c && (decide (st.1 = -1) || decide (q_gap2 W A T F a b < st.2))) (nI (16 * a + b), q_gap2 W A T F a b) st).2, nI (b + 1)) := by
      intro y hy
      subst hy
      unfold fm_M_ask_j161 fm_M_ask_j178
      simp only [bnd_eq, c_16', c_1]
      cases c with
      | false => rw [bI_pos]; rfl
      | true =>
        rw [bI_neg]
        by_cases hs : st.1 = -1
        · rw [if_pos (hneg.mpr hs), decide_eq_true hs]; rfl
        · rw [if_neg (fun q => hs (hneg.mp q)), decide_eq_false hs, Bool.true_and, Bool.false_or]
          by_cases hg : q_gap2 W A T F a b < st.2
          · rw [decide_eq_true hg, if_neg (by rw [lg_cmp_ge]; exact Int64.not_le.mpr hg)]; rfl
          · rw [decide_eq_false hg, if_pos (by rw [lg_cmp_ge]; exact Int64.not_lt.mp hg)]; rfl
    unfold fm_M_ask_j118
    rw [c_16', c_16', c_in (by omega) (by decide), c_gr, c_in (by omega) (by decide), c_gr, c_cl (by omega), c_cl (by omega), e1, e2, bnd_eq]
    by_cases hd : 0 ≤ lg_cmp (lN (q_AH W A T F a b) - lN (q_AH W A T F b a)) 0
    · rw [if_pos hd]
      apply k1
      unfold q_gap2
      rw [← q_gp', if_pos hd]
    · rw [if_neg hd, bnd_eq]
      apply k1
      unfold q_gap2
      rw [← q_gp', if_neg hd]
  unfold fm_M_ask_B50
  rw [if_neg (n16 hb'), h8, c_in ha16 (by decide), c_gr, c_cl (by omega), (h9 a ha16).1, c_in hb' (by decide), c_gr, c_cl (by omega), (h9 b hb').1]
  unfold fm_M_ask_j117
  have kf := key false
  have kt := key true
  unfold q_es
  have o : q_open W B a b = (W.testBit a && (W.testBit b && (!((B a).testBit b) && !((B b).testBit a)))) := rfl
  rw [o]
  cases hA : W.testBit a with
  | false => rw [if_neg (fun q => by rw [(m_bit1 (by omega) (by omega)).mp q] at hA; cases hA)]; exact kf
  | true =>
    rw [if_pos ((m_bit1 (by omega) (by omega)).mpr hA)]
    cases hB : W.testBit b with
    | false => rw [if_neg (fun q => by rw [(m_bit1 (by omega) (by omega)).mp q] at hB; cases hB)]; exact kf
    | true =>
      rw [if_pos ((m_bit1 (by omega) (by omega)).mpr hB)]
      cases hC : (B a).testBit b with
      | true => rw [if_neg (fun q => by rw [(m_bit0 (by omega) (by omega)).mp q] at hC; cases hC)]; exact kf
      | false =>
        rw [if_pos ((m_bit0 (by omega) (by omega)).mpr hC)]
        cases hD : (B b).testBit a with
        | true => rw [if_neg (fun q => by rw [(m_bit0 (by omega) (by omega)).mp q] at hD; cases hD)]; exact kf
        | false => rw [if_pos ((m_bit0 (by omega) (by omega)).mpr hD)]; exact kt
theorem mask_eq {I : IS} {J : JS} {W : Nat} {B A T F : Nat → Nat} (h8 : I 8 0 = nI W) (hW : W < 2 ^ 16) (h9 : ∀ a, a < 16 → I 9 a = nI (B a) ∧ B a < 2 ^ 16) (h2 : ∀ i, i < 256 → i / 16 ≠ i % 16 → J 2 i = lN (q_AH W A T F (i / 16) (i % 16))) : iter (fun z : Int32 × Int64 × Int32 => fm_M_ask_B37 I J z.1 z.2.1 z.2.2) FU ((-1 : Int32), (0 : Int64), (0 : Int32)) = some (1, (q_eo (q_open W B) (q_gap2 W A T F) 16).1, (q_eo (q_open W B) (q_gap2 W A T F) 16).2, nI 16) := by
  apply iter_st (fun a => ((q_eo (q_open W B) (q_gap2 W A T F) a).1, (q_eo (q_open W B) (q_gap2 W A T F) a).2, nI a)) 16 0 (by omega) rfl
  · intro a ha
    show fm_M_ask_B37 I J (q_eo (q_open W B) (q_gap2 W A T F) a).1 (q_eo (q_open W B) (q_gap2 W A T F) a).2 (nI a) = _
    unfold fm_M_ask_B37
    rw [if_neg (n16 ha), bnd_eq, c_1]
    have h1 := q_eo_1 (op := q_open W B) (g := q_gap2 W A T F) a (by omega)
    generalize hst : q_eo (q_open W B) (q_gap2 W A T F) a = st at *
    rw [iter_st (z0 := (st.1, st.2, nI (a + 1))) (fun k => ((q_ei (q_open W B) (q_gap2 W A T F) a st k).1, (q_ei (q_open W B) (q_gap2 W A T F) a st k).2, nI (a + 1 + k))) (15 - a) 0 (z := ((q_ei (q_open W B) (q_gap2 W A T F) a st (15 - a)).1, (q_ei (q_open W B) (q_gap2 W A T F) a st (15 - a)).2, nI 16)) (by omega) rfl]
    · rw [c_ob4, bnd_eq, ← hst]; rfl
    · intro k hk
      show fm_M_ask_B50 I J (nI a) (q_ei (q_open W B) (q_gap2 W A T F) a st k).1 (q_ei (q_open W B) (q_gap2 W A T F) a st k).2 (nI (a + 1 + k)) = _
      rw [mask_step h8 hW h9 h2 (by omega) (by omega) (q_ei_1 ha h1 k (by omega))]; rfl
    · show fm_M_ask_B50 I J (nI a) (q_ei (q_open W B) (q_gap2 W A T F) a st (15 - a)).1 (q_ei (q_open W B) (q_gap2 W A T F) a st (15 - a)).2 (nI (a + 1 + (15 - a))) = _
      rw [show a + 1 + (15 - a) = 16 by omega]
      unfold fm_M_ask_B50
      rw [if_pos (by decide)]
  · show fm_M_ask_B37 I J (q_eo (q_open W B) (q_gap2 W A T F) 16).1 (q_eo (q_open W B) (q_gap2 W A T F) 16).2 (nI 16) = _
    unfold fm_M_ask_B37
    rw [if_pos (by decide)]
