/-! bitCount and numberOfTrailingZeros of small numbers -/
def q_bc (w : Nat) : Nat :=
  (fun x1 => (fun x6 => (fun x11 => (fun x16 => (x16 + x16 / 65536) &&& 63) (x11 + x11 / 256)) ((x6 + x6 / 16) &&& 252645135)) ((x1 &&& 858993459) + ((x1 / 4) &&& 858993459))) (w - ((w / 2) &&& 1431655765))
def q_bt (w : Nat) : Bool := Nat.beq (q_bc w) (q_bc (w / 2) + w % 2)
def q_br : Nat → Nat → Bool
  | 0, b => q_bt b
  | n + 1, b => q_br n (2 * b) && q_br n (2 * b + 1)
theorem q_br_all : ∀ n b, q_br n b = true → ∀ i, i < 2 ^ n → q_bt (2 ^ n * b + i) = true
  | 0, b, h, i, hi => by
    have : i = 0 := by simpa using hi
    subst this
    have h : q_bt b = true := h
    simpa using h
  | n + 1, b, h, i, hi => by
    obtain ⟨h1, h2⟩ := Bool.and_eq_true_iff.1 h
    by_cases q : i < 2 ^ n
    · have := q_br_all n (2 * b) h1 i q
      rw [show 2 ^ (n + 1) * b = 2 ^ n * (2 * b) by rw [Nat.pow_succ, Nat.mul_assoc]]
      exact this
    · have := q_br_all n (2 * b + 1) h2 (i - 2 ^ n) (by rw [Nat.pow_succ] at hi; omega)
      rw [show 2 ^ (n + 1) * b + i = 2 ^ n * (2 * b + 1) + (i - 2 ^ n) by rw [Nat.pow_succ, Nat.mul_assoc, Nat.mul_add, Nat.mul_one]; omega]
      exact this
theorem q_br_16 : q_br 16 0 = true := by decide +kernel
theorem q_bc_pn : ∀ n w, w < 2 ^ n → n ≤ 16 → q_bc w = q_pn n w
  | 0, w, h, _ => by
    have : w = 0 := by simpa using h
    subst this; decide +kernel
  | n + 1, w, h, hn => by
    have h1 := q_br_all 16 0 q_br_16 w (Nat.lt_of_lt_of_le h (Nat.pow_le_pow_right (by decide) hn))
    rw [Nat.mul_zero, Nat.zero_add] at h1
    have h1 := q_beq_eq h1
    rw [h1, q_bc_pn n (w / 2) (by rw [Nat.pow_succ] at h; omega) (by omega)]; rfl
theorem q_bc_pop {w : Nat} (h : w < 2 ^ 16) : q_bc w = q_pop w := by
  rw [q_bc_pn 16 w h (by decide), q_pn_cn]; rfl
theorem u_shr {w : Nat} (hw : w < 2 ^ 32) (s : Int32) (k : Nat) (hs : ((s.toUInt32 &&& Int32.toUInt32 31).toBitVec % 32).toNat = k) : ((nI w).toUInt32 >>> (s.toUInt32 &&& Int32.toUInt32 31)).toInt32 = nI (w / 2 ^ k) := pk_ushrN hw s k hs
theorem bitCount_eq {w : Nat} (hw : w < 2 ^ 16) : fm_G_bitCount (nI w) = some (nI (q_pop w)) := by
  unfold fm_G_bitCount
  simp only [bnd_eq]
  have e1 : nI w - (((nI w).toUInt32 >>> ((1 : Int32).toUInt32 &&& Int32.toUInt32 31)).toInt32 &&& (1431655765 : Int32)) = nI (w - ((w / 2) &&& 1431655765)) := by
    rw [u_shr (by omega) 1 1 (by decide +kernel), c_lit 1431655765, m_and, pk_sub]
    have : (w / 2 ^ 1 &&& 1431655765) ≤ w / 2 ^ 1 := Nat.and_le_left
    omega
  rw [e1]
  have l1 : w - ((w / 2) &&& 1431655765) < 2 ^ 16 := by omega
  rw [← q_bc_pop hw]
  unfold q_bc
  generalize w - ((w / 2) &&& 1431655765) = x1 at l1
  have e2 : (nI x1 &&& (858993459 : Int32)) + (((nI x1).toUInt32 >>> ((2 : Int32).toUInt32 &&& Int32.toUInt32 31)).toInt32 &&& (858993459 : Int32)) = nI ((x1 &&& 858993459) + ((x1 / 4) &&& 858993459)) := by
    rw [u_shr (by omega) 2 2 (by decide +kernel), c_lit 858993459, m_and, m_and, nI_add]
  rw [e2]
  have l2 : (x1 &&& 858993459) + ((x1 / 4) &&& 858993459) < 2 ^ 18 := by
    have h1 : (x1 &&& 858993459) ≤ x1 := Nat.and_le_left
    have h2 : (x1 / 4 &&& 858993459) ≤ x1 / 4 := Nat.and_le_left
    omega
  show _ = some (nI ((fun x6 => (fun x11 => (fun x16 => (x16 + x16 / 65536) &&& 63) (x11 + x11 / 256)) ((x6 + x6 / 16) &&& 252645135)) ((x1 &&& 858993459) + ((x1 / 4) &&& 858993459))))
  generalize (x1 &&& 858993459) + ((x1 / 4) &&& 858993459) = x6 at l2
  have e3 : (nI x6 + (((nI x6).toUInt32 >>> ((4 : Int32).toUInt32 &&& Int32.toUInt32 31)).toInt32)) &&& (252645135 : Int32) = nI ((x6 + x6 / 16) &&& 252645135) := by
    rw [u_shr (by omega) 4 4 (by decide +kernel), c_lit 252645135, nI_add, m_and]
  rw [e3]
  have l3 : (x6 + x6 / 16) &&& 252645135 < 2 ^ 20 := by
    have h1 : ((x6 + x6 / 16) &&& 252645135) ≤ x6 + x6 / 16 := Nat.and_le_left
    omega
  show _ = some (nI ((fun x11 => (fun x16 => (x16 + x16 / 65536) &&& 63) (x11 + x11 / 256)) ((x6 + x6 / 16) &&& 252645135)))
  generalize ((x6 + x6 / 16) &&& 252645135) = x11 at l3
  have e4 : nI x11 + (((nI x11).toUInt32 >>> ((8 : Int32).toUInt32 &&& Int32.toUInt32 31)).toInt32) = nI (x11 + x11 / 256) := by
    rw [u_shr (by omega) 8 8 (by decide +kernel), nI_add]
  rw [e4]
  have l4 : x11 + x11 / 256 < 2 ^ 22 := by omega
  show _ = some (nI ((fun x16 => (x16 + x16 / 65536) &&& 63) (x11 + x11 / 256)))
  generalize x11 + x11 / 256 = x16 at l4
  have e5 : nI x16 + (((nI x16).toUInt32 >>> ((16 : Int32).toUInt32 &&& Int32.toUInt32 31)).toInt32) = nI (x16 + x16 / 65536) := by
    rw [u_shr (by omega) 16 16 (by decide +kernel), nI_add]
  rw [e5, c_lit 63, m_and]
/-- the least entry of a half -/
theorem ntz_eq : ∀ n, n < 256 → 0 < n → ∃ a, a < 8 ∧ fm_G_numberOfTrailingZeros (nI n) = some (nI a) ∧ n.testBit a = true ∧ n &&& (n - 1) = n ^^^ 2 ^ a := by
  have key : ∀ n, n < 256 → 0 < n → ∃ a, a < 8 ∧ (fm_G_numberOfTrailingZeros (nI n) == some (nI a)) = true ∧ n.testBit a = true ∧ n &&& (n - 1) = n ^^^ 2 ^ a := by decide +kernel
  intro n h1 h2
  obtain ⟨a, ha, h3, h4⟩ := key n h1 h2
  exact ⟨a, ha, eq_of_beq h3, h4⟩
