/-! Numbers: masks below 65536 as Int32; loops by counting -/
theorem m_and (a b : Nat) : nI a &&& nI b = nI (a &&& b) := by
  apply Int32.toBitVec_inj.1
  show BitVec.ofNat 32 a &&& BitVec.ofNat 32 b = BitVec.ofNat 32 (a &&& b)
  apply BitVec.eq_of_getLsbD_eq
  intro i hi
  simp [hi]
theorem m_or (a b : Nat) : nI a ||| nI b = nI (a ||| b) := by
  apply Int32.toBitVec_inj.1
  show BitVec.ofNat 32 a ||| BitVec.ofNat 32 b = BitVec.ofNat 32 (a ||| b)
  apply BitVec.eq_of_getLsbD_eq
  intro i hi
  simp [hi]
theorem m_xor (a b : Nat) : nI a ^^^ nI b = nI (a ^^^ b) := by
  apply Int32.toBitVec_inj.1
  show BitVec.ofNat 32 a ^^^ BitVec.ofNat 32 b = BitVec.ofNat 32 (a ^^^ b)
  apply BitVec.eq_of_getLsbD_eq
  intro i hi
  simp [hi]
theorem m_sm : ∀ n, n < 32 → ((nI n &&& 31).toBitVec.smod 32).toNat = n := by decide +kernel
theorem m_m1 : (-1 : Int32) = nI 4294967295 := by decide +kernel
theorem m_shl {a : Nat} (ha : a < 31) : (1 : Int32) <<< (nI a &&& 31) = nI (2 ^ a) := by
  have h : (2 : Nat) ^ a < 2 ^ 32 := Nat.pow_lt_pow_right (by decide) (by omega)
  have := pk_shlN (n := 1) (nI a &&& 31) a (m_sm a (by omega)) (by omega)
  rw [Nat.one_mul] at this
  exact this
theorem m_shr {w a : Nat} (hw : w < 2 ^ 31) (ha : a < 32) : nI w >>> (nI a &&& 31) = nI (w / 2 ^ a) := pk_shrN hw _ a (m_sm a ha)
/-- what is in w and not in v -/
def dif (w v : Nat) : Nat := w &&& (v ^^^ 4294967295)
theorem m_dif (w v : Nat) : nI w &&& (nI v ^^^ (-1)) = nI (dif w v) := by rw [m_m1, m_xor, m_and]; rfl
theorem b_ones (i : Nat) (h : i < 32) : Nat.testBit 4294967295 i = true := by
  rw [show (4294967295 : Nat) = 2 ^ 32 - 1 from rfl, Nat.testBit_two_pow_sub_one]; simp [h]
theorem dif_bit {w v : Nat} (hw : w < 2 ^ 32) (i : Nat) : (dif w v).testBit i = (w.testBit i && !v.testBit i) := by
  unfold dif
  rw [Nat.testBit_and, Nat.testBit_xor]
  by_cases h : i < 32
  · rw [b_ones i h]; cases v.testBit i <;> simp
  · have : w.testBit i = false := Nat.testBit_lt_two_pow (Nat.lt_of_lt_of_le hw (Nat.pow_le_pow_right (by decide) (by omega)))
    simp [this]
theorem dif_le (w v : Nat) : dif w v ≤ w := Nat.and_le_left
theorem m_bit {w a : Nat} (hw : w < 2 ^ 31) (ha : a < 32) : (nI w >>> (nI a &&& 31)) &&& 1 = nI (w / 2 ^ a % 2) := by
  rw [m_shr hw ha]
  have h1 : w / 2 ^ a ≤ w := Nat.div_le_self _ _
  exact pk_andN (n := w / 2 ^ a) (by omega) 1 (by decide)
theorem m_bit0 {w a : Nat} (hw : w < 2 ^ 31) (ha : a < 32) : ((nI w >>> (nI a &&& 31)) &&& 1 = 0) ↔ w.testBit a = false := by
  rw [m_bit hw ha, ← nI_0, nI_eq (by omega) (by omega), Nat.testBit_eq_decide_div_mod_eq, decide_eq_false_iff_not]
  omega
theorem m_bit1 {w a : Nat} (hw : w < 2 ^ 31) (ha : a < 32) : ((nI w >>> (nI a &&& 31)) &&& 1 = 1) ↔ w.testBit a = true := by
  rw [m_bit hw ha, show (1 : Int32) = nI 1 from rfl, nI_eq (by omega) (by omega), Nat.testBit_eq_decide_div_mod_eq, decide_eq_true_iff]
theorem holds_eq {w a : Nat} (hw : w < 2 ^ 31) (ha : a < 32) : fm_K_holds (nI w) (nI a) = some (if w.testBit a = true then 1 else 0) := by
  unfold fm_K_holds
  cases h : w.testBit a with
  | false => rw [if_pos ((m_bit0 hw ha).mpr h)]; rfl
  | true => rw [if_neg (fun q => by rw [(m_bit0 hw ha).mp q] at h; cases h)]; rfl
/-- masks by their bits -/
theorem mask_ext {w v : Nat} (h : ∀ i, w.testBit i = v.testBit i) : w = v := Nat.eq_of_testBit_eq h
theorem mask_lt {w n : Nat} (h : ∀ i, n ≤ i → w.testBit i = false) : w < 2 ^ n := Nat.lt_pow_two_of_testBit w h
theorem mask_hi {w n i : Nat} (h : w < 2 ^ n) (hi : n ≤ i) : w.testBit i = false := Nat.testBit_lt_two_pow (Nat.lt_of_lt_of_le h (Nat.pow_le_pow_right (by decide) hi))
theorem or_lt {a b n : Nat} (ha : a < 2 ^ n) (hb : b < 2 ^ n) : a ||| b < 2 ^ n := Nat.or_lt_two_pow ha hb
/-- loops: state by the number of rounds -/
theorem iter_run {σ : Type} {step : σ → Option (Nat × σ)} {f : Nat → σ} {N t : Nat} {z : σ} (hs : ∀ k, k < N → step (f k) = some (0, f (k + 1))) (he : step (f N) = some (t + 1, z)) : ∀ (d k n : Nat), N = k + d → d < n → iter step n (f k) = some (t + 1, z) := by
  intro d
  induction d with
  | zero =>
    intro k n hk hn
    obtain ⟨n, rfl⟩ : ∃ m, n = m + 1 := ⟨n - 1, by omega⟩
    have : N = k := by omega
    subst this
    unfold iter
    rw [he]
  | succ d ih =>
    intro k n hk hn
    obtain ⟨n, rfl⟩ : ∃ m, n = m + 1 := ⟨n - 1, by omega⟩
    unfold iter
    rw [hs k (by omega)]
    exact ih (k + 1) n (by omega) (by omega)
theorem iter_all {σ : Type} {step : σ → Option (Nat × σ)} (f : Nat → σ) (N t : Nat) {z : σ} (hN : N < 70000) (hs : ∀ k, k < N → step (f k) = some (0, f (k + 1))) (he : step (f N) = some (t + 1, z)) : iter step FU (f 0) = some (t + 1, z) :=
  iter_run hs he N 0 FU (by omega) hN
theorem obn1 {A B : Type} {a : Option A} {x : A} {f : A → Option B} (h : a = some x) : ob1 a f = f x := by rw [h]; rfl
theorem obn2 {A1 A2 B : Type} {a : Option (A1 × A2)} {x1 : A1} {x2 : A2} {f : A1 → A2 → Option B} (h : a = some (x1, x2)) : ob2 a f = f x1 x2 := by rw [h]; rfl
theorem obn3 {A1 A2 A3 B : Type} {a : Option (A1 × A2 × A3)} {x1 : A1} {x2 : A2} {x3 : A3} {f : A1 → A2 → A3 → Option B} (h : a = some (x1, x2, x3)) : ob3 a f = f x1 x2 x3 := by rw [h]; rfl
theorem obn4 {A1 A2 A3 A4 B : Type} {a : Option (A1 × A2 × A3 × A4)} {x1 : A1} {x2 : A2} {x3 : A3} {x4 : A4} {f : A1 → A2 → A3 → A4 → Option B} (h : a = some (x1, x2, x3, x4)) : ob4 a f = f x1 x2 x3 x4 := by rw [h]; rfl
theorem inB_nI {n N : Nat} (h : n < N) (hN : N < 2 ^ 31) : inB (nI n) N = true := by
  unfold inB
  rw [nI_clamp (by omega)]
  simp [nI_pos (n := n) (by omega), h]
theorem grd_nI {B : Type} {n N : Nat} {t : Option B} (h : n < N) (hN : N < 2 ^ 31) : grd (inB (nI n) N) t = t := by rw [inB_nI h hN]; rfl
theorem bnd_eq {A B : Type} (a : A) (f : A → Option B) : bnd a f = f a := rfl
/-- stores read back -/
theorem sI_same {I : IS} {k i : Nat} {x : Int32} : sI I k i x k i = x := by simp [sI, upd]
theorem sI_idx {I : IS} {k i j : Nat} {x : Int32} (h : j ≠ i) : sI I k i x k j = I k j := by simp [sI, upd, h]
theorem sI_ne {I : IS} {k k' i : Nat} {x : Int32} (h : k' ≠ k) : sI I k i x k' = I k' := by
  have : Nat.beq k' k = false := by cases hb : Nat.beq k' k with | false => rfl | true => exact absurd (Nat.eq_of_beq_eq_true hb) h
  simp [sI, this]
theorem sV_same {I : IS} {k : Nat} {x : Int32} {j : Nat} : sV I k x k j = x := by simp [sV]
theorem sV_ne {I : IS} {k k' : Nat} {x : Int32} (h : k' ≠ k) : sV I k x k' = I k' := by
  have : Nat.beq k' k = false := by cases hb : Nat.beq k' k with | false => rfl | true => exact absurd (Nat.eq_of_beq_eq_true hb) h
  simp [sV, this]
theorem sJ_same {J : JS} {k i : Nat} {x : Int64} : sJ J k i x k i = x := by simp [sJ, vp_updL]
theorem sJ_idx {J : JS} {k i j : Nat} {x : Int64} (h : j ≠ i) : sJ J k i x k j = J k j := by simp [sJ, vp_updL, h]
theorem sJ_ne {J : JS} {k k' i : Nat} {x : Int64} (h : k' ≠ k) : sJ J k i x k' = J k' := by
  have : Nat.beq k' k = false := by cases hb : Nat.beq k' k with | false => rfl | true => exact absurd (Nat.eq_of_beq_eq_true hb) h
  simp [sJ, this]
theorem sL_same {J : JS} {k : Nat} {x : Int64} {j : Nat} : sL J k x k j = x := by simp [sL]
theorem sL_ne {J : JS} {k k' : Nat} {x : Int64} (h : k' ≠ k) : sL J k x k' = J k' := by
  have : Nat.beq k' k = false := by cases hb : Nat.beq k' k with | false => rfl | true => exact absurd (Nat.eq_of_beq_eq_true hb) h
  simp [sL, this]
