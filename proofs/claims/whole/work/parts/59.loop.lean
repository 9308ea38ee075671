/-! Loops with what stays true; numbers in conditions -/
theorem iter_inv {σ : Type} {step : σ → Option (Nat × σ)} (P : Nat → σ → Prop) (Q : Nat → σ → Prop) (N : Nat) (hN : N < 70000) (hs : ∀ k z, k ≤ N → P k z → (k < N ∧ ∃ z', step z = some (0, z') ∧ P (k + 1) z') ∨ (∃ t z', step z = some (t + 1, z') ∧ Q t z')) {z0 : σ} (h0 : P 0 z0) : ∃ t z', iter step FU z0 = some (t + 1, z') ∧ Q t z' := by
  have key : ∀ d k n z, N = k + d → d < n → P k z → ∃ t z', iter step n z = some (t + 1, z') ∧ Q t z' := by
    intro d
    induction d with
    | zero =>
      intro k n z hk hn hp
      obtain ⟨n, rfl⟩ : ∃ m, n = m + 1 := ⟨n - 1, by omega⟩
      rcases hs k z (by omega) hp with ⟨h1, _⟩ | ⟨t, z', h1, h2⟩
      · omega
      · refine ⟨t, z', ?_, h2⟩
        unfold iter; rw [h1]
    | succ d ih =>
      intro k n z hk hn hp
      obtain ⟨n, rfl⟩ : ∃ m, n = m + 1 := ⟨n - 1, by omega⟩
      rcases hs k z (by omega) hp with ⟨_, z', h1, h2⟩ | ⟨t, z', h1, h2⟩
      · obtain ⟨t, z'', h3, h4⟩ := ih (k + 1) n z' (by omega) (by omega) h2
        refine ⟨t, z'', ?_, h4⟩
        unfold iter; rw [h1]; exact h3
      · refine ⟨t, z', ?_, h2⟩
        unfold iter; rw [h1]
  exact key N 0 FU z0 (by omega) hN h0
theorem iter_for {σ : Type} {step : σ → Option (Nat × σ)} (P : Nat → σ → Prop) (N : Nat) (hN : N < 70000) (hs : ∀ k z, k < N → P k z → ∃ z', step z = some (0, z') ∧ P (k + 1) z') (he : ∀ z, P N z → step z = some (1, z)) {z0 : σ} (h0 : P 0 z0) : ∃ z', iter step FU z0 = some (1, z') ∧ P N z' := by
  obtain ⟨t, z', h1, h2, h3⟩ := iter_inv P (fun t z => t = 0 ∧ P N z) N hN (fun k z hk hp => by
    by_cases e : k = N
    · subst e; exact .inr ⟨0, z, he z hp, rfl, hp⟩
    · exact .inl ⟨by omega, hs k z (by omega) hp⟩) h0
  subst h2
  exact ⟨z', h1, h3⟩
/-- conditions of numbers -/
theorem c_le {a b : Nat} (ha : a < 2147483648) (hb : b < 2147483648) : (nI a ≤ nI b) = (a ≤ b) := propext (nI_leI (by omega) (by omega))
theorem c_lt {a b : Nat} (ha : a < 2147483648) (hb : b < 2147483648) : (nI a < nI b) = (a < b) := propext (nI_ltI (by omega) (by omega))
theorem c_eq {a b : Nat} (ha : a < 2147483648) (hb : b < 2147483648) : (nI a = nI b) = (a = b) := propext (nI_eq (by omega) (by omega))
theorem c_lle {c b : Nat} (ha : c < 2147483648) (hb : b < 2147483648) : ((OfNat.ofNat c : Int32) ≤ nI b) = (c ≤ b) := c_le (a := c) ha hb
theorem c_lel {c b : Nat} (ha : c < 2147483648) (hb : b < 2147483648) : (nI b ≤ (OfNat.ofNat c : Int32)) = (b ≤ c) := c_le (b := c) hb ha
theorem c_llt {c b : Nat} (ha : c < 2147483648) (hb : b < 2147483648) : ((OfNat.ofNat c : Int32) < nI b) = (c < b) := c_lt (a := c) ha hb
theorem c_ltl {c b : Nat} (ha : c < 2147483648) (hb : b < 2147483648) : (nI b < (OfNat.ofNat c : Int32)) = (b < c) := c_lt (b := c) hb ha
theorem c_eql {c b : Nat} (ha : c < 2147483648) (hb : b < 2147483648) : (nI b = (OfNat.ofNat c : Int32)) = (b = c) := c_eq (b := c) hb ha
theorem c_1 (k : Nat) : nI k + (1 : Int32) = nI (k + 1) := nI_1 k
theorem c_0 (k : Nat) : nI k + (0 : Int32) = nI k := nI_add k 0
theorem c_lit (c : Nat) : (OfNat.ofNat c : Int32) = nI c := rfl
theorem c_cl {n : Nat} (h : n < 2147483648) : (nI n).toNatClampNeg = n := nI_clamp (by omega)
theorem c_in {n N : Nat} (h : n < N) (hN : N < 2147483648) : inB (nI n) N = true := inB_nI h (by omega)
theorem c_gr {B : Type} (t : Option B) : grd true t = t := rfl
theorem c_ob1 {A B : Type} (x : A) (f : A → Option B) : ob1 (some x) f = f x := rfl
theorem c_ob2 {A1 A2 B : Type} (x1 : A1) (x2 : A2) (f : A1 → A2 → Option B) : ob2 (some (x1, x2)) f = f x1 x2 := rfl
theorem c_ob3 {A1 A2 A3 B : Type} (x1 : A1) (x2 : A2) (x3 : A3) (f : A1 → A2 → A3 → Option B) : ob3 (some (x1, x2, x3)) f = f x1 x2 x3 := rfl
theorem c_ob4 {A1 A2 A3 A4 B : Type} (x1 : A1) (x2 : A2) (x3 : A3) (x4 : A4) (f : A1 → A2 → A3 → A4 → Option B) : ob4 (some (x1, x2, x3, x4)) f = f x1 x2 x3 x4 := rfl
theorem c_ob5 {A1 A2 A3 A4 A5 B : Type} (x1 : A1) (x2 : A2) (x3 : A3) (x4 : A4) (x5 : A5) (f : A1 → A2 → A3 → A4 → A5 → Option B) : ob5 (some (x1, x2, x3, x4, x5)) f = f x1 x2 x3 x4 x5 := rfl
theorem c_ob6 {A1 A2 A3 A4 A5 A6 B : Type} (x1 : A1) (x2 : A2) (x3 : A3) (x4 : A4) (x5 : A5) (x6 : A6) (f : A1 → A2 → A3 → A4 → A5 → A6 → Option B) : ob6 (some (x1, x2, x3, x4, x5, x6)) f = f x1 x2 x3 x4 x5 x6 := rfl
theorem c_bit0 {w a : Nat} (hw : w < 2147483648) (ha : a < 32) : ((nI w >>> (nI a &&& 31)) &&& 1 = (0 : Int32)) = (w.testBit a = false) := propext (m_bit0 (by omega) ha)
theorem c_bit1 {w a : Nat} (hw : w < 2147483648) (ha : a < 32) : ((nI w >>> (nI a &&& 31)) &&& 1 = (1 : Int32)) = (w.testBit a = true) := propext (m_bit1 (by omega) ha)
theorem c_shl {a : Nat} (ha : a < 31) : (1 : Int32) <<< (nI a &&& 31) = nI (2 ^ a) := m_shl ha
/-- an argument that is an index, or is not -/
theorem c_ix (x : Int32) {n : Nat} (hn : n < 2147483648) : x < 0 ∨ nI n ≤ x ∨ ∃ j : Nat, j < n ∧ x = nI j := pk_ix x (by omega)
def bI (b : Bool) : Int32 := cond b 1 0
theorem bI_t : bI true = 1 := rfl
theorem bI_f : bI false = 0 := rfl
theorem bI_0 (b : Bool) : (bI b = 0) = (b = false) := by cases b <;> simp [bI]
theorem holds_b {w a : Nat} (hw : w < 2147483648) (ha : a < 32) : fm_K_holds (nI w) (nI a) = some (bI (w.testBit a)) := by
  rw [holds_eq (by omega) ha]
  cases w.testBit a <;> rfl
theorem w31 {w : Nat} (h : w < 2 ^ 16) : w < 2147483648 := by omega
theorem iter_st {σ : Type} {step : σ → Option (Nat × σ)} (f : Nat → σ) (N t : Nat) {z z0 : σ} (hN : N < 70000) (h0 : z0 = f 0) (hs : ∀ k, k < N → step (f k) = some (0, f (k + 1))) (he : step (f N) = some (t + 1, z)) : iter step FU z0 = some (t + 1, z) := by
  rw [h0]; exact iter_all f N t hN hs he
theorem n16 {a : Nat} (h : a < 16) : ¬ (16 : Int32) ≤ nI a := nI_ge h (by decide)
theorem bI_pos {B : Type} (x y : B) : (if bI false = 0 then x else y) = x := if_pos rfl
theorem bI_neg {B : Type} (x y : B) : (if bI true = 0 then x else y) = y := if_neg (by decide)
/-- a counter and the rest -/
theorem for2 {α : Type} (g : Int32 → α → Option (Nat × Int32 × α)) (P : Nat → α → Prop) (N : Nat) (hN : N < 70000) {I0 : α} (h0 : P 0 I0) (hs : ∀ k I, k < N → P k I → ∃ I', g (nI k) I = some (0, nI (k + 1), I') ∧ P (k + 1) I') (he : ∀ I, P N I → g (nI N) I = some (1, nI N, I)) : ∃ I', iter (fun z : Int32 × α => g z.1 z.2) FU ((0 : Int32), I0) = some (1, nI N, I') ∧ P N I' := by
  obtain ⟨⟨x, I⟩, h1, h2, h3⟩ := iter_for (step := fun z : Int32 × α => g z.1 z.2) (fun k z => z.1 = nI k ∧ P k z.2) N hN (by
    intro k ⟨x, I⟩ hk ⟨h1, h2⟩
    have h1 : x = nI k := h1
    subst h1
    obtain ⟨I', h3, h4⟩ := hs k I hk h2
    exact ⟨(nI (k + 1), I'), h3, rfl, h4⟩) (by
    intro ⟨x, I⟩ ⟨h1, h2⟩
    have h1 : x = nI N := h1
    subst h1
    exact he I h2) (z0 := ((0 : Int32), I0)) ⟨rfl, h0⟩
  have h2 : x = nI N := h2
  subst h2
  exact ⟨I, h1, h3⟩
/-- the rest first -/
theorem for2r {α : Type} (g : α → Int32 → Option (Nat × α × Int32)) (P : Nat → α → Prop) (N : Nat) (hN : N < 70000) {I0 : α} (h0 : P 0 I0) (hs : ∀ k I, k < N → P k I → ∃ I', g I (nI k) = some (0, I', nI (k + 1)) ∧ P (k + 1) I') (he : ∀ I, P N I → g I (nI N) = some (1, I, nI N)) : ∃ I', iter (fun z : α × Int32 => g z.1 z.2) FU (I0, (0 : Int32)) = some (1, I', nI N) ∧ P N I' := by
  obtain ⟨⟨I, x⟩, h1, h2, h3⟩ := iter_for (step := fun z : α × Int32 => g z.1 z.2) (fun k z => z.2 = nI k ∧ P k z.1) N hN (by
    intro k ⟨I, x⟩ hk ⟨h1, h2⟩
    have h1 : x = nI k := h1
    subst h1
    obtain ⟨I', h3, h4⟩ := hs k I hk h2
    exact ⟨(I', nI (k + 1)), h3, rfl, h4⟩) (by
    intro ⟨I, x⟩ ⟨h1, h2⟩
    have h1 : x = nI N := h1
    subst h1
    exact he I h2) (z0 := (I0, (0 : Int32))) ⟨rfl, h0⟩
  have h2 : x = nI N := h2
  subst h2
  exact ⟨I, h1, h3⟩
/-- a counter that begins at s -/
theorem for2s {α : Type} (g : Int32 → α → Option (Nat × Int32 × α)) (P : Nat → α → Prop) (s N : Nat) (hsN : s ≤ N) (hN : N < 70000) {I0 : α} (h0 : P s I0) (hs : ∀ k I, s ≤ k → k < N → P k I → ∃ I', g (nI k) I = some (0, nI (k + 1), I') ∧ P (k + 1) I') (he : ∀ I, P N I → g (nI N) I = some (1, nI N, I)) : ∃ I', iter (fun z : Int32 × α => g z.1 z.2) FU (nI s, I0) = some (1, nI N, I') ∧ P N I' := by
  obtain ⟨⟨x, I⟩, h1, h2, h3⟩ := iter_for (step := fun z : Int32 × α => g z.1 z.2) (fun k z => z.1 = nI (s + k) ∧ P (s + k) z.2) (N - s) (by omega) (by
    intro k ⟨x, I⟩ hk ⟨h1, h2⟩
    have h1 : x = nI (s + k) := h1
    subst h1
    obtain ⟨I', h3, h4⟩ := hs (s + k) I (by omega) (by omega) h2
    exact ⟨(nI (s + k + 1), I'), h3, rfl, h4⟩) (by
    intro ⟨x, I⟩ ⟨h1, h2⟩
    have e : s + (N - s) = N := by omega
    rw [e] at h1 h2
    have h1 : x = nI N := h1
    subst h1
    exact he I h2) (z0 := (nI s, I0)) ⟨rfl, h0⟩
  have e : s + (N - s) = N := by omega
  rw [e] at h2 h3
  have h2 : x = nI N := h2
  subst h2
  exact ⟨I, h1, h3⟩
/-- a search -/
theorem find1 {g : Int32 → Option (Nat × Int32)} {p : Nat → Bool} {n t : Nat} (hn : n < 70000) (hg : ∀ k, k < n → g (nI k) = some (cond (p k) (t + 1, nI k) (0, nI (k + 1)))) {v : Nat} (hv : v < n) (hp : p v = true) (hl : ∀ w, w < v → p w = false) : iter g FU (0 : Int32) = some (t + 1, nI v) := by
  apply iter_st (fun k => nI k) v t (by omega) rfl
  · intro k hk
    rw [hg k (by omega), hl k hk]; rfl
  · rw [hg v hv, hp]; rfl
