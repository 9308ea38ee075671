/-! What holds of the class and of the reference between two calls -/
theorem mI_lo {A B : IS} {k : Nat} (h : k < 16) : mI A B k = A k := by
  have : Nat.blt k 16 = true := by rw [Nat.blt_eq]; exact h
  simp only [mI, this, cond_true]
theorem mI_hi {A B : IS} {k : Nat} (h : 16 ≤ k) : mI A B k = B k := by
  have : Nat.blt k 16 = false := by
    cases hb : Nat.blt k 16 with
    | false => rfl
    | true => have := Nat.blt_eq.mp hb; omega
  simp only [mI, this, cond_false]
theorem mJ_lo {A B : JS} {k : Nat} (h : k < 3) : mJ A B k = A k := by
  have : Nat.blt k 3 = true := by rw [Nat.blt_eq]; exact h
  simp only [mJ, this, cond_true]
theorem mJ_hi {A B : JS} {k : Nat} (h : 3 ≤ k) : mJ A B k = B k := by
  have : Nat.blt k 3 = false := by
    cases hb : Nat.blt k 3 with
    | false => rfl
    | true => have := Nat.blt_eq.mp hb; omega
  simp only [mJ, this, cond_false]
theorem upN_same {α : Type} (f : Nat → α) (h : Nat) (x : α) : upN f h x h = x := by unfold upN; rw [if_pos rfl]
theorem upN_ne {α : Type} (f : Nat → α) {h k : Nat} (x : α) (e : k ≠ h) : upN f h x k = f k := by unfold upN; rw [if_neg e]
def Wy (I IM : IS) (D : Nat) : Prop := D ≤ 16 ∧ I 19 0 = nI D ∧ IM 12 0 = nI D ∧ ∀ i, i < D → I 18 i = IM 13 i
def RD (Wh nh : Nat → Nat) (uh lh : Nat → Nat → Nat) (bh : Nat → Nat → Bool) (R : Nat → Nat) (D : Nat) (pr : Nat → Bool) (I : IS) (J : JS) (Ih : Nat → IS) (Jh : Nat → JS) (IM : IS) (JM : JS) : Prop :=
  (∀ h, h < 12 → pr h = true → HK (Ih h) (Jh h) (Wh h) (nh h) (uh h) (lh h) (bh h) ∧ (I 17 0 = nI h → LD I J (Wh h) (nh h) (uh h) (lh h) (bh h) ∧ Jh h 0 0 = lN (dF (Wh h) (nh h) (uh h) (lh h) (bh h) 0)) ∧ MP IM JM h (Wh h) (nh h) (uh h) (lh h) (bh h)) ∧
  (∀ h, h < 12 → pr h = false → IM 1 h = 0) ∧ I 21 0 = 0 ∧ I 22 0 = 0 ∧ Rw (I 16) R ∧ Rw (IM 15) R ∧ Wy I IM D
def Rel (pr : Nat → Bool) (I : IS) (J : JS) (Ih : Nat → IS) (Jh : Nat → JS) (IM : IS) (JM : JS) (_ : Nat → Int64) : Prop := ∃ Wh nh uh lh bh R D, RD Wh nh uh lh bh R D pr I J Ih Jh IM JM
theorem nI12 {a b : Nat} (ha : a < 12) (hb : b < 12) (h : nI a = nI b) : a = b := (nI_eq (by omega) (by omega)).mp h
theorem RD_CS {Wh nh : Nat → Nat} {uh lh : Nat → Nat → Nat} {bh : Nat → Nat → Bool} {R : Nat → Nat} {D : Nat} {pr : Nat → Bool} {I : IS} {J : JS} {Ih : Nat → IS} {Jh : Nat → JS} {IM : IS} {JM : JS} (hr : RD Wh nh uh lh bh R D pr I J Ih Jh IM JM) {h : Nat} (hh : h < 12) (hp : pr h = true) : CS (mI (Ih h) I) (mJ (Jh h) J) h (Wh h) (nh h) (uh h) (lh h) (bh h) := by
  obtain ⟨a1, a2, a3, a4, _⟩ := hr
  obtain ⟨b1, b2, _⟩ := a1 h hh hp
  refine ⟨HK_fr b1 (fun k hk => mI_lo hk) (.inl (by rw [mJ_lo (by decide)])) (mJ_lo (by decide)) (mJ_lo (by decide)), fun q => ?_, by rw [mI_hi (by decide)]; exact a3, by rw [mI_hi (by decide)]; exact a4⟩
  rw [mI_hi (by decide)] at q
  obtain ⟨c1, c2⟩ := b2 q
  exact ⟨Ld_fr c1 (mI_hi (by decide)) (mI_hi (by decide)) (mJ_hi (by decide)) (mJ_hi (by decide)), by rw [mJ_lo (by decide)]; exact c2⟩
/-- heat h is now as told, on both sides; the others are as they were -/
theorem RD_up {Wh nh : Nat → Nat} {uh lh : Nat → Nat → Nat} {bh : Nat → Nat → Bool} {R R' : Nat → Nat} {D D' : Nat} {pr pr' : Nat → Bool} {I kI : IS} {J kJ : JS} {Ih : Nat → IS} {Jh : Nat → JS} {IM IM' : IS} {JM JM' : JS} (hr : RD Wh nh uh lh bh R D pr I J Ih Jh IM JM) {h W n : Nat} {u l : Nat → Nat} {bk : Nat → Bool} (hpr : ∀ x, x < 12 → x ≠ h → pr' x = pr x) (hph : pr' h = true) (hc : CS kI kJ h W n u l bk) (h17 : (kI 17 0 = nI h ∨ kI 17 0 = -1) ∨ (kI 17 = I 17 ∧ kI 21 = I 21 ∧ kI 22 = I 22 ∧ kJ 3 = J 3 ∧ kJ 4 = J 4)) (hm : MP IM' JM' h W n u l bk) (hMR : ∀ x W n u l bk, x < 12 → x ≠ h → MR IM x W n u l bk → MR IM' x W n u l bk) (hM1 : ∀ x, x < 12 → x ≠ h → IM' 1 x = IM 1 x) (h7 : (IM' 7 0 = nI h ∨ IM' 7 0 = -1) ∨ (IM' 7 = IM 7 ∧ IM' 8 = IM 8 ∧ IM' 9 = IM 9 ∧ IM' 10 = IM 10 ∧ IM' 11 = IM 11 ∧ JM' 0 = JM 0 ∧ JM' 1 = JM 1)) (hh : h < 12) (r1 : Rw (kI 16) R') (r2 : Rw (IM' 15) R') (hw : Wy kI IM' D') :
    RD (upN Wh h W) (upN nh h n) (upN uh h u) (upN lh h l) (upN bh h bk) R' D' pr' kI kJ (upN Ih h kI) (upN Jh h kJ) IM' JM' := by
  obtain ⟨a1, a2, _⟩ := hr
  refine ⟨fun x hx hpx => ?_, fun x hx hpx => ?_, hc.2.2.1, hc.2.2.2, r1, r2, hw⟩
  · by_cases e : x = h
    · subst e
      rw [upN_same, upN_same, upN_same, upN_same, upN_same, upN_same, upN_same]
      exact ⟨hc.1, hc.2.1, hm⟩
    · rw [upN_ne _ _ e, upN_ne _ _ e, upN_ne _ _ e, upN_ne _ _ e, upN_ne _ _ e, upN_ne _ _ e, upN_ne _ _ e]
      rw [hpr x hx e] at hpx
      obtain ⟨b1, b2, b3, b4⟩ := a1 x hx hpx
      refine ⟨b1, fun q => ?_, hMR x _ _ _ _ _ hx e b3, fun q => ?_⟩
      · rcases h17 with (q1 | q1) | ⟨q1, q2, q3, q4, q5⟩
        · rw [q1] at q; exact absurd (nI12 hh hx q).symm e
        · rw [q1] at q; exact absurd q.symm (nI_m1 (by omega))
        · rw [q1] at q
          obtain ⟨c1, c2⟩ := b2 q
          exact ⟨Ld_fr c1 q2 q3 q4 q5, c2⟩
      · rcases h7 with (q1 | q1) | ⟨q1, q2, q3, q4, q5, q6, q7⟩
        · rw [q1] at q; exact absurd (nI12 hh hx q).symm e
        · rw [q1] at q; exact absurd q.symm (nI_m1 (by omega))
        · rw [q1] at q
          obtain ⟨c1, c2⟩ := b4 q
          refine ⟨⟨by rw [q2]; exact c1.1, fun a ha => by rw [q3, q4]; exact c1.2 a ha⟩, fun q8 t ht => ?_⟩
          rw [q5] at q8
          rw [q6, q7]; exact c2 q8 t ht
  · have e : x ≠ h := fun q => by rw [q, hph] at hpx; cases hpx
    rw [hM1 x hx e]
    rw [hpr x hx e] at hpx
    exact a2 x hx hpx
/-- nothing of the heat's data changes -/
theorem Rel_read {Wh nh : Nat → Nat} {uh lh : Nat → Nat → Nat} {bh : Nat → Nat → Bool} {R : Nat → Nat} {D : Nat} {pr : Nat → Bool} {I kI : IS} {J kJ : JS} {Ih : Nat → IS} {Jh : Nat → JS} {IM IM' : IS} {JM JM' : JS} (O : Nat → Int64) (hr : RD Wh nh uh lh bh R D pr I J Ih Jh IM JM) {h : Nat} (hh : h < 12) (hp : pr h = true) (hc : CS kI kJ h (Wh h) (nh h) (uh h) (lh h) (bh h)) (hf : CF h (mI (Ih h) I) (mJ (Jh h) J) kI kJ) (hm : MP IM' JM' h (Wh h) (nh h) (uh h) (lh h) (bh h)) (hmf : MFr h IM JM IM' JM') : Rel pr kI kJ (upN Ih h kI) (upN Jh h kJ) IM' JM' O := by
  obtain ⟨c1, c2, c3, _, _, c6⟩ := hf
  obtain ⟨d1, d2, d3, d4, d5⟩ := hmf
  rw [mI_hi (by decide)] at c1 c2 c3
  have hr0 := hr
  obtain ⟨_, _, _, _, g1, g2, g3, g4, g5, g6⟩ := hr0
  refine ⟨_, _, _, _, _, R, D, RD_up hr (fun _ _ _ => rfl) hp hc ?_ hm (fun x W n u l bk _ _ q => MR_frame q (d1 1 (by decide) (by decide)) (d1 2 (by decide) (by decide)) (d1 3 (by decide) (by decide)) (d1 4 (by decide) (by decide)) (d1 5 (by decide) (by decide)) (d1 6 (by decide) (by decide))) (fun x _ _ => by rw [d1 1 (by decide) (by decide)]) d5 hh (by rw [c1]; exact g1) (by rw [d4]; exact g2) ⟨g3, by rw [c3]; exact g4, by rw [d2]; exact g5, fun i hi => by rw [c2, d3]; exact g6 i hi⟩⟩
  rcases c6 with q | ⟨q1, q2, q3, q4, q5⟩
  · exact .inl q
  · rw [mI_hi (by decide)] at q1 q2 q3
    rw [mJ_hi (by decide)] at q4 q5
    exact .inr ⟨q1, q2, q3, q4, q5⟩
theorem RD_MP {Wh nh : Nat → Nat} {uh lh : Nat → Nat → Nat} {bh : Nat → Nat → Bool} {R : Nat → Nat} {D : Nat} {pr : Nat → Bool} {I : IS} {J : JS} {Ih : Nat → IS} {Jh : Nat → JS} {IM : IS} {JM : JS} (hr : RD Wh nh uh lh bh R D pr I J Ih Jh IM JM) {h : Nat} (hh : h < 12) (hp : pr h = true) (x : Int32) : MP (sV IM 0 x) JM h (Wh h) (nh h) (uh h) (lh h) (bh h) ∧ MFr h IM JM (sV IM 0 x) JM :=
  ⟨MP_0 (hr.1 h hh hp).2.2 (fun k _ k2 => sV_ne k2) rfl rfl, MFr_0 (fun k _ k2 _ => sV_ne k2) rfl rfl⟩
/-- no heat is meant -/
theorem Rel_none {pr : Nat → Bool} {I : IS} {J : JS} {Ih : Nat → IS} {Jh : Nat → JS} {IM : IS} {JM : JS} {O O' : Nat → Int64} {J' : JS} (hr : Rel pr I J Ih Jh IM JM O) (x : Int32) (h3 : J' 3 = J 3) (h4 : J' 4 = J 4) : Rel pr I J' Ih Jh (sV IM 0 x) JM O' := by
  obtain ⟨Wh, nh, uh, lh, bh, R, D, hr⟩ := hr
  obtain ⟨a1, a2, a3, a4, a5, a6, a7, a8, a9, a10⟩ := hr
  refine ⟨Wh, nh, uh, lh, bh, R, D, fun h hh hp => ?_, fun h hh hp => by rw [sV_ne (by decide)]; exact a2 h hh hp, a3, a4, a5, by rw [sV_ne (by decide)]; exact a6, a7, a8, by rw [sV_ne (by decide)]; exact a9, fun i hi => by rw [sV_ne (by decide)]; exact a10 i hi⟩
  obtain ⟨b1, b2, b3⟩ := a1 h hh hp
  refine ⟨b1, fun q => ?_, MP_0 b3 (fun k _ k2 => sV_ne k2) rfl rfl⟩
  obtain ⟨c1, c2⟩ := b2 q
  exact ⟨Ld_fr c1 rfl rfl h3 h4, c2⟩
theorem Rel_no1 {pr : Nat → Bool} {I : IS} {J : JS} {Ih : Nat → IS} {Jh : Nat → JS} {IM : IS} {JM : JS} {O : Nat → Int64} (hr : Rel pr I J Ih Jh IM JM O) {x : Int32} (h : ∀ h, h < 12 → x = nI h → pr h = false) (y : Int32) : ∀ k, k < 12 → x = nI k → sV IM 0 y 1 k = 0 := by
  obtain ⟨Wh, nh, uh, lh, bh, R, D, hr⟩ := hr
  intro k hk e
  rw [sV_ne (by decide)]
  exact hr.2.1 k hk (h k hk e)
theorem find_d {h : Nat} (hh : h < 12) : fm_K_find (nI h) = some () := by
  unfold fm_K_find
  rw [if_neg (nI_pos (by omega)), if_pos (show nI h < 12 from nI_lt (b := 12) hh (by decide)), c_in hh (by decide)]; rfl
theorem find_n (x : Int32) : fm_K_find_n x = some () := by
  unfold fm_K_find_n
  by_cases h : x < 0
  · rw [if_pos h]
  · rw [if_neg h]
    by_cases h2 : x < 12
    · rw [if_pos h2]
      rcases c_ix x (n := 12) (by decide) with q | q | ⟨j, hj, rfl⟩
      · exact absurd q h
      · exact absurd h2 (Int32.not_lt.mpr q)
      · rw [c_in hj (by decide)]; rfl
    · rw [if_neg h2]
