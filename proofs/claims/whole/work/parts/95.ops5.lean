/-! Calls that change a heat -/
theorem unload_d {I : IS} {J : JS} {h W n : Nat} {u l : Nat → Nat} {bk : Nat → Bool} (hh : h < 12) (h1 : HS I W n u l bk) (h2 : q_ac W n u l bk) (h3 : W ≠ 0) (h7 : I 7 0 = 0) (h8 : I 8 0 = 0) (hJ : J 0 0 = 0) (h21 : I 21 0 = 0) (h22 : I 22 0 = 0) : ∃ I', fm_K_unload (nI h) I = some I' ∧ CS I' J h W n u l bk ∧ (∀ k, k ≠ 17 → I' k = I k) ∧ (I' 17 0 = -1 ∨ I' 17 = I 17) := by
  have hk : HK I J W n u l bk := ⟨h1, h2, h3, fun q => absurd h7 q, .inl hJ, fun q => absurd h8 q⟩
  unfold fm_K_unload
  by_cases e : I 17 0 = nI h
  · rw [if_pos e, bnd_eq]
    have hf : ∀ k, k ≠ 17 → sV I 17 (-1) k = I k := fun k hk => sV_ne hk
    refine ⟨_, rfl, ⟨HK_fr hk (fun k hk => hf k (by omega)) (.inl rfl) rfl rfl, fun q => ?_, by rw [hf 21 (by decide)]; exact h21, by rw [hf 22 (by decide)]; exact h22⟩, hf, .inl sV_same⟩
    rw [sV_same] at q
    exact absurd q.symm (nI_m1 (by omega))
  · rw [if_neg e]
    exact ⟨I, rfl, ⟨hk, fun q => absurd q e, h21, h22⟩, fun _ _ => rfl, .inr rfl⟩
/-- a heat's raw data is written anew, then settled and unloaded -/
theorem change_d {I1 : IS} {J : JS} {h W n : Nat} {u l : Nat → Nat} {bk : Nat → Bool} (hh : h < 12) (hR : HR I1 W n u l bk) (h2 : q_ac W n u l bk) (h3 : W ≠ 0) (h21 : I1 21 0 = 0) (h22 : I1 22 0 = 0) : ∃ I2 J2 kI, fm_H_settle I1 J = some (I2, J2) ∧ fm_K_unload (nI h) I2 = some kI ∧ CS kI J2 h W n u l bk ∧ (∀ k, 16 ≤ k → k ≠ 17 → kI k = I1 k) ∧ (kI 17 0 = -1 ∨ kI 17 = I1 17) ∧ (∀ k, 3 ≤ k → J2 k = J k) := by
  obtain ⟨I2, J2, a1, a2, a3, a4, a5, a6, a7⟩ := settle_eq (J := J) hR
  have hf : ∀ k, 16 ≤ k → I2 k = I1 k := fun k hk => a6 k (by omega) (by omega) (by omega) (by omega)
  obtain ⟨kI, b1, b2, b3, b4⟩ := unload_d (J := J2) hh a2 h2 h3 a3 a4 a5 (by rw [hf 21 (by decide)]; exact h21) (by rw [hf 22 (by decide)]; exact h22)
  exact ⟨I2, J2, kI, a1, b1, b2, fun k k1 k2 => by rw [b3 k k2, hf k k1], b4.imp id (fun q => by rw [q, hf 17 (by decide)]), fun k hk => a7 k (by omega)⟩
theorem MR_oth {I I' : IS} {x W n : Nat} {u l : Nat → Nat} {bk : Nat → Bool} (hm : MR I x W n u l bk) (h1 : I' 1 x = I 1 x) (h2 : I' 2 x = I 2 x) (h3 : I' 3 x = I 3 x) (h4 : ∀ v, v < 400 → I' 4 (400 * x + v) = I 4 (400 * x + v)) (h5 : ∀ v, v < 400 → I' 5 (400 * x + v) = I 5 (400 * x + v)) (h6 : ∀ v, v < 400 → I' 6 (400 * x + v) = I 6 (400 * x + v)) : MR I' x W n u l bk := by
  obtain ⟨⟨sz, g, a1, a2, a3, a4⟩, b1, b2, b3⟩ := hm
  exact ⟨⟨sz, g, by rw [h1]; exact a1, a2, by rw [h2]; exact a3, a4⟩, by rw [h3]; exact b1, b2, fun v hv => by rw [h4 v (by omega), h5 v (by omega), h6 v (by omega)]; exact b3 v hv⟩
theorem ft_he {p0 p1 : Int32} : ft_K_heat p0 p1 ≠ some () → ∃ h n, h < 12 ∧ p0 = nI h ∧ 1 ≤ n ∧ n ≤ 16 ∧ p1 = nI n ∧ ¬ p1 < 1 ∧ p1 ≤ 16 := by
  intro h
  unfold ft_K_heat at h
  by_cases h1 : p0 < 0
  · rw [if_pos h1] at h; exact absurd rfl h
  · rw [if_neg h1] at h
    by_cases h2 : (12 : Int32) ≤ p0
    · rw [if_pos h2] at h; exact absurd rfl h
    · rw [if_neg h2] at h
      by_cases h3 : p1 < 1
      · rw [if_pos h3] at h; exact absurd rfl h
      · rw [if_neg h3] at h
        by_cases h4 : p1 ≤ 16
        · obtain ⟨r, hr, hr2⟩ := rank_of h3 h4
          rcases c_ix p0 (n := 12) (by decide) with q | q | ⟨j, hj, hj2⟩
          · exact absurd q h1
          · exact absurd q h2
          · exact ⟨j, r + 1, hj, hj2, by omega, by omega, hr2, h3, h4⟩
        · rw [if_neg h4] at h; exact absurd rfl h
theorem pw_16 {n : Nat} (h : n ≤ 16) : 2 ^ n ≤ 65536 := Nat.pow_le_pow_right (n := 2) (by decide) h
theorem begin_d {I : IS} {J : JS} {h n : Nat} (hh : h < 12) (hn1 : 1 ≤ n) (hn : n ≤ 16) (h21 : I 21 0 = 0) (h22 : I 22 0 = 0) : ∃ I2 J2 kI, fm_H_begin (nI n) I J = some (I2, J2) ∧ fm_K_unload (nI h) I2 = some kI ∧ CS kI J2 h (2 ^ n - 1) 0 (fun _ => 0) (fun _ => 0) (fun _ => false) ∧ (∀ k, 16 ≤ k → k ≠ 17 → kI k = I k) ∧ (kI 17 0 = -1 ∨ kI 17 = I 17) ∧ (∀ k, 3 ≤ k → J2 k = J k) := by
  have hp := pw_16 hn
  have hp2 : 2 ≤ 2 ^ n := by
    have := Nat.pow_le_pow_right (n := 2) (by decide) hn1
    simpa using this
  have hf : ∀ k, k ≠ 5 → k ≠ 6 → sV (sV I 5 (nI (2 ^ n - 1))) 6 0 k = I k := fun k k1 k2 => by rw [sV_ne k2, sV_ne k1]
  obtain ⟨I2, J2, kI, a1, a2, a3, a4, a5, a6⟩ := change_d (I1 := sV (sV I 5 (nI (2 ^ n - 1))) 6 0) (J := J) (h := h) (W := 2 ^ n - 1) (n := 0) (u := fun _ => 0) (l := fun _ => 0) (bk := fun _ => false) hh ⟨by rw [sV_ne (by decide), sV_same], by omega, by rw [sV_same]; rfl, by decide, fun v hv => absurd hv (Nat.not_lt_zero _)⟩ (q_ac_0 _ _ _ _) (by omega) (by rw [hf 21 (by decide) (by decide)]; exact h21) (by rw [hf 22 (by decide) (by decide)]; exact h22)
  refine ⟨I2, J2, kI, ?_, a2, a3, fun k k1 k2 => by rw [a4 k k1 k2, hf k (by omega) (by omega)], a5.imp id (fun q => by rw [q, hf 17 (by decide) (by decide)]), a6⟩
  unfold fm_H_begin
  rw [c_shl (by omega), show nI (2 ^ n) - 1 = nI (2 ^ n - 1) from pk_sub (b := 1) (by omega), bnd_eq, bnd_eq, a1, c_ob2]
theorem mheat_d {IM : IS} {JM : JS} {h n : Nat} (hh : h < 12) (hn1 : 1 ≤ n) (hn : n ≤ 16) : ∃ nM, fm_M_heat (nI h) (nI n) IM = some nM ∧ fm_M_thrown nM = some 0 ∧ MP nM JM h (2 ^ n - 1) 0 (fun _ => 0) (fun _ => 0) (fun _ => false) ∧ nM 7 0 = -1 ∧ (∀ x, x ≠ h → nM 1 x = IM 1 x ∧ nM 2 x = IM 2 x ∧ nM 3 x = IM 3 x) ∧ (∀ k, k ≠ 0 → k ≠ 1 → k ≠ 2 → k ≠ 3 → k ≠ 7 → nM k = IM k) := by
  have hp := pw_16 hn
  have hp2 : 2 ≤ 2 ^ n := by
    have := Nat.pow_le_pow_right (n := 2) (by decide) hn1
    simpa using this
  refine ⟨sV (sI (sI (sI (sV IM 0 0) 1 h (nI n)) 2 h 0) 3 h 0) 7 (-1), ?_, ?_, ⟨⟨⟨n, 0, ?_, hn, ?_, by decide, ⟨fun _ => by omega, fun _ => by omega⟩, fun a => by rw [Nat.testBit_two_pow_sub_one, Nat.zero_testBit]; simp⟩, ?_, by decide, fun v hv => absurd hv (Nat.not_lt_zero _)⟩, fun q => ?_⟩, sV_same, fun x hx => ⟨?_, ?_, ?_⟩, fun k k0 k1 k2 k3 k7 => ?_⟩
  · unfold fm_M_heat fm_M_heat_j27
    rw [if_neg (nI_pos (by omega)), if_neg (show ¬ (11 : Int32) < nI h from nI_nlt (a := 11) (by omega) (by decide)), if_neg (show ¬ nI n < 1 from nI_nlt (b := 1) hn1 (by omega)), if_pos (show nI n ≤ 16 from nI_le (b := 16) hn (by decide)), bnd_eq, sV_same, if_pos rfl, c_in hh (by decide), c_gr, c_cl (by omega), bnd_eq, c_gr, bnd_eq, c_gr, bnd_eq, bnd_eq]
  · unfold fm_M_thrown
    rw [sV_ne (by decide), sI_ne (by decide), sI_ne (by decide), sI_ne (by decide), sV_same]
  · rw [sV_ne (by decide), sI_ne (by decide), sI_ne (by decide), sI_same]
  · rw [sV_ne (by decide), sI_ne (by decide), sI_same]; rfl
  · rw [sV_ne (by decide), sI_same]; rfl
  · rw [sV_same] at q; exact absurd q.symm (nI_m1 (by omega))
  · rw [sV_ne (by decide), sI_ne (by decide), sI_ne (by decide), sI_idx hx, sV_ne (by decide)]
  · rw [sV_ne (by decide), sI_ne (by decide), sI_idx hx, sI_ne (by decide), sV_ne (by decide)]
  · rw [sV_ne (by decide), sI_idx hx, sI_ne (by decide), sI_ne (by decide), sV_ne (by decide)]
  · rw [sV_ne k7, sI_ne k3, sI_ne k2, sI_ne k1, sV_ne k0]
theorem ok_heat : Ok_heat Rel := by
  refine ⟨?_, ?_, ?_⟩
  · intro pr I J Ih Jh IM JM O hr p0 p1 ht
    refine ⟨sV IM 0 1, ?_, sV_thr 1, Rel_none hr 1 rfl rfl⟩
    have hj : fm_M_heat_j22 p0 p1 IM = some (sV IM 0 1) := by
      unfold fm_M_heat_j22 fm_M_heat_j27
      rw [bnd_eq, sV_same, if_neg (show ¬ (1 : Int32) = 0 from by decide)]
    unfold ft_K_heat at ht
    unfold fm_M_heat
    by_cases h1 : p0 < 0
    · rw [if_pos h1]; exact hj
    · rw [if_neg h1] at ht ⊢
      have h12 : (11 : Int32) < p0 ↔ (12 : Int32) ≤ p0 := by
        rw [Int32.le_iff_toInt_le, Int32.lt_iff_toInt_lt]
        show 11 < p0.toInt ↔ 12 ≤ p0.toInt
        omega
      by_cases h2 : (12 : Int32) ≤ p0
      · rw [if_pos (h12.mpr h2)]; exact hj
      · rw [if_neg h2] at ht
        rw [if_neg (fun q => h2 (h12.mp q))]
        by_cases h3 : p1 < 1
        · rw [if_pos h3]; exact hj
        · rw [if_neg h3] at ht ⊢
          by_cases h4 : p1 ≤ 16
          · rw [if_pos h4] at ht; cases ht
          · rw [if_neg h4]; exact hj
  · intro pr I J Ih Jh IM JM O ⟨Wh, nh, uh, lh, bh, R, D, hr⟩ p0 p1 ht h hh e hp
    obtain ⟨h', n, h'1, h'2, n1, n2, rfl, h3, h4⟩ := ft_he ht
    subst e
    have ehh := nI12 hh h'1 h'2
    subst ehh
    have hc := RD_CS hr hh hp
    obtain ⟨I2, J2, kI, a1, a2, a3, a4, a5, a6⟩ := begin_d (I := mI (Ih h) I) (J := mJ (Jh h) J) hh n1 n2 hc.2.2.1 hc.2.2.2
    obtain ⟨nM, b1, b2, b3, b4, b5, b6⟩ := mheat_d (IM := IM) (JM := JM) hh n1 n2
    have hr0 := hr
    obtain ⟨_, _, _, _, g1, g2, g3, g4, g5, g6⟩ := hr0
    refine ⟨kI, J2, nM, ?_, b1, b2, _, _, _, _, _, R, D, RD_up hr (fun _ _ _ => rfl) hp a3 ?_ b3 (fun x W n u l bk _ hx q => MR_oth q (b5 x hx).1 (b5 x hx).2.1 (b5 x hx).2.2 (fun v _ => by rw [b6 4 (by decide) (by decide) (by decide) (by decide) (by decide)]) (fun v _ => by rw [b6 5 (by decide) (by decide) (by decide) (by decide) (by decide)]) (fun v _ => by rw [b6 6 (by decide) (by decide) (by decide) (by decide) (by decide)])) (fun x _ hx => (b5 x hx).1) (.inl (.inr b4)) hh (by rw [a4 16 (by decide) (by decide), mI_hi (by decide)]; exact g1) (by rw [b6 15 (by decide) (by decide) (by decide) (by decide) (by decide)]; exact g2) ⟨g3, by rw [a4 19 (by decide) (by decide), mI_hi (by decide)]; exact g4, by rw [b6 12 (by decide) (by decide) (by decide) (by decide) (by decide)]; exact g5, fun i hi => by rw [a4 18 (by decide) (by decide), mI_hi (by decide), b6 13 (by decide) (by decide) (by decide) (by decide) (by decide)]; exact g6 i hi⟩⟩
    · unfold fm_W_heat fm_K_heat fm_K_heat_j53
      rw [if_neg (nI_pos (by omega)), if_neg (n12 hh), if_neg h3, if_pos h4, c_in hh (by decide), c_gr, c_gr, a1, c_ob2, a2, c_ob1, c_ob2]
    · rcases a5 with q | q
      · exact .inl (.inr q)
      · right
        refine ⟨by rw [q, mI_hi (by decide)], by rw [a4 21 (by decide) (by decide), mI_hi (by decide)], by rw [a4 22 (by decide) (by decide), mI_hi (by decide)], by rw [a6 3 (by decide), mJ_hi (by decide)], by rw [a6 4 (by decide), mJ_hi (by decide)]⟩
  · intro pr I J Ih Jh IM JM O ⟨Wh, nh, uh, lh, bh, R, D, hr⟩ p0 p1 ht hn
    obtain ⟨h, n, hh, rfl, n1, n2, rfl, h3, h4⟩ := ft_he ht
    have e16 : ∀ k, 16 ≤ k → nhI I k = I k := fun k hk => by
      have : Nat.blt k 16 = false := by
        cases hb : Nat.blt k 16 with
        | false => rfl
        | true => have := Nat.blt_eq.mp hb; omega
      simp only [nhI, this, cond_false]
    have e3 : ∀ k, 3 ≤ k → nhJ J k = J k := fun k hk => by
      have : Nat.blt k 3 = false := by
        cases hb : Nat.blt k 3 with
        | false => rfl
        | true => have := Nat.blt_eq.mp hb; omega
      simp only [nhJ, this, cond_false]
    have hr0 := hr
    obtain ⟨_, _, g7, g8, g1, g2, g3, g4, g5, g6⟩ := hr0
    obtain ⟨I2, J2, kI, a1, a2, a3, a4, a5, a6⟩ := begin_d (I := nhI I) (J := nhJ J) hh n1 n2 (by rw [e16 21 (by decide)]; exact g7) (by rw [e16 22 (by decide)]; exact g8)
    obtain ⟨nM, b1, b2, b3, b4, b5, b6⟩ := mheat_d (IM := IM) (JM := JM) hh n1 n2
    refine ⟨h, kI, J2, nM, hh, rfl, ?_, b1, b2, _, _, _, _, _, R, D, RD_up hr (fun x _ hx => upN_ne _ _ hx) (upN_same _ _ _) a3 ?_ b3 (fun x W n u l bk _ hx q => MR_oth q (b5 x hx).1 (b5 x hx).2.1 (b5 x hx).2.2 (fun v _ => by rw [b6 4 (by decide) (by decide) (by decide) (by decide) (by decide)]) (fun v _ => by rw [b6 5 (by decide) (by decide) (by decide) (by decide) (by decide)]) (fun v _ => by rw [b6 6 (by decide) (by decide) (by decide) (by decide) (by decide)])) (fun x _ hx => (b5 x hx).1) (.inl (.inr b4)) hh (by rw [a4 16 (by decide) (by decide), e16 16 (by decide)]; exact g1) (by rw [b6 15 (by decide) (by decide) (by decide) (by decide) (by decide)]; exact g2) ⟨g3, by rw [a4 19 (by decide) (by decide), e16 19 (by decide)]; exact g4, by rw [b6 12 (by decide) (by decide) (by decide) (by decide) (by decide)]; exact g5, fun i hi => by rw [a4 18 (by decide) (by decide), e16 18 (by decide), b6 13 (by decide) (by decide) (by decide) (by decide) (by decide)]; exact g6 i hi⟩⟩
    · unfold fm_K_heat_n
      rw [if_neg (nI_pos (by omega)), if_neg (n12 hh), if_neg h3, if_pos h4, c_in hh (by decide), c_gr, c_gr, bnd_eq, bnd_eq, c_gr, a1, c_ob2, a2, c_ob1]
    · rcases a5 with q | q
      · exact .inl (.inr q)
      · right
        refine ⟨by rw [q, e16 17 (by decide)], by rw [a4 21 (by decide) (by decide), e16 21 (by decide)], by rw [a4 22 (by decide) (by decide), e16 22 (by decide)], by rw [a6 3 (by decide), e3 3 (by decide)], by rw [a6 4 (by decide), e3 4 (by decide)]⟩
