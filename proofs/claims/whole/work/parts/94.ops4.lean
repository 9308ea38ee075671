/-! Calls that change what is given: chance, give, and the start -/
theorem ft_ch {p0 p1 : Int64} {p2 : Int32} : ft_K_chance p0 p1 p2 ≠ some () → ¬ lg_cmp p0 0 < 0 ∧ 0 ≤ lg_cmp p1 1 := by
  intro h
  unfold ft_K_chance at h
  by_cases h1 : lg_cmp p0 0 < 0
  · rw [if_pos h1] at h; exact absurd rfl h
  · rw [if_neg h1] at h
    by_cases h2 : 0 ≤ lg_cmp p1 1
    · exact ⟨h1, h2⟩
    · rw [if_neg h2] at h; exact absurd rfl h
theorem sV_thr {IM : IS} (x : Int32) : fm_M_thrown (sV IM 0 x) = some x := by unfold fm_M_thrown; rw [sV_same]
theorem mO_ne {J : JS} {O : Nat → Int64} {k : Nat} (h : k ≠ 5) : mO J O k = J k := by simp only [mO, q_beq_ne h, cond_false]
theorem ok_chance : Ok_chance Rel := by
  constructor
  · intro pr I J Ih Jh IM JM O hr p0 p1 p2 ht
    refine ⟨0, sV IM 0 1, ?_, sV_thr 1, Rel_none hr 1 rfl rfl⟩
    have hj : fm_M_chance_j13 p0 p1 p2 IM = some (0, sV IM 0 1) := by
      unfold fm_M_chance_j13 fm_M_chance_j18
      rw [bnd_eq, sV_same, if_neg (show ¬ (1 : Int32) = 0 from by decide)]
    unfold ft_K_chance at ht
    unfold fm_M_chance
    by_cases h1 : lg_cmp p0 0 < 0
    · rw [if_pos h1]; exact hj
    · rw [if_neg h1] at ht ⊢
      by_cases h2 : 0 ≤ lg_cmp p1 1
      · rw [if_pos h2] at ht; cases ht
      · rw [if_neg h2]; exact hj
  · intro pr I J Ih Jh IM JM O hr p0 p1 p2 ht
    obtain ⟨h1, h2⟩ := ft_ch ht
    obtain ⟨x, hx, rfl⟩ := l_of (fun q => h1 ((lg_cmp_lt p0 0).mpr q))
    have hy0 : ¬ p1 < 0 := by
      rw [lg_cmp_ge] at h2
      intro q
      have := Int64.lt_of_le_of_lt h2 q
      exact absurd this (by decide)
    obtain ⟨y, hy, rfl⟩ := l_of hy0
    have hy1 : 0 < y := by
      rw [lg_cmp_ge, l_1, l_le (by decide) hy] at h2
      exact h2
    obtain ⟨g, g1, g2, g3, g4⟩ := euclid_eq hx hy hy1
    have hg0 : ¬ lN g = 0 := l_ne0 g2 (by omega)
    have key : ∃ r, fm_K_chance_o (lN x) (lN y) p2 = some r ∧ fm_M_chance (lN x) (lN y) p2 IM = some (r, sV IM 0 0) := by
      unfold fm_K_chance_o fm_M_chance fm_M_chance_j18 fm_K_inLowestTerms
      rw [if_neg h1, if_neg h1, if_pos h2, if_pos h2, bnd_eq, sV_same, if_pos rfl, g3, g4, c_ob1, c_ob1, decide_eq_true hg0]
      simp only [c_gr]
      by_cases hz : p2 = 0
      · rw [if_pos hz, if_pos hz]; exact ⟨_, rfl, rfl⟩
      · rw [if_neg hz, if_neg hz]; exact ⟨_, rfl, rfl⟩
    obtain ⟨r, r1, r2⟩ := key
    refine ⟨sJ (mO J O) 5 0 r, r, sV IM 0 0, ?_, r2, sV_thr 0, sJ_same, Rel_none hr 0 (by rw [sJ_ne (by decide), mO_ne (by decide)]) (by rw [sJ_ne (by decide), mO_ne (by decide)])⟩
    unfold fm_W_chance
    rw [r1, c_ob1, show inB (0 : Int32) 1 = true from by decide, c_gr, bnd_eq, z_cl]
theorem ft_gi {p0 p1 : Int32} : ft_K_give p0 p1 ≠ some () → ¬ p0 < 1 ∧ ¬ (16 : Int32) < p0 ∧ ¬ p1 < -1 ∧ p1 < 16 := by
  intro h
  unfold ft_K_give at h
  by_cases h1 : p0 < 1
  · rw [if_pos h1] at h; exact absurd rfl h
  · rw [if_neg h1] at h
    by_cases h2 : (16 : Int32) < p0
    · rw [if_pos h2] at h; exact absurd rfl h
    · rw [if_neg h2] at h
      by_cases h3 : p1 < -1
      · rw [if_pos h3] at h; exact absurd rfl h
      · rw [if_neg h3] at h
        by_cases h4 : p1 < 16
        · exact ⟨h1, h2, h3, h4⟩
        · rw [if_neg h4] at h; exact absurd rfl h
theorem i_le15 {x : Int32} : x ≤ 15 ↔ x < 16 := by
  rw [Int32.le_iff_toInt_le, Int32.lt_iff_toInt_lt]
  show x.toInt ≤ 15 ↔ x.toInt < 16
  omega
theorem i_m1 {x : Int32} (h1 : ¬ x < -1) (h2 : x < 0) : x = -1 := by
  rw [Int32.lt_iff_toInt_lt] at h1 h2
  apply Int32.toInt_inj.mp
  have e1 : (-1 : Int32).toInt = -1 := by decide
  have e0 : (0 : Int32).toInt = 0 := by decide
  rw [e1] at h1 ⊢
  rw [e0] at h2
  omega
theorem ok_give : Ok_give Rel := by
  constructor
  · intro pr I J Ih Jh IM JM O hr p0 p1 ht
    refine ⟨0, sV IM 0 1, ?_, sV_thr 1, Rel_none hr 1 rfl rfl⟩
    have hj : fm_M_give_j23 p0 p1 IM = some (0, sV IM 0 1) := by
      unfold fm_M_give_j23 fm_M_give_j28
      rw [bnd_eq, sV_same, if_neg (show ¬ (1 : Int32) = 0 from by decide)]
    unfold ft_K_give at ht
    unfold fm_M_give
    by_cases h1 : p0 < 1
    · rw [if_pos h1]; exact hj
    · rw [if_neg h1] at ht ⊢
      by_cases h2 : (16 : Int32) < p0
      · rw [if_pos h2]; exact hj
      · rw [if_neg h2] at ht ⊢
        by_cases h3 : p1 < -1
        · rw [if_pos h3]; exact hj
        · rw [if_neg h3] at ht ⊢
          by_cases h4 : p1 < 16
          · rw [if_pos h4] at ht; cases ht
          · rw [if_neg (fun q => h4 (i_le15.mp q))]; exact hj
  · intro pr I J Ih Jh IM JM O ⟨Wh, nh, uh, lh, bh, R, D, hr⟩ p0 p1 ht
    obtain ⟨h1, h2, h3, h4⟩ := ft_gi ht
    obtain ⟨r, hr16, rfl⟩ := rank_of h1 (Int32.not_lt.mp h2)
    obtain ⟨a1, a2, a3, a4, a5, a6, a7, a8, a9, a10⟩ := hr
    have hp1 : ∃ x, (x < 16 ∧ p1 = nI x) ∨ (x = 16 ∧ p1 = -1) := by
      by_cases h0 : p1 < 0
      · exact ⟨16, .inr ⟨rfl, i_m1 h3 h0⟩⟩
      · obtain ⟨j, hj, rfl⟩ := nI_of h0
        exact ⟨j, .inl ⟨(nI_ltI (b := 16) (by omega) (by omega)).mp h4, rfl⟩⟩
    obtain ⟨x, hx⟩ := hp1
    have hsame : IM 15 r = I 16 r := by
      rcases a5 r hr16 with ⟨q1, q2⟩ | ⟨q1, q2⟩ <;> rcases a6 r hr16 with ⟨q3, q4⟩ | ⟨q3, q4⟩
      · rw [q2, q4]
      · omega
      · omega
      · rw [q2, q4]
    have up : ∀ {f : Nat → Int32}, Rw f R → Rw (upd f r p1) (fun i => if i = r then x else R i) := by
      intro f hf i hi
      show ((if i = r then x else R i) < 16 ∧ upd f r p1 i = nI (if i = r then x else R i)) ∨ ((if i = r then x else R i) = 16 ∧ upd f r p1 i = -1)
      by_cases e : i = r
      · subst e
        rw [if_pos rfl, show upd f i p1 i = p1 from by simp [upd]]; exact hx
      · rw [if_neg e, show upd f r p1 i = f i from by simp [upd, e]]; exact hf i hi
    have up1 : ∀ {A : IS} {k : Nat}, sI A k r p1 k = upd (A k) r p1 := by
      intro A k
      funext j
      by_cases e : j = r
      · subst e; rw [sI_same]; simp [upd]
      · rw [sI_idx e]; simp [upd, e]
    refine ⟨sI I 16 r p1, sJ (mO J O) 5 0 (I 16 r).toInt64, I 16 r, sI (sV IM 0 0) 15 r p1, ?_, ?_, ?_, sJ_same, ?_⟩
    · unfold fm_W_give fm_K_give_o
      rw [if_neg h1, if_neg h2, if_neg h3, if_pos h4, nI_pred, c_in hr16 (by decide), c_gr, c_cl (by omega), bnd_eq, c_gr, bnd_eq, c_ob2, show inB (0 : Int32) 1 = true from by decide, c_gr, bnd_eq, z_cl]
    · unfold fm_M_give fm_M_give_j28
      rw [if_neg h1, if_neg h2, if_neg h3, if_pos (i_le15.mpr h4), bnd_eq, sV_same, if_pos rfl, nI_pred, c_in hr16 (by decide), c_gr, c_cl (by omega), bnd_eq, c_gr, bnd_eq, sV_ne (by decide), hsame]
    · unfold fm_M_thrown; rw [sI_ne (by decide), sV_same]
    · have e0 : ∀ k, k ≠ 0 → k ≠ 15 → sI (sV IM 0 0) 15 r p1 k = IM k := fun k k1 k2 => by rw [sI_ne k2, sV_ne k1]
      have e3 : ∀ k, k ≠ 5 → sJ (mO J O) 5 0 (I 16 r).toInt64 k = J k := fun k k1 => by rw [sJ_ne k1, mO_ne k1]
      refine ⟨Wh, nh, uh, lh, bh, (fun i => if i = r then x else R i), D, fun h hh hp => ?_, fun h hh hp => by rw [e0 1 (by decide) (by decide)]; exact a2 h hh hp, by rw [sI_ne (by decide)]; exact a3, by rw [sI_ne (by decide)]; exact a4, ?_, ?_, a7, by rw [sI_ne (by decide)]; exact a8, by rw [e0 12 (by decide) (by decide)]; exact a9, fun i hi => by rw [sI_ne (by decide), e0 13 (by decide) (by decide)]; exact a10 i hi⟩
      · obtain ⟨b1, b2, b3⟩ := a1 h hh hp
        refine ⟨b1, fun q => ?_, MP_0 b3 (fun k k1 k2 => e0 k k2 (by omega)) rfl rfl⟩
        rw [sI_ne (by decide)] at q
        obtain ⟨c1, c2⟩ := b2 q
        exact ⟨Ld_fr c1 (sI_ne (by decide)) (sI_ne (by decide)) (e3 3 (by decide)) (e3 4 (by decide)), c2⟩
      · rw [up1]; exact up a5
      · rw [up1]
        apply up
        rw [sV_ne (by decide)]; exact a6
theorem ok_init : Ok_init Rel := by
  unfold Ok_init
  obtain ⟨kI, f1, f2, f3⟩ := fillI_eq 16 16 (-1) (sV (fun _ _ => 0) 17 (-1)) (by decide)
  obtain ⟨nM, g1, g2, _, g3⟩ := mfill_eq (k := 15) fm_M_init_B184 (fun _ _ => rfl) 0 (by decide) (sV (fun _ _ => 0) 7 (-1))
  refine ⟨kI, nM, ?_, ?_, fun _ => 0, fun _ => 0, fun _ _ => 0, fun _ _ => 0, fun _ _ => false, fun _ => 16, 0, ?_⟩
  · unfold fm_K_init; rw [f1, c_ob1]
  · unfold fm_M_init
    rw [show ((0 : Int32), sV (fun _ _ => 0) 7 (-1)) = (nI 0, sV (fun _ _ => 0) 7 (-1)) from rfl, g1, c_ob3]
  · have e1 : ∀ k, k ≠ 16 → k ≠ 17 → kI k = fun _ => 0 := fun k k1 k2 => by rw [f3 k k1, sV_ne k2]
    have e2 : ∀ k, k ≠ 15 → k ≠ 7 → nM k = fun _ => 0 := fun k k1 k2 => by rw [g3 k k1, sV_ne k2]
    refine ⟨fun h hh q => (by cases q), fun h hh _ => by rw [e2 1 (by decide) (by decide)], by rw [e1 21 (by decide) (by decide)], by rw [e1 22 (by decide) (by decide)], fun i hi => .inr ⟨rfl, f2 i hi⟩, fun i hi => .inr ⟨rfl, g2 i (Nat.zero_le _) hi⟩, Nat.zero_le _, by rw [e1 19 (by decide) (by decide)]; rfl, by rw [e2 12 (by decide) (by decide)]; rfl, fun i hi => absurd hi (Nat.not_lt_zero _)⟩
