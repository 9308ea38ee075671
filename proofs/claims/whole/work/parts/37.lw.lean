/-! The law's world: desk, the law's array, the reference, the heats that are there -/
def hsOf (pr : Nat → Bool) (adh : Nat → Nat → Nat) : Nat → Option Nat := fun h => cond (pr h) (some (adh h 0)) none
def wHs (ca : Nat → ClassId) (adh : Nat → Nat → Nat) (pr : Nat → Bool) (Ih : Nat → IS) (Jh : Nat → JS) (L : List Nat) : va_W := L.flatMap (fun h => cond (pr h) (wH ca (adh h) (Ih h) (Jh h)) [])
abbrev oc (ca : Nat → ClassId) (ad : Nat → Nat) (O : Nat → Int64) : Nat × va_E := (ad 26, .inl (ca 3, 1, .inr (.inl O)))
def wL (ca : Nat → ClassId) (ad : Nat → Nat) (adh : Nat → Nat → Nat) (am : Nat → Nat) (pr : Nat → Bool) (I : IS) (J : JS) (Ih : Nat → IS) (Jh : Nat → JS) (IM : IS) (JM : JS) (O : Nat → Int64) : va_W :=
  wD ca ad (hsOf pr adh) I J ++ ([oc ca ad O] ++ (wM ca am IM JM ++ wHs ca adh pr Ih Jh (List.range 12)))
def adC (ad : Nat → Nat) (ah : Nat → Nat) : Nat → Nat := fun k => cond (Nat.blt k 15) (ah k) (ad k)
def mI (Ih I : IS) : IS := fun k => cond (Nat.blt k 16) (Ih k) (I k)
def mJ (Jh J : JS) : JS := fun k => cond (Nat.blt k 3) (Jh k) (J k)
def mO (J : JS) (O : Nat → Int64) : JS := fun k => cond (Nat.beq k 5) O (J k)
def upN {α : Type} (f : Nat → α) (h : Nat) (x : α) : Nat → α := fun k => if k = h then x else f k
theorem wC_eq (ca : Nat → ClassId) (ad ah : Nat → Nat) (hs : Nat → Option Nat) (I : IS) (J : JS) (Ih : IS) (Jh : JS) : wC ca (adC ad ah) hs (mI Ih I) (mJ Jh J) = wH ca ah Ih Jh ++ wD ca ad hs I J := rfl
theorem wC_eq' (ca : Nat → ClassId) (ad ah : Nat → Nat) (hs : Nat → Option Nat) (I : IS) (J : JS) : wC ca (adC ad ah) hs I J = wH ca ah I J ++ wD ca ad hs I J := rfl
theorem wDo_eq (ca : Nat → ClassId) (ad : Nat → Nat) (hs : Nat → Option Nat) (I : IS) (J : JS) (O : Nat → Int64) : wDo ca ad hs I (mO J O) = wD ca ad hs I J ++ [oc ca ad O] := rfl
theorem wDo_eq' (ca : Nat → ClassId) (ad : Nat → Nat) (hs : Nat → Option Nat) (I : IS) (J : JS) : wDo ca ad hs I J = wD ca ad hs I J ++ [oc ca ad (J 5)] := rfl
theorem wHs_congr {ca : Nat → ClassId} {adh adh' : Nat → Nat → Nat} {pr pr' : Nat → Bool} {Ih Ih' : Nat → IS} {Jh Jh' : Nat → JS} : ∀ {L : List Nat}, (∀ k ∈ L, pr k = pr' k ∧ adh k = adh' k ∧ Ih k = Ih' k ∧ Jh k = Jh' k) → wHs ca adh pr Ih Jh L = wHs ca adh' pr' Ih' Jh' L
  | [], _ => rfl
  | a :: L, h => by
    obtain ⟨h1, h2, h3, h4⟩ := h a List.mem_cons_self
    show (cond (pr a) _ _) ++ wHs ca adh pr Ih Jh L = (cond (pr' a) _ _) ++ wHs ca adh' pr' Ih' Jh' L
    rw [h1, h2, h3, h4, wHs_congr (fun k hk => h k (List.mem_cons_of_mem _ hk))]
theorem wHs_split {ca : Nat → ClassId} {adh : Nat → Nat → Nat} {pr : Nat → Bool} {Ih : Nat → IS} {Jh : Nat → JS} {h : Nat} (hh : h < 12) (hp : pr h = true) : (wHs ca adh pr Ih Jh (List.range 12)).Perm (wH ca (adh h) (Ih h) (Jh h) ++ wHs ca adh pr Ih Jh ((List.range 12).erase h)) := by
  have p1 := List.Perm.flatMap_right (fun h => cond (pr h) (wH ca (adh h) (Ih h) (Jh h)) []) (List.perm_cons_erase (List.mem_range.mpr hh))
  refine p1.trans ?_
  show ((cond (pr h) (wH ca (adh h) (Ih h) (Jh h)) []) ++ _).Perm _
  rw [hp]
  exact List.Perm.refl _
theorem wHs_split0 {ca : Nat → ClassId} {adh : Nat → Nat → Nat} {pr : Nat → Bool} {Ih : Nat → IS} {Jh : Nat → JS} {h : Nat} (hh : h < 12) (hp : pr h = false) : (wHs ca adh pr Ih Jh (List.range 12)).Perm (wHs ca adh pr Ih Jh ((List.range 12).erase h)) := by
  have p1 := List.Perm.flatMap_right (fun h => cond (pr h) (wH ca (adh h) (Ih h) (Jh h)) []) (List.perm_cons_erase (List.mem_range.mpr hh))
  refine p1.trans ?_
  show ((cond (pr h) (wH ca (adh h) (Ih h) (Jh h)) []) ++ _).Perm _
  rw [hp]
  exact List.Perm.refl _
theorem er_ne {h k : Nat} (hk : k ∈ (List.range 12).erase h) : k ≠ h := fun e => by
  subst e
  exact absurd hk (by rw [List.nodup_range.mem_erase_iff]; exact fun z => z.1 rfl)
theorem pm_1 {α : Type} (d q x z : List α) : (d ++ (q ++ (x ++ z))).Perm ((x ++ d) ++ (q ++ z)) := by
  have h1 : d ++ (q ++ (x ++ z)) = ((d ++ q) ++ x) ++ z := by simp only [List.append_assoc]
  have h2 : (x ++ d) ++ (q ++ z) = (x ++ (d ++ q)) ++ z := by simp only [List.append_assoc]
  rw [h1, h2]
  exact (List.perm_append_comm).append_right z
/-- all but the heat h and the desk -/
def rC (ca : Nat → ClassId) (ad : Nat → Nat) (adh : Nat → Nat → Nat) (am : Nat → Nat) (pr : Nat → Bool) (Ih : Nat → IS) (Jh : Nat → JS) (IM : IS) (JM : JS) (O : Nat → Int64) (h : Nat) : va_W := ([oc ca ad O] ++ wM ca am IM JM) ++ wHs ca adh pr Ih Jh ((List.range 12).erase h)
theorem wL_C {ca : Nat → ClassId} {ad : Nat → Nat} {adh : Nat → Nat → Nat} {am : Nat → Nat} {pr : Nat → Bool} {I : IS} {J : JS} {Ih : Nat → IS} {Jh : Nat → JS} {IM : IS} {JM : JS} {O : Nat → Int64} {h : Nat} (hh : h < 12) (hp : pr h = true) :
    (wL ca ad adh am pr I J Ih Jh IM JM O).Perm (wC ca (adC ad (adh h)) (hsOf pr adh) (mI (Ih h) I) (mJ (Jh h) J) ++ rC ca ad adh am pr Ih Jh IM JM O h) := by
  rw [wC_eq]
  unfold wL rC
  refine List.Perm.trans ?_ (pm_1 _ ([oc ca ad O] ++ wM ca am IM JM) _ _)
  rw [List.append_assoc [oc ca ad O]]
  exact List.Perm.append_left _ (List.Perm.append_left _ (List.Perm.append_left _ (wHs_split hh hp)))
theorem wL_C' {ca : Nat → ClassId} {ad : Nat → Nat} {adh : Nat → Nat → Nat} {am : Nat → Nat} {pr : Nat → Bool} {I : IS} {J : JS} {Ih : Nat → IS} {Jh : Nat → JS} {IM : IS} {JM : JS} {O : Nat → Int64} {h : Nat} (hh : h < 12) (hp : pr h = true) :
    (wC ca (adC ad (adh h)) (hsOf pr adh) I J ++ rC ca ad adh am pr Ih Jh IM JM O h).Perm (wL ca ad adh am pr I J (upN Ih h I) (upN Jh h J) IM JM O) := by
  rw [wC_eq']
  unfold wL rC
  refine List.Perm.trans (pm_1 _ ([oc ca ad O] ++ wM ca am IM JM) _ _).symm ?_
  rw [List.append_assoc [oc ca ad O]]
  refine List.Perm.append_left _ (List.Perm.append_left _ (List.Perm.append_left _ ?_))
  refine List.Perm.trans ?_ (wHs_split (Ih := upN Ih h I) (Jh := upN Jh h J) hh hp).symm
  rw [show upN Ih h I h = I by simp [upN], show upN Jh h J h = J by simp [upN], wHs_congr (pr' := pr) (adh' := adh) (Ih' := upN Ih h I) (Jh' := upN Jh h J) (fun k hk => ⟨rfl, rfl, by simp [upN, er_ne hk], by simp [upN, er_ne hk]⟩)]
/-- a new heat -/
theorem wL_N' {ca : Nat → ClassId} {ad ad2 : Nat → Nat} {adh : Nat → Nat → Nat} {am : Nat → Nat} {pr : Nat → Bool} {I0 I : IS} {J0 J : JS} {Ih : Nat → IS} {Jh : Nat → JS} {IM : IS} {JM : JS} {O : Nat → Int64} {h : Nat} {hs2 : Nat → Option Nat} (hh : h < 12) (hp : pr h = false) (hk : ∀ k, 15 ≤ k → ad2 k = ad k) (hs : hs2 = va_up (hsOf pr adh) h (some (ad2 0))) :
    (wC ca ad2 hs2 I J ++ ([oc ca ad O] ++ (wM ca am IM JM ++ wHs ca adh pr Ih Jh (List.range 12)))).Perm (wL ca ad (upN adh h ad2) am (upN pr h true) I J (upN Ih h I) (upN Jh h J) IM JM O) := by
  have e1 : wC ca ad2 hs2 I J = wH ca ad2 I J ++ wD ca ad (hsOf (upN pr h true) (upN adh h ad2)) I J := by
    have e2 : hs2 = hsOf (upN pr h true) (upN adh h ad2) := by
      rw [hs]
      funext k
      by_cases hkh : k = h
      · subst hkh; simp [va_up, hsOf, upN]
      · simp [va_up, hsOf, upN, hkh]
    rw [← e2]
    show wH ca ad2 I J ++ wD ca ad2 hs2 I J = _
    have e3 : wD ca ad2 hs2 I J = wD ca ad hs2 I J := by
      unfold wD
      rw [hk 15 (by decide), hk 16 (by decide), hk 17 (by decide), hk 18 (by decide), hk 19 (by decide), hk 20 (by decide), hk 21 (by decide), hk 22 (by decide), hk 23 (by decide), hk 24 (by decide), hk 25 (by decide)]
    rw [e3]
  rw [e1]
  unfold wL
  refine List.Perm.trans (List.Perm.append_left _ ?_) (List.Perm.trans (pm_1 _ ([oc ca ad O] ++ wM ca am IM JM) (wH ca ad2 I J) (wHs ca adh pr Ih Jh ((List.range 12).erase h))).symm ?_)
  · rw [List.append_assoc]
    exact List.Perm.append_left _ (List.Perm.append_left _ (wHs_split0 hh hp))
  · rw [List.append_assoc [oc ca ad O]]
    refine List.Perm.append_left _ (List.Perm.append_left _ (List.Perm.append_left _ ?_))
    refine List.Perm.trans ?_ (wHs_split (adh := upN adh h ad2) (pr := upN pr h true) (Ih := upN Ih h I) (Jh := upN Jh h J) hh (by simp [upN])).symm
    rw [show upN adh h ad2 h = ad2 by simp [upN], show upN Ih h I h = I by simp [upN], show upN Jh h J h = J by simp [upN], wHs_congr (pr' := upN pr h true) (adh' := upN adh h ad2) (Ih' := upN Ih h I) (Jh' := upN Jh h J) (fun k hk => ⟨by simp [upN, er_ne hk], by simp [upN, er_ne hk], by simp [upN, er_ne hk], by simp [upN, er_ne hk]⟩)]
theorem wL_M {ca : Nat → ClassId} {ad : Nat → Nat} {adh : Nat → Nat → Nat} {am : Nat → Nat} {pr : Nat → Bool} {I : IS} {J : JS} {Ih : Nat → IS} {Jh : Nat → JS} {IM : IS} {JM : JS} {O : Nat → Int64} :
    (wL ca ad adh am pr I J Ih Jh IM JM O).Perm (wM ca am IM JM ++ (wD ca ad (hsOf pr adh) I J ++ ([oc ca ad O] ++ wHs ca adh pr Ih Jh (List.range 12)))) := by
  unfold wL
  refine (pm_1 _ [oc ca ad O] _ _).trans ?_
  rw [List.append_assoc]
