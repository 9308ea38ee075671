/-! Worlds as sets of cells: order doesn't matter; the frame rule over 'callee's cells ++ the rest' -/
theorem jd_Pmem {D : va_G} {cl : List vw_C} {ws : va_W} {H : Heap} : va_P D cl ws H ↔ ∀ q ∈ ws, va_at D cl q H :=
  ⟨fun h q hq => by obtain ⟨i, hi⟩ := List.getElem?_of_mem hq; exact h i q hi, fun h _ q hk => h q (List.mem_of_getElem? hk)⟩
theorem jd_Dmem {A : Nat → Prop} {ws : va_W} : va_D A ws ↔ (ws.map Prod.fst).Nodup ∧ ∀ q ∈ ws, A q.1 := by
  constructor
  · intro h
    refine ⟨?_, fun q hq => by obtain ⟨i, hi⟩ := List.getElem?_of_mem hq; exact h.2 i q hi⟩
    unfold List.Nodup
    rw [List.pairwise_iff_getElem]
    intro i j hi hj hij e
    rw [List.length_map] at hi hj
    simp only [List.getElem_map] at e
    have := h.1 i j ws[i] ws[j] (List.getElem?_eq_getElem hi) (List.getElem?_eq_getElem hj) e
    omega
  · rintro ⟨h1, h2⟩
    refine ⟨fun i j x y hi hj e => ?_, fun k q hk => h2 q (List.mem_of_getElem? hk)⟩
    unfold List.Nodup at h1
    rw [List.pairwise_iff_getElem] at h1
    obtain ⟨hi', ei⟩ := List.getElem?_eq_some_iff.mp hi
    obtain ⟨hj', ej⟩ := List.getElem?_eq_some_iff.mp hj
    rcases Nat.lt_trichotomy i j with h | h | h
    · have h9 := h1 i j (by rw [List.length_map]; exact hi') (by rw [List.length_map]; exact hj') h
      simp only [List.getElem_map, ei, ej] at h9
      exact absurd e h9
    · exact h
    · have h9 := h1 j i (by rw [List.length_map]; exact hj') (by rw [List.length_map]; exact hi') h
      simp only [List.getElem_map, ei, ej] at h9
      exact absurd e.symm h9
theorem jd_Pp {D : va_G} {cl : List vw_C} {ws ws' : va_W} {H : Heap} (p : ws.Perm ws') (h : va_P D cl ws H) : va_P D cl ws' H := jd_Pmem.mpr fun q hq => jd_Pmem.mp h q (p.mem_iff.mpr hq)
theorem jd_Dp {A : Nat → Prop} {ws ws' : va_W} (p : ws.Perm ws') (h : va_D A ws) : va_D A ws' :=
  jd_Dmem.mpr ⟨((p.map Prod.fst).nodup_iff).mp (jd_Dmem.mp h).1, fun q hq => (jd_Dmem.mp h).2 q (p.mem_iff.mpr hq)⟩
theorem jd_Pl {D : va_G} {cl : List vw_C} {w1 w2 : va_W} {H : Heap} (h : va_P D cl (w1 ++ w2) H) : va_P D cl w1 H := jd_Pmem.mpr fun q hq => jd_Pmem.mp h q (List.mem_append_left _ hq)
theorem jd_Dl {A : Nat → Prop} {w1 w2 : va_W} (h : va_D A (w1 ++ w2)) : va_D A w1 := by
  have h1 := jd_Dmem.mp h
  rw [List.map_append] at h1
  exact jd_Dmem.mpr ⟨(List.nodup_append.mp h1.1).1, fun q hq => h1.2 q (List.mem_append_left _ hq)⟩
theorem jd_frame {A0 : Nat → Prop} {D : va_G} {cl : List vw_C} {wc wr w1 : va_W} {H H1 : Heap} (hP : va_P D cl (wc ++ wr) H) (hD : va_D A0 (wc ++ wr))
    (hk : ∀ q : Nat, q < H.size → ¬ va_A wc H.size q → H1[q]? = H[q]?) (hF : ∀ q, va_A wc H.size q → A0 q) (hP1 : va_P D cl w1 H1) (hD1 : va_D (va_A wc H.size) w1) : va_P D cl (w1 ++ wr) H1 ∧ va_D A0 (w1 ++ wr) := by
  have d := jd_Dmem.mp hD
  have d1 := jd_Dmem.mp hD1
  have dn := d.1
  rw [List.map_append, List.nodup_append] at dn
  have out : ∀ q ∈ wr, q.1 < H.size ∧ ¬ va_A wc H.size q.1 := by
    intro q hq
    have hl := (jd_Pmem.mp hP q (List.mem_append_right _ hq)).lt
    refine ⟨hl, fun h => ?_⟩
    rcases h with ⟨k, e, h⟩ | h
    · exact dn.2.2 q.1 (List.mem_map.mpr ⟨(q.1, e), List.mem_of_getElem? h, rfl⟩) q.1 (List.mem_map.mpr ⟨q, hq, rfl⟩) rfl
    · omega
  refine ⟨jd_Pmem.mpr fun q hq => ?_, jd_Dmem.mpr ⟨?_, fun q hq => ?_⟩⟩
  · rcases List.mem_append.mp hq with h | h
    · exact jd_Pmem.mp hP1 q h
    · exact (jd_Pmem.mp hP q (List.mem_append_right _ h)).kept (hk q.1 (out q h).1 (out q h).2)
  · rw [List.map_append, List.nodup_append]
    refine ⟨d1.1, dn.2.1, fun a ha b hb e => ?_⟩
    obtain ⟨x, hx, rfl⟩ := List.mem_map.mp ha
    obtain ⟨y, hy, rfl⟩ := List.mem_map.mp hb
    exact (out y hy).2 (e ▸ d1.2 x hx)
  · rcases List.mem_append.mp hq with h | h
    · exact hF q.1 (d1.2 q h)
    · exact d.2 q (List.mem_append_right _ h)
/-- an unchanged set of addresses lies where it lay -/
theorem jd_Dself {wc w1 : va_W} {sz : Nat} {A : Nat → Prop} (h : va_D A wc) (e : wc.map Prod.fst = w1.map Prod.fst) : va_D (va_A wc sz) w1 := jd_Dc (h.self (sz := sz)) e
section JFR
variable {p : Program} {l : Launch} {e : Env} {R : Room} {s : State} {m : MethodId} {args : Array Value} {below : List Frame} {meth : Method} {c : Code} {H : Heap} {locs : List Loc} {cells slots : Nat} {Q : State → Prop}
variable {pc : Nat} {ls : Array Slot} {rest st0 : List Value} {D : va_G} {cl : List vw_C} {A : Nat → Prop} {H0 : Heap}
theorem jd_fri {wc wr w1 : va_W} {r1 : Int32} {av : Array Value} (hP : va_P D cl (wc ++ wr) H) (hD : va_D A (wc ++ wr)) (hS : va_S A H0 H locs) (hA : ∀ q, H0.size ≤ q → A q) (hfst : wc.map Prod.fst = w1.map Prod.fst)
    (hr : va_Run p l e R s m args below meth c H locs cells slots 0 0 (F0 m pc ls st0) rest (va_Qi (fun r (_ : Unit) => r = r1) (fun _ t => va_P D cl w1 t.heap) (va_A wc H.size) av) (va_A wc H.size))
    (kk : ∀ (H1 : Heap) (locs1 : List Loc), va_P D cl (w1 ++ wr) H1 → va_D A (w1 ++ wr) → va_S A H0 H1 locs1 → W p l e R s m args below meth c H1 locs1 cells slots Q (F0 m (pc + 3) ls (.int r1 :: rest))) : W p l e R s m args below meth c H locs cells slots Q (F0 m pc ls st0) :=
  va_calli hr hS (fun q _ h => jd_free (jd_Dl hD) hS hA q h) (jd_free (jd_Dl hD) hS hA) (fun r _ t H1 locs1 ht _ hp hB _ hk1 hS1 => by
    subst hp; subst ht
    obtain ⟨h1, h2⟩ := jd_frame hP hD hk1 (jd_free (jd_Dl hD) hS hA) hB (jd_Dself (jd_Dl hD) hfst)
    exact kk _ _ h1 h2 hS1)
theorem jd_frl {wc wr w1 : va_W} {r1 : Int64} {av : Array Value} (hP : va_P D cl (wc ++ wr) H) (hD : va_D A (wc ++ wr)) (hS : va_S A H0 H locs) (hA : ∀ q, H0.size ≤ q → A q) (hfst : wc.map Prod.fst = w1.map Prod.fst)
    (hr : va_Run p l e R s m args below meth c H locs cells slots 0 0 (F0 m pc ls st0) rest (va_Ql (fun r (_ : Unit) => r = r1) (fun _ t => va_P D cl w1 t.heap) (va_A wc H.size) av) (va_A wc H.size))
    (kk : ∀ (H1 : Heap) (locs1 : List Loc), va_P D cl (w1 ++ wr) H1 → va_D A (w1 ++ wr) → va_S A H0 H1 locs1 → W p l e R s m args below meth c H1 locs1 cells slots Q (F0 m (pc + 3) ls (.long r1 :: rest))) : W p l e R s m args below meth c H locs cells slots Q (F0 m pc ls st0) :=
  va_calll hr hS (fun q _ h => jd_free (jd_Dl hD) hS hA q h) (jd_free (jd_Dl hD) hS hA) (fun r _ t H1 locs1 ht _ hp hB _ hk1 hS1 => by
    subst hp; subst ht
    obtain ⟨h1, h2⟩ := jd_frame hP hD hk1 (jd_free (jd_Dl hD) hS hA) hB (jd_Dself (jd_Dl hD) hfst)
    exact kk _ _ h1 h2 hS1)
theorem jd_frv {wc wr w1 : va_W} {av : Array Value} (hP : va_P D cl (wc ++ wr) H) (hD : va_D A (wc ++ wr)) (hS : va_S A H0 H locs) (hA : ∀ q, H0.size ≤ q → A q) (hfst : wc.map Prod.fst = w1.map Prod.fst)
    (hr : va_Run p l e R s m args below meth c H locs cells slots 0 0 (F0 m pc ls st0) rest (va_Qv (fun (_ : Unit) => True) (fun _ t => va_P D cl w1 t.heap) (va_A wc H.size) av) (va_A wc H.size))
    (kk : ∀ (H1 : Heap) (locs1 : List Loc), va_P D cl (w1 ++ wr) H1 → va_D A (w1 ++ wr) → va_S A H0 H1 locs1 → W p l e R s m args below meth c H1 locs1 cells slots Q (F0 m (pc + 3) ls rest)) : W p l e R s m args below meth c H locs cells slots Q (F0 m pc ls st0) :=
  va_callv hr hS (fun q _ h => jd_free (jd_Dl hD) hS hA q h) (jd_free (jd_Dl hD) hS hA) (fun _ t H1 locs1 ht _ _ hB _ hk1 hS1 => by
    subst ht
    obtain ⟨h1, h2⟩ := jd_frame hP hD hk1 (jd_free (jd_Dl hD) hS hA) hB (jd_Dself (jd_Dl hD) hfst)
    exact kk _ _ h1 h2 hS1)
end JFR
