theorem d_M_countAll_0 : decode b_M_countAll 0 = .ok (.aload_n 0, 1) := by decide +kernel
theorem d_M_countAll_1 : decode b_M_countAll 1 = .ok (.iload_n 1, 1) := by decide +kernel
theorem d_M_countAll_2 : decode b_M_countAll 2 = .ok (.invokevirtual 94, 3) := by decide +kernel
theorem d_M_countAll_5 : decode b_M_countAll 5 = .ok (.aload_n 0, 1) := by decide +kernel
theorem d_M_countAll_6 : decode b_M_countAll 6 = .ok (.getfield 45, 3) := by decide +kernel
theorem d_M_countAll_9 : decode b_M_countAll 9 = .ok (.ifCond .eq 4, 3) := by decide +kernel
theorem d_M_countAll_12 : decode b_M_countAll 12 = .ok (.return_, 1) := by decide +kernel
theorem d_M_countAll_13 : decode b_M_countAll 13 = .ok (.aload_n 0, 1) := by decide +kernel
theorem d_M_countAll_14 : decode b_M_countAll 14 = .ok (.iconst 1, 1) := by decide +kernel
theorem d_M_countAll_15 : decode b_M_countAll 15 = .ok (.putfield 45, 3) := by decide +kernel
theorem d_M_countAll_18 : decode b_M_countAll 18 = .ok (.iconst 0, 1) := by decide +kernel
theorem d_M_countAll_19 : decode b_M_countAll 19 = .ok (.istore_n 2, 1) := by decide +kernel
theorem d_M_countAll_20 : decode b_M_countAll 20 = .ok (.iload_n 2, 1) := by decide +kernel
theorem d_M_countAll_21 : decode b_M_countAll 21 = .ok (.aload_n 0, 1) := by decide +kernel
theorem d_M_countAll_22 : decode b_M_countAll 22 = .ok (.getfield 36, 3) := by decide +kernel
theorem d_M_countAll_25 : decode b_M_countAll 25 = .ok (.if_icmp .gt 23, 3) := by decide +kernel
theorem d_M_countAll_28 : decode b_M_countAll 28 = .ok (.aload_n 0, 1) := by decide +kernel
theorem d_M_countAll_29 : decode b_M_countAll 29 = .ok (.getfield 50, 3) := by decide +kernel
theorem d_M_countAll_32 : decode b_M_countAll 32 = .ok (.iload_n 2, 1) := by decide +kernel
theorem d_M_countAll_33 : decode b_M_countAll 33 = .ok (.lconst 0, 1) := by decide +kernel
theorem d_M_countAll_34 : decode b_M_countAll 34 = .ok (.lastore, 1) := by decide +kernel
theorem d_M_countAll_35 : decode b_M_countAll 35 = .ok (.aload_n 0, 1) := by decide +kernel
theorem d_M_countAll_36 : decode b_M_countAll 36 = .ok (.getfield 54, 3) := by decide +kernel
theorem d_M_countAll_39 : decode b_M_countAll 39 = .ok (.iload_n 2, 1) := by decide +kernel
theorem d_M_countAll_40 : decode b_M_countAll 40 = .ok (.lconst 0, 1) := by decide +kernel
theorem d_M_countAll_41 : decode b_M_countAll 41 = .ok (.lastore, 1) := by decide +kernel
theorem d_M_countAll_42 : decode b_M_countAll 42 = .ok (.iinc 2 1, 3) := by decide +kernel
theorem d_M_countAll_45 : decode b_M_countAll 45 = .ok (.goto (-25), 3) := by decide +kernel
theorem d_M_countAll_48 : decode b_M_countAll 48 = .ok (.aload_n 0, 1) := by decide +kernel
theorem d_M_countAll_49 : decode b_M_countAll 49 = .ok (.getfield 50, 3) := by decide +kernel
theorem d_M_countAll_52 : decode b_M_countAll 52 = .ok (.iconst 0, 1) := by decide +kernel
theorem d_M_countAll_53 : decode b_M_countAll 53 = .ok (.lconst 1, 1) := by decide +kernel
theorem d_M_countAll_54 : decode b_M_countAll 54 = .ok (.lastore, 1) := by decide +kernel
theorem d_M_countAll_55 : decode b_M_countAll 55 = .ok (.iconst 0, 1) := by decide +kernel
theorem d_M_countAll_56 : decode b_M_countAll 56 = .ok (.istore_n 2, 1) := by decide +kernel
theorem d_M_countAll_57 : decode b_M_countAll 57 = .ok (.iload_n 2, 1) := by decide +kernel
theorem d_M_countAll_58 : decode b_M_countAll 58 = .ok (.aload_n 0, 1) := by decide +kernel
theorem d_M_countAll_59 : decode b_M_countAll 59 = .ok (.getfield 36, 3) := by decide +kernel
theorem d_M_countAll_62 : decode b_M_countAll 62 = .ok (.if_icmp .gt 62, 3) := by decide +kernel
theorem d_M_countAll_65 : decode b_M_countAll 65 = .ok (.iconst 0, 1) := by decide +kernel
theorem d_M_countAll_66 : decode b_M_countAll 66 = .ok (.istore_n 3, 1) := by decide +kernel
theorem d_M_countAll_67 : decode b_M_countAll 67 = .ok (.iload_n 3, 1) := by decide +kernel
theorem d_M_countAll_68 : decode b_M_countAll 68 = .ok (.bipush 16, 2) := by decide +kernel
theorem d_M_countAll_70 : decode b_M_countAll 70 = .ok (.if_icmp .ge 48, 3) := by decide +kernel
theorem d_M_countAll_73 : decode b_M_countAll 73 = .ok (.aload_n 0, 1) := by decide +kernel
theorem d_M_countAll_74 : decode b_M_countAll 74 = .ok (.getfield 50, 3) := by decide +kernel
theorem d_M_countAll_77 : decode b_M_countAll 77 = .ok (.iload_n 2, 1) := by decide +kernel
theorem d_M_countAll_78 : decode b_M_countAll 78 = .ok (.laload, 1) := by decide +kernel
theorem d_M_countAll_79 : decode b_M_countAll 79 = .ok (.lconst 0, 1) := by decide +kernel
theorem d_M_countAll_80 : decode b_M_countAll 80 = .ok (.lcmp, 1) := by decide +kernel
theorem d_M_countAll_81 : decode b_M_countAll 81 = .ok (.ifCond .le 37, 3) := by decide +kernel
theorem d_M_countAll_84 : decode b_M_countAll 84 = .ok (.aload_n 0, 1) := by decide +kernel
theorem d_M_countAll_85 : decode b_M_countAll 85 = .ok (.iload_n 2, 1) := by decide +kernel
theorem d_M_countAll_86 : decode b_M_countAll 86 = .ok (.iload_n 3, 1) := by decide +kernel
theorem d_M_countAll_87 : decode b_M_countAll 87 = .ok (.invokevirtual 98, 3) := by decide +kernel
theorem d_M_countAll_90 : decode b_M_countAll 90 = .ok (.ifCond .eq 22, 3) := by decide +kernel
theorem d_M_countAll_93 : decode b_M_countAll 93 = .ok (.aload_n 0, 1) := by decide +kernel
theorem d_M_countAll_94 : decode b_M_countAll 94 = .ok (.getfield 50, 3) := by decide +kernel
theorem d_M_countAll_97 : decode b_M_countAll 97 = .ok (.iload_n 2, 1) := by decide +kernel
theorem d_M_countAll_98 : decode b_M_countAll 98 = .ok (.iconst 1, 1) := by decide +kernel
theorem d_M_countAll_99 : decode b_M_countAll 99 = .ok (.iload_n 3, 1) := by decide +kernel
theorem d_M_countAll_100 : decode b_M_countAll 100 = .ok (.ishl, 1) := by decide +kernel
theorem d_M_countAll_101 : decode b_M_countAll 101 = .ok (.ior, 1) := by decide +kernel
theorem d_M_countAll_102 : decode b_M_countAll 102 = .ok (.dup2, 1) := by decide +kernel
theorem d_M_countAll_103 : decode b_M_countAll 103 = .ok (.laload, 1) := by decide +kernel
theorem d_M_countAll_104 : decode b_M_countAll 104 = .ok (.aload_n 0, 1) := by decide +kernel
theorem d_M_countAll_105 : decode b_M_countAll 105 = .ok (.getfield 50, 3) := by decide +kernel
theorem d_M_countAll_108 : decode b_M_countAll 108 = .ok (.iload_n 2, 1) := by decide +kernel
theorem d_M_countAll_109 : decode b_M_countAll 109 = .ok (.laload, 1) := by decide +kernel
theorem d_M_countAll_110 : decode b_M_countAll 110 = .ok (.ladd, 1) := by decide +kernel
theorem d_M_countAll_111 : decode b_M_countAll 111 = .ok (.lastore, 1) := by decide +kernel
theorem d_M_countAll_112 : decode b_M_countAll 112 = .ok (.iinc 3 1, 3) := by decide +kernel
theorem d_M_countAll_115 : decode b_M_countAll 115 = .ok (.goto (-48), 3) := by decide +kernel
theorem d_M_countAll_118 : decode b_M_countAll 118 = .ok (.iinc 2 1, 3) := by decide +kernel
theorem d_M_countAll_121 : decode b_M_countAll 121 = .ok (.goto (-64), 3) := by decide +kernel
theorem d_M_countAll_124 : decode b_M_countAll 124 = .ok (.aload_n 0, 1) := by decide +kernel
theorem d_M_countAll_125 : decode b_M_countAll 125 = .ok (.getfield 54, 3) := by decide +kernel
theorem d_M_countAll_128 : decode b_M_countAll 128 = .ok (.aload_n 0, 1) := by decide +kernel
theorem d_M_countAll_129 : decode b_M_countAll 129 = .ok (.getfield 36, 3) := by decide +kernel
theorem d_M_countAll_132 : decode b_M_countAll 132 = .ok (.lconst 1, 1) := by decide +kernel
theorem d_M_countAll_133 : decode b_M_countAll 133 = .ok (.lastore, 1) := by decide +kernel
theorem d_M_countAll_134 : decode b_M_countAll 134 = .ok (.aload_n 0, 1) := by decide +kernel
theorem d_M_countAll_135 : decode b_M_countAll 135 = .ok (.getfield 36, 3) := by decide +kernel
theorem d_M_countAll_138 : decode b_M_countAll 138 = .ok (.iconst 1, 1) := by decide +kernel
theorem d_M_countAll_139 : decode b_M_countAll 139 = .ok (.isub, 1) := by decide +kernel
theorem d_M_countAll_140 : decode b_M_countAll 140 = .ok (.istore_n 2, 1) := by decide +kernel
theorem d_M_countAll_141 : decode b_M_countAll 141 = .ok (.iload_n 2, 1) := by decide +kernel
theorem d_M_countAll_142 : decode b_M_countAll 142 = .ok (.ifCond .lt 62, 3) := by decide +kernel
theorem d_M_countAll_145 : decode b_M_countAll 145 = .ok (.iconst 0, 1) := by decide +kernel
theorem d_M_countAll_146 : decode b_M_countAll 146 = .ok (.istore_n 3, 1) := by decide +kernel
theorem d_M_countAll_147 : decode b_M_countAll 147 = .ok (.iload_n 3, 1) := by decide +kernel
theorem d_M_countAll_148 : decode b_M_countAll 148 = .ok (.bipush 16, 2) := by decide +kernel
theorem d_M_countAll_150 : decode b_M_countAll 150 = .ok (.if_icmp .ge 48, 3) := by decide +kernel
theorem d_M_countAll_153 : decode b_M_countAll 153 = .ok (.aload_n 0, 1) := by decide +kernel
theorem d_M_countAll_154 : decode b_M_countAll 154 = .ok (.getfield 50, 3) := by decide +kernel
theorem d_M_countAll_157 : decode b_M_countAll 157 = .ok (.iload_n 2, 1) := by decide +kernel
theorem d_M_countAll_158 : decode b_M_countAll 158 = .ok (.laload, 1) := by decide +kernel
theorem d_M_countAll_159 : decode b_M_countAll 159 = .ok (.lconst 0, 1) := by decide +kernel
theorem d_M_countAll_160 : decode b_M_countAll 160 = .ok (.lcmp, 1) := by decide +kernel
theorem d_M_countAll_161 : decode b_M_countAll 161 = .ok (.ifCond .le 37, 3) := by decide +kernel
theorem d_M_countAll_164 : decode b_M_countAll 164 = .ok (.aload_n 0, 1) := by decide +kernel
theorem d_M_countAll_165 : decode b_M_countAll 165 = .ok (.iload_n 2, 1) := by decide +kernel
theorem d_M_countAll_166 : decode b_M_countAll 166 = .ok (.iload_n 3, 1) := by decide +kernel
theorem d_M_countAll_167 : decode b_M_countAll 167 = .ok (.invokevirtual 98, 3) := by decide +kernel
theorem d_M_countAll_170 : decode b_M_countAll 170 = .ok (.ifCond .eq 22, 3) := by decide +kernel
theorem d_M_countAll_173 : decode b_M_countAll 173 = .ok (.aload_n 0, 1) := by decide +kernel
theorem d_M_countAll_174 : decode b_M_countAll 174 = .ok (.getfield 54, 3) := by decide +kernel
theorem d_M_countAll_177 : decode b_M_countAll 177 = .ok (.iload_n 2, 1) := by decide +kernel
theorem d_M_countAll_178 : decode b_M_countAll 178 = .ok (.dup2, 1) := by decide +kernel
theorem d_M_countAll_179 : decode b_M_countAll 179 = .ok (.laload, 1) := by decide +kernel
theorem d_M_countAll_180 : decode b_M_countAll 180 = .ok (.aload_n 0, 1) := by decide +kernel
theorem d_M_countAll_181 : decode b_M_countAll 181 = .ok (.getfield 54, 3) := by decide +kernel
theorem d_M_countAll_184 : decode b_M_countAll 184 = .ok (.iload_n 2, 1) := by decide +kernel
theorem d_M_countAll_185 : decode b_M_countAll 185 = .ok (.iconst 1, 1) := by decide +kernel
theorem d_M_countAll_186 : decode b_M_countAll 186 = .ok (.iload_n 3, 1) := by decide +kernel
theorem d_M_countAll_187 : decode b_M_countAll 187 = .ok (.ishl, 1) := by decide +kernel
theorem d_M_countAll_188 : decode b_M_countAll 188 = .ok (.ior, 1) := by decide +kernel
theorem d_M_countAll_189 : decode b_M_countAll 189 = .ok (.laload, 1) := by decide +kernel
theorem d_M_countAll_190 : decode b_M_countAll 190 = .ok (.ladd, 1) := by decide +kernel
theorem d_M_countAll_191 : decode b_M_countAll 191 = .ok (.lastore, 1) := by decide +kernel
theorem d_M_countAll_192 : decode b_M_countAll 192 = .ok (.iinc 3 1, 3) := by decide +kernel
theorem d_M_countAll_195 : decode b_M_countAll 195 = .ok (.goto (-48), 3) := by decide +kernel
theorem d_M_countAll_198 : decode b_M_countAll 198 = .ok (.iinc 2 (-1), 3) := by decide +kernel
theorem d_M_countAll_201 : decode b_M_countAll 201 = .ok (.goto (-60), 3) := by decide +kernel
theorem d_M_countAll_204 : decode b_M_countAll 204 = .ok (.return_, 1) := by decide +kernel
def fm_M_countAll_B20 (I11 : IS) (x25 : Int32) (J26 : JS) : Option (Nat × Int32 × JS) :=
  if (I11 8 0) < x25 then some (1, x25, J26) else grd (inB x25 65536) (bnd (sJ J26 0 x25.toNatClampNeg (0 : Int64)) (fun J41 => grd (inB x25 65536) (bnd (sJ J41 1 x25.toNatClampNeg (0 : Int64)) (fun J51 => bnd (x25 + (1 : Int32)) (fun x59 => some (0, x59, J51))))))
def fm_M_countAll_B67 (I11 : IS) (x91 : Int32) (x111 : Int32) (J112 : JS) : Option (Nat × Int32 × JS) :=
  if (16 : Int32) ≤ x111 then some (1, x111, J112) else grd (inB x91 65536) (if (lg_cmp (J112 0 x91.toNatClampNeg) (0 : Int64)) ≤ 0 then some (1, x111, J112) else ob1 (fm_M_mayCome x91 x111 I11) (fun x131 => if x131 = 0 then bnd (x111 + (1 : Int32)) (fun x141 => some (0, x141, J112)) else grd (inB (x91 ||| ((1 : Int32) <<< (x111 &&& 31))) 65536) (grd (inB x91 65536) (grd (inB (x91 ||| ((1 : Int32) <<< (x111 &&& 31))) 65536) (bnd (sJ J112 0 (x91 ||| ((1 : Int32) <<< (x111 &&& 31))).toNatClampNeg ((J112 0 (x91 ||| ((1 : Int32) <<< (x111 &&& 31))).toNatClampNeg) + (J112 0 x91.toNatClampNeg))) (fun J152 => bnd (x111 + (1 : Int32)) (fun x160 => some (0, x160, J152))))))))
def fm_M_countAll_B57 (I11 : IS) (x91 : Int32) (J92 : JS) : Option (Nat × Int32 × JS) :=
  if (I11 8 0) < x91 then some (1, x91, J92) else ob3 (iter (fun z : Int32 × JS => fm_M_countAll_B67 I11 x91 z.1 z.2) FU ((0 : Int32), J92)) (fun _ x166 J167 => bnd (x91 + (1 : Int32)) (fun x176 => some (0, x176, J167)))
def fm_M_countAll_B147 (I11 : IS) (x211 : Int32) (x231 : Int32) (J232 : JS) : Option (Nat × Int32 × JS) :=
  if (16 : Int32) ≤ x231 then some (1, x231, J232) else grd (inB x211 65536) (if (lg_cmp (J232 0 x211.toNatClampNeg) (0 : Int64)) ≤ 0 then some (1, x231, J232) else ob1 (fm_M_mayCome x211 x231 I11) (fun x251 => if x251 = 0 then bnd (x231 + (1 : Int32)) (fun x261 => some (0, x261, J232)) else grd (inB x211 65536) (grd (inB (x211 ||| ((1 : Int32) <<< (x231 &&& 31))) 65536) (grd (inB x211 65536) (bnd (sJ J232 1 x211.toNatClampNeg ((J232 1 x211.toNatClampNeg) + (J232 1 (x211 ||| ((1 : Int32) <<< (x231 &&& 31))).toNatClampNeg))) (fun J272 => bnd (x231 + (1 : Int32)) (fun x280 => some (0, x280, J272))))))))
def fm_M_countAll_B141 (I11 : IS) (x211 : Int32) (J212 : JS) : Option (Nat × Int32 × JS) :=
  if x211 < 0 then some (1, x211, J212) else ob3 (iter (fun z : Int32 × JS => fm_M_countAll_B147 I11 x211 z.1 z.2) FU ((0 : Int32), J212)) (fun _ x286 J287 => bnd (x211 + (-1 : Int32)) (fun x296 => some (0, x296, J287)))
def fm_M_countAll (p0 : Int32) (I0 : IS) (J0 : JS) : Option (IS × JS) :=
  ob1 (fm_M_settle p0 I0) (fun I1 => if (I1 11 0) = 0 then bnd (sV I1 11 (1 : Int32)) (fun I11 => ob3 (iter (fun z : Int32 × JS => fm_M_countAll_B20 I11 z.1 z.2) FU ((0 : Int32), J0)) (fun _ x65 J66 => grd (inB (0 : Int32) 65536) (bnd (sJ J66 0 (0 : Int32).toNatClampNeg (1 : Int64)) (fun J77 => ob3 (iter (fun z : Int32 × JS => fm_M_countAll_B57 I11 z.1 z.2) FU ((0 : Int32), J77)) (fun _ x182 J183 => grd (inB (I11 8 0) 65536) (bnd (sJ J183 1 (I11 8 0).toNatClampNeg (1 : Int64)) (fun J194 => bnd ((I11 8 0) - (1 : Int32)) (fun x202 => ob3 (iter (fun z : Int32 × JS => fm_M_countAll_B141 I11 z.1 z.2) FU (x202, J194)) (fun _ x302 J303 => some (I11, J303)))))))))) else some (I1, J0))
set_option maxHeartbeats 4000000 in
set_option maxRecDepth 100000 in
theorem cm_M_countAll (l : Launch) (D : va_G) (ca : Nat → ClassId) (am : Nat → Nat) {p0 : Int32} {I0 : IS} {J0 : JS} {r : IS × JS} (hf : fm_M_countAll p0 I0 J0 = some r) : CtV l y_M_countAll (Cond.code y_M_countAll b_M_countAll 4 none :: TB) { frames := 3, cells := 0, slots := 0, locals := 68 } [.ref (am 0), .int p0] D cls_all (tysC ca) NN (wM ca am I0 J0) (wM ca am r.1 r.2) := by
  refine jd_metV (cc := b_M_countAll) (by decide) rfl (Nat.le_of_ble_eq_true rfl) (lv := [(0, .ref (am 0)), (1, .int p0)]) rfl ?_
  intro p e R s m args below meth c A Q ls cx hR hK hN hD0 hA hP hS hl hend
  have hx := cx.1
  have hb := cx.2.1
  have hml := cx.2.2.1
  have hown := cx.2.2.2.1
  have hts := cx.2.2.2.2
  have hD : ∀ I J, va_D A (wM ca am I J) := fun I J => jd_Dc hD0 rfl
  unfold fm_M_countAll at hf
  refine lv_aload_n hx hb d_M_countAll_0 rfl (lv_at hl 0 rfl) ?_
  refine lv_iload_n hx hb d_M_countAll_1 rfl (lv_at hl 1 rfl) ?_
  obtain ⟨I1, hc2, hf3⟩ := ob1_ex hf
  refine jd_cv (va_runV (As := [.int p0]) (rest := []) cx (cm_M_settle l D ca am hc2 s.heap.size) (cwV 1 hts (jd_gV tb_687 tb_688 tb_27 tb_47 tb_689) rfl rfl rfl ⟨rfl, by decide, by decide, rfl⟩ (by rw [hR]; decide)) ⟨jd_blind nWc, (va_recv hK hP (ci := 6) (q0 := 0) rfl rfl), (jd_pre (av := [.ref (am 0), .int p0]) hP hK (hD I0 J0) (fun U h => nWm h hN))⟩ rfl rfl hl.1 rfl (lv_room (Nat.le_of_ble_eq_true rfl)) d_M_countAll_2 ⟨Nat.zero_le _, Nat.zero_le _⟩) hS (hD I0 J0) hA (fun H4 L5 hP6 hS7 => ?_)
  refine lv_aload_n hx hb d_M_countAll_5 rfl (lv_at hl 0 rfl) ?_
  refine va_get (D := D) (ci := 6) (v := .int (I1 11 0)) (C := R_M) (T := F_M) (N := 24) hx hb hts (fun w h => List.mem_cons_of_mem _ (uw_M w h)) hown hK hP6 0 rfl rfl 11 (by decide) (hts _ (List.mem_cons_of_mem _ tb_611)) (fun _ h => h) rfl d_M_countAll_6 ?_
  refine lv_if_eq (tgt := 13) hx hb d_M_countAll_9 rfl (fun h8 => ?_) (fun h8 => ?_)
  · have hf9 := ifp hf3 h8
    refine lv_aload_n hx hb d_M_countAll_13 rfl (lv_at hl 0 rfl) ?_
    refine lv_iconst (v := 1) hx hb d_M_countAll_14 (by decide) ?_
    obtain ⟨I11, e12, hf13⟩ := bnd_ex hf9
    refine va_put (D := D) (ci := 6) (v := .int (1 : Int32)) (ty := .boolean) (C := R_M) (T := F_M) (N := 24) hx hb hts (fun w h => List.mem_cons_of_mem _ (uw_M w h)) ft_M tk_M n_M hown hK hP6 (hD I1 J0) hS7 0 rfl rfl 11 (by decide) (hts _ (List.mem_cons_of_mem _ tb_611)) (fun _ h => h) rfl (by decide +kernel) rfl rfl (Nat.le_of_ble_eq_true rfl) d_M_countAll_15 (fun H14 L15 hp18 _ hS17 => ?_)
    have hP16 : va_P D cls_all (wM ca am I11 J0) H14 := by rw [e12]; exact hp18
    refine lv_iconst (v := 0) hx hb d_M_countAll_18 (by decide) ?_
    refine lv_istore_n hx hb d_M_countAll_19 rfl hl (by decide) (lv' := [(2, .int (0 : Int32)), (0, .ref (am 0)), (1, .int p0)]) rfl (fun ls19 hl20 => ?_)
    obtain ⟨tg64, x65, J66, ho67, hf68⟩ := ob3_ex hf13
    have kx20_1 : ∀ (H69 : Heap) (L70 : List Loc) (ls71 : Array Slot), va_P D cls_all (wM ca am I11 J66) H69 → va_S A s.heap H69 L70 → lv_has ls71 4 [(0, .ref (am 0))] → W p l e R s m args below meth c H69 L70 0 0 Q (F0 m 48 ls71 []) := by
      intro H69 L70 ls71 hP72 hS73 hl74
      refine lv_aload_n hx hb d_M_countAll_48 rfl (lv_at hl74 0 rfl) ?_
      refine va_get (D := D) (ci := 6) (v := .ref (am 9)) (C := R_M) (T := F_M) (N := 24) hx hb hts (fun w h => List.mem_cons_of_mem _ (uw_M w h)) hown hK hP72 0 rfl rfl 12 (by decide) (hts _ (List.mem_cons_of_mem _ tb_612)) (fun _ h => h) rfl d_M_countAll_49 ?_
      refine lv_iconst (v := 0) hx hb d_M_countAll_52 (by decide) ?_
      refine lv_lconst (v := 1) hx hb d_M_countAll_53 (by decide) ?_
      obtain ⟨hg75, hf76⟩ := grd_ex hf68
      obtain ⟨J77, e78, hf79⟩ := bnd_ex hf76
      refine va_last hx hb hK hP72 (hD I11 J66) hS73 9 3 rfl rfl (inB_in hg75) d_M_countAll_54 (fun H80 L81 hp84 _ hS83 => ?_)
      have hP82 : va_P D cls_all (wM ca am I11 J77) H80 := by rw [e78]; exact hp84
      refine lv_iconst (v := 0) hx hb d_M_countAll_55 (by decide) ?_
      refine lv_istore_n hx hb d_M_countAll_56 rfl hl74 (by decide) (lv' := [(2, .int (0 : Int32)), (0, .ref (am 0))]) rfl (fun ls85 hl86 => ?_)
      obtain ⟨tg181, x182, J183, ho184, hf185⟩ := ob3_ex hf79
      have kx57_1 : ∀ (H186 : Heap) (L187 : List Loc) (ls188 : Array Slot), va_P D cls_all (wM ca am I11 J183) H186 → va_S A s.heap H186 L187 → lv_has ls188 4 [(0, .ref (am 0))] → W p l e R s m args below meth c H186 L187 0 0 Q (F0 m 124 ls188 []) := by
        intro H186 L187 ls188 hP189 hS190 hl191
        refine lv_aload_n hx hb d_M_countAll_124 rfl (lv_at hl191 0 rfl) ?_
        refine va_get (D := D) (ci := 6) (v := .ref (am 10)) (C := R_M) (T := F_M) (N := 24) hx hb hts (fun w h => List.mem_cons_of_mem _ (uw_M w h)) hown hK hP189 0 rfl rfl 13 (by decide) (hts _ (List.mem_cons_of_mem _ tb_613)) (fun _ h => h) rfl d_M_countAll_125 ?_
        refine lv_aload_n hx hb d_M_countAll_128 rfl (lv_at hl191 0 rfl) ?_
        refine va_get (D := D) (ci := 6) (v := .int (I11 8 0)) (C := R_M) (T := F_M) (N := 24) hx hb hts (fun w h => List.mem_cons_of_mem _ (uw_M w h)) hown hK hP189 0 rfl rfl 8 (by decide) (hts _ (List.mem_cons_of_mem _ tb_608)) (fun _ h => h) rfl d_M_countAll_129 ?_
        refine lv_lconst (v := 1) hx hb d_M_countAll_132 (by decide) ?_
        obtain ⟨hg192, hf193⟩ := grd_ex hf185
        obtain ⟨J194, e195, hf196⟩ := bnd_ex hf193
        refine va_last hx hb hK hP189 (hD I11 J183) hS190 10 3 rfl rfl (inB_in hg192) d_M_countAll_133 (fun H197 L198 hp201 _ hS200 => ?_)
        have hP199 : va_P D cls_all (wM ca am I11 J194) H197 := by rw [e195]; exact hp201
        refine lv_aload_n hx hb d_M_countAll_134 rfl (lv_at hl191 0 rfl) ?_
        refine va_get (D := D) (ci := 6) (v := .int (I11 8 0)) (C := R_M) (T := F_M) (N := 24) hx hb hts (fun w h => List.mem_cons_of_mem _ (uw_M w h)) hown hK hP199 0 rfl rfl 8 (by decide) (hts _ (List.mem_cons_of_mem _ tb_608)) (fun _ h => h) rfl d_M_countAll_135 ?_
        refine lv_iconst (v := 1) hx hb d_M_countAll_138 (by decide) ?_
        refine lv_isub hx hb d_M_countAll_139 ?_
        obtain ⟨x202, e203, hf204⟩ := bnd_ex hf196
        refine jd_tni e203 ?_
        refine lv_istore_n hx hb d_M_countAll_140 rfl hl191 (by decide) (lv' := [(2, .int x202), (0, .ref (am 0))]) rfl (fun ls205 hl206 => ?_)
        obtain ⟨tg301, x302, J303, ho304, hf305⟩ := ob3_ex hf204
        have kx141_1 : ∀ (H306 : Heap) (L307 : List Loc) (ls308 : Array Slot), va_P D cls_all (wM ca am I11 J303) H306 → va_S A s.heap H306 L307 → lv_has ls308 4 [] → W p l e R s m args below meth c H306 L307 0 0 Q (F0 m 204 ls308 []) := by
          intro H306 L307 ls308 hP309 hS310 hl311
          cases hf305
          exact hend H306 L307 204 ls308 hP309 hS310 d_M_countAll_204
        refine iter_ind (C := fun z : Int32 × JS => ∀ (H213 : Heap) (L214 : List Loc) (ls215 : Array Slot), va_P D cls_all (wM ca am I11 z.2) H213 → va_S A s.heap H213 L214 → lv_has ls215 4 [(0, .ref (am 0)), (2, .int z.1)] → W p l e R s m args below meth c H213 L214 0 0 Q (F0 m 141 ls215 [])) (fun z210 o209 hz220 hc207 he208 => ?_) _ _ ho304 H197 L198 ls205 hP199 hS200 (lv_sub hl206 [1, 0] rfl)
        obtain ⟨x211, J212⟩ := z210
        intro H213 L214 ls215 hP216 hS217 hl218
        have hf219 : fm_M_countAll_B141 I11 x211 J212 = some o209 := hz220
        unfold fm_M_countAll_B141 at hf219
        refine lv_iload_n hx hb d_M_countAll_141 rfl (lv_at hl218 1 rfl) ?_
        refine lv_if_lt (tgt := 204) hx hb d_M_countAll_142 rfl (fun h221 => ?_) (fun h221 => ?_)
        · have hf222 := ifp hf219 h221
          cases hf222
          have e224 := he208 (by show (1 : Nat) ≠ 0; decide)
          cases e224
          exact kx141_1 H213 L214 ls215 hP216 hS217 (lv_sub hl218 [] rfl)
        · have hf223 := ifn hf219 h221
          refine lv_iconst (v := 0) hx hb d_M_countAll_145 (by decide) ?_
          refine lv_istore_n hx hb d_M_countAll_146 rfl hl218 (by decide) (lv' := [(3, .int (0 : Int32)), (0, .ref (am 0)), (2, .int x211)]) rfl (fun ls225 hl226 => ?_)
          obtain ⟨tg285, x286, J287, ho288, hf289⟩ := ob3_ex hf223
          have kx147_1 : ∀ (H290 : Heap) (L291 : List Loc) (ls292 : Array Slot), va_P D cls_all (wM ca am I11 J287) H290 → va_S A s.heap H290 L291 → lv_has ls292 4 [(0, .ref (am 0)), (2, .int x211)] → W p l e R s m args below meth c H290 L291 0 0 Q (F0 m 198 ls292 []) := by
            intro H290 L291 ls292 hP293 hS294 hl295
            obtain ⟨x296, e297, hf298⟩ := bnd_ex hf289
            refine lv_iinc hx hb d_M_countAll_198 hl295 (k := 1) rfl (v := x296) (by rw [e297]; rfl) (by decide) (lv' := [(2, .int x296), (0, .ref (am 0))]) rfl (fun ls299 hl300 => ?_)
            refine lv_goto (tgt := 141) hx hb d_M_countAll_201 rfl ?_
            cases hf298
            exact hc207 rfl H290 L291 ls299 hP293 hS294 (lv_sub hl300 [1, 0] rfl)
          refine iter_ind (C := fun z : Int32 × JS => ∀ (H233 : Heap) (L234 : List Loc) (ls235 : Array Slot), va_P D cls_all (wM ca am I11 z.2) H233 → va_S A s.heap H233 L234 → lv_has ls235 4 [(0, .ref (am 0)), (2, .int x211), (3, .int z.1)] → W p l e R s m args below meth c H233 L234 0 0 Q (F0 m 147 ls235 [])) (fun z230 o229 hz240 hc227 he228 => ?_) _ _ ho288 H213 L214 ls225 hP216 hS217 (lv_sub hl226 [1, 2, 0] rfl)
          obtain ⟨x231, J232⟩ := z230
          intro H233 L234 ls235 hP236 hS237 hl238
          have hf239 : fm_M_countAll_B147 I11 x211 x231 J232 = some o229 := hz240
          unfold fm_M_countAll_B147 at hf239
          refine lv_iload_n hx hb d_M_countAll_147 rfl (lv_at hl238 2 rfl) ?_
          refine lv_bipush (v := 16) hx hb d_M_countAll_148 (by decide) ?_
          refine lv_icmp_ge (tgt := 198) hx hb d_M_countAll_150 rfl (fun h241 => ?_) (fun h241 => ?_)
          · have hf242 := ifp hf239 h241
            cases hf242
            have e244 := he228 (by show (1 : Nat) ≠ 0; decide)
            cases e244
            exact kx147_1 H233 L234 ls235 hP236 hS237 (lv_sub hl238 [0, 1] rfl)
          · have hf243 := ifn hf239 h241
            refine lv_aload_n hx hb d_M_countAll_153 rfl (lv_at hl238 0 rfl) ?_
            refine va_get (D := D) (ci := 6) (v := .ref (am 9)) (C := R_M) (T := F_M) (N := 24) hx hb hts (fun w h => List.mem_cons_of_mem _ (uw_M w h)) hown hK hP236 0 rfl rfl 12 (by decide) (hts _ (List.mem_cons_of_mem _ tb_612)) (fun _ h => h) rfl d_M_countAll_154 ?_
            refine lv_iload_n hx hb d_M_countAll_157 rfl (lv_at hl238 1 rfl) ?_
            obtain ⟨hg245, hf246⟩ := grd_ex hf243
            refine va_lald hx hb hK hP236 9 3 rfl rfl (inB_in hg245) d_M_countAll_158 ?_
            refine lv_lconst (v := 0) hx hb d_M_countAll_159 (by decide) ?_
            refine W.lcmp hx hb d_M_countAll_160 ?_
            refine lv_if_le (tgt := 198) hx hb d_M_countAll_161 rfl (fun h247 => ?_) (fun h247 => ?_)
            · have hf248 := ifp hf246 h247
              cases hf248
              have e250 := he228 (by show (1 : Nat) ≠ 0; decide)
              cases e250
              exact kx147_1 H233 L234 ls235 hP236 hS237 (lv_sub hl238 [0, 1] rfl)
            · have hf249 := ifn hf246 h247
              refine lv_aload_n hx hb d_M_countAll_164 rfl (lv_at hl238 0 rfl) ?_
              refine lv_iload_n hx hb d_M_countAll_165 rfl (lv_at hl238 1 rfl) ?_
              refine lv_iload_n hx hb d_M_countAll_166 rfl (lv_at hl238 2 rfl) ?_
              obtain ⟨x251, hc252, hf253⟩ := ob1_ex hf249
              refine jd_ci (va_runV (As := [.int x211, .int x231]) (rest := []) cx (cm_M_mayCome l D ca am hc252 H233.size) (cwV 2 hts (jd_gV tb_734 tb_735 tb_32 tb_47 tb_736) rfl rfl rfl ⟨rfl, by decide, by decide, rfl⟩ (by rw [hR]; decide)) ⟨jd_blind nWc, (va_recv hK hP236 (ci := 6) (q0 := 0) rfl rfl), (jd_pre (av := [.ref (am 0), .int x211, .int x231]) hP236 hK (hD I11 J232) (fun U h => nWm h hN))⟩ rfl rfl hl238.1 rfl (lv_room (Nat.le_of_ble_eq_true rfl)) d_M_countAll_167 ⟨Nat.zero_le _, Nat.zero_le _⟩) hS237 (hD I11 J232) hA (fun H254 L255 hP256 hS257 => ?_)
              refine lv_if_eq (tgt := 192) hx hb d_M_countAll_170 rfl (fun h258 => ?_) (fun h258 => ?_)
              · have hf259 := ifp hf253 h258
                obtain ⟨x261, e262, hf263⟩ := bnd_ex hf259
                refine lv_iinc hx hb d_M_countAll_192 hl238 (k := 2) rfl (v := x261) (by rw [e262]; rfl) (by decide) (lv' := [(3, .int x261), (0, .ref (am 0)), (2, .int x211)]) rfl (fun ls264 hl265 => ?_)
                refine lv_goto (tgt := 147) hx hb d_M_countAll_195 rfl ?_
                cases hf263
                exact hc227 rfl H254 L255 ls264 hP256 hS257 (lv_sub hl265 [1, 2, 0] rfl)
              · have hf260 := ifn hf253 h258
                refine lv_aload_n hx hb d_M_countAll_173 rfl (lv_at hl238 0 rfl) ?_
                refine va_get (D := D) (ci := 6) (v := .ref (am 10)) (C := R_M) (T := F_M) (N := 24) hx hb hts (fun w h => List.mem_cons_of_mem _ (uw_M w h)) hown hK hP256 0 rfl rfl 13 (by decide) (hts _ (List.mem_cons_of_mem _ tb_613)) (fun _ h => h) rfl d_M_countAll_174 ?_
                refine lv_iload_n hx hb d_M_countAll_177 rfl (lv_at hl238 1 rfl) ?_
                refine lv_dup2_11 hx hb d_M_countAll_178 rfl rfl ?_
                obtain ⟨hg266, hf267⟩ := grd_ex hf260
                refine va_lald hx hb hK hP256 10 3 rfl rfl (inB_in hg266) d_M_countAll_179 ?_
                refine lv_aload_n hx hb d_M_countAll_180 rfl (lv_at hl238 0 rfl) ?_
                refine va_get (D := D) (ci := 6) (v := .ref (am 10)) (C := R_M) (T := F_M) (N := 24) hx hb hts (fun w h => List.mem_cons_of_mem _ (uw_M w h)) hown hK hP256 0 rfl rfl 13 (by decide) (hts _ (List.mem_cons_of_mem _ tb_613)) (fun _ h => h) rfl d_M_countAll_181 ?_
                refine lv_iload_n hx hb d_M_countAll_184 rfl (lv_at hl238 1 rfl) ?_
                refine lv_iconst (v := 1) hx hb d_M_countAll_185 (by decide) ?_
                refine lv_iload_n hx hb d_M_countAll_186 rfl (lv_at hl238 2 rfl) ?_
                refine lv_ishl hx hb d_M_countAll_187 ?_
                refine lv_ior hx hb d_M_countAll_188 ?_
                obtain ⟨hg268, hf269⟩ := grd_ex hf267
                refine va_lald hx hb hK hP256 10 3 rfl rfl (inB_in hg268) d_M_countAll_189 ?_
                refine lv_ladd hx hb d_M_countAll_190 ?_
                obtain ⟨hg270, hf271⟩ := grd_ex hf269
                obtain ⟨J272, e273, hf274⟩ := bnd_ex hf271
                refine va_last hx hb hK hP256 (hD I11 J232) hS257 10 3 rfl rfl (inB_in hg270) d_M_countAll_191 (fun H275 L276 hp279 _ hS278 => ?_)
                have hP277 : va_P D cls_all (wM ca am I11 J272) H275 := by rw [e273]; exact hp279
                obtain ⟨x280, e281, hf282⟩ := bnd_ex hf274
                refine lv_iinc hx hb d_M_countAll_192 hl238 (k := 2) rfl (v := x280) (by rw [e281]; rfl) (by decide) (lv' := [(3, .int x280), (0, .ref (am 0)), (2, .int x211)]) rfl (fun ls283 hl284 => ?_)
                refine lv_goto (tgt := 147) hx hb d_M_countAll_195 rfl ?_
                cases hf282
                exact hc227 rfl H275 L276 ls283 hP277 hS278 (lv_sub hl284 [1, 2, 0] rfl)
      refine iter_ind (C := fun z : Int32 × JS => ∀ (H93 : Heap) (L94 : List Loc) (ls95 : Array Slot), va_P D cls_all (wM ca am I11 z.2) H93 → va_S A s.heap H93 L94 → lv_has ls95 4 [(0, .ref (am 0)), (2, .int z.1)] → W p l e R s m args below meth c H93 L94 0 0 Q (F0 m 57 ls95 [])) (fun z90 o89 hz100 hc87 he88 => ?_) _ _ ho184 H80 L81 ls85 hP82 hS83 (lv_sub hl86 [1, 0] rfl)
      obtain ⟨x91, J92⟩ := z90
      intro H93 L94 ls95 hP96 hS97 hl98
      have hf99 : fm_M_countAll_B57 I11 x91 J92 = some o89 := hz100
      unfold fm_M_countAll_B57 at hf99
      refine lv_iload_n hx hb d_M_countAll_57 rfl (lv_at hl98 1 rfl) ?_
      refine lv_aload_n hx hb d_M_countAll_58 rfl (lv_at hl98 0 rfl) ?_
      refine va_get (D := D) (ci := 6) (v := .int (I11 8 0)) (C := R_M) (T := F_M) (N := 24) hx hb hts (fun w h => List.mem_cons_of_mem _ (uw_M w h)) hown hK hP96 0 rfl rfl 8 (by decide) (hts _ (List.mem_cons_of_mem _ tb_608)) (fun _ h => h) rfl d_M_countAll_59 ?_
      refine lv_icmp_gt (tgt := 124) hx hb d_M_countAll_62 rfl (fun h101 => ?_) (fun h101 => ?_)
      · have hf102 := ifp hf99 h101
        cases hf102
        have e104 := he88 (by show (1 : Nat) ≠ 0; decide)
        cases e104
        exact kx57_1 H93 L94 ls95 hP96 hS97 (lv_sub hl98 [0] rfl)
      · have hf103 := ifn hf99 h101
        refine lv_iconst (v := 0) hx hb d_M_countAll_65 (by decide) ?_
        refine lv_istore_n hx hb d_M_countAll_66 rfl hl98 (by decide) (lv' := [(3, .int (0 : Int32)), (0, .ref (am 0)), (2, .int x91)]) rfl (fun ls105 hl106 => ?_)
        obtain ⟨tg165, x166, J167, ho168, hf169⟩ := ob3_ex hf103
        have kx67_1 : ∀ (H170 : Heap) (L171 : List Loc) (ls172 : Array Slot), va_P D cls_all (wM ca am I11 J167) H170 → va_S A s.heap H170 L171 → lv_has ls172 4 [(0, .ref (am 0)), (2, .int x91)] → W p l e R s m args below meth c H170 L171 0 0 Q (F0 m 118 ls172 []) := by
          intro H170 L171 ls172 hP173 hS174 hl175
          obtain ⟨x176, e177, hf178⟩ := bnd_ex hf169
          refine lv_iinc hx hb d_M_countAll_118 hl175 (k := 1) rfl (v := x176) (by rw [e177]; rfl) (by decide) (lv' := [(2, .int x176), (0, .ref (am 0))]) rfl (fun ls179 hl180 => ?_)
          refine lv_goto (tgt := 57) hx hb d_M_countAll_121 rfl ?_
          cases hf178
          exact hc87 rfl H170 L171 ls179 hP173 hS174 (lv_sub hl180 [1, 0] rfl)
        refine iter_ind (C := fun z : Int32 × JS => ∀ (H113 : Heap) (L114 : List Loc) (ls115 : Array Slot), va_P D cls_all (wM ca am I11 z.2) H113 → va_S A s.heap H113 L114 → lv_has ls115 4 [(0, .ref (am 0)), (2, .int x91), (3, .int z.1)] → W p l e R s m args below meth c H113 L114 0 0 Q (F0 m 67 ls115 [])) (fun z110 o109 hz120 hc107 he108 => ?_) _ _ ho168 H93 L94 ls105 hP96 hS97 (lv_sub hl106 [1, 2, 0] rfl)
        obtain ⟨x111, J112⟩ := z110
        intro H113 L114 ls115 hP116 hS117 hl118
        have hf119 : fm_M_countAll_B67 I11 x91 x111 J112 = some o109 := hz120
        unfold fm_M_countAll_B67 at hf119
        refine lv_iload_n hx hb d_M_countAll_67 rfl (lv_at hl118 2 rfl) ?_
        refine lv_bipush (v := 16) hx hb d_M_countAll_68 (by decide) ?_
        refine lv_icmp_ge (tgt := 118) hx hb d_M_countAll_70 rfl (fun h121 => ?_) (fun h121 => ?_)
        · have hf122 := ifp hf119 h121
          cases hf122
          have e124 := he108 (by show (1 : Nat) ≠ 0; decide)
          cases e124
          exact kx67_1 H113 L114 ls115 hP116 hS117 (lv_sub hl118 [0, 1] rfl)
        · have hf123 := ifn hf119 h121
          refine lv_aload_n hx hb d_M_countAll_73 rfl (lv_at hl118 0 rfl) ?_
          refine va_get (D := D) (ci := 6) (v := .ref (am 9)) (C := R_M) (T := F_M) (N := 24) hx hb hts (fun w h => List.mem_cons_of_mem _ (uw_M w h)) hown hK hP116 0 rfl rfl 12 (by decide) (hts _ (List.mem_cons_of_mem _ tb_612)) (fun _ h => h) rfl d_M_countAll_74 ?_
          refine lv_iload_n hx hb d_M_countAll_77 rfl (lv_at hl118 1 rfl) ?_
          obtain ⟨hg125, hf126⟩ := grd_ex hf123
          refine va_lald hx hb hK hP116 9 3 rfl rfl (inB_in hg125) d_M_countAll_78 ?_
          refine lv_lconst (v := 0) hx hb d_M_countAll_79 (by decide) ?_
          refine W.lcmp hx hb d_M_countAll_80 ?_
          refine lv_if_le (tgt := 118) hx hb d_M_countAll_81 rfl (fun h127 => ?_) (fun h127 => ?_)
          · have hf128 := ifp hf126 h127
            cases hf128
            have e130 := he108 (by show (1 : Nat) ≠ 0; decide)
            cases e130
            exact kx67_1 H113 L114 ls115 hP116 hS117 (lv_sub hl118 [0, 1] rfl)
          · have hf129 := ifn hf126 h127
            refine lv_aload_n hx hb d_M_countAll_84 rfl (lv_at hl118 0 rfl) ?_
            refine lv_iload_n hx hb d_M_countAll_85 rfl (lv_at hl118 1 rfl) ?_
            refine lv_iload_n hx hb d_M_countAll_86 rfl (lv_at hl118 2 rfl) ?_
            obtain ⟨x131, hc132, hf133⟩ := ob1_ex hf129
            refine jd_ci (va_runV (As := [.int x91, .int x111]) (rest := []) cx (cm_M_mayCome l D ca am hc132 H113.size) (cwV 2 hts (jd_gV tb_734 tb_735 tb_32 tb_47 tb_736) rfl rfl rfl ⟨rfl, by decide, by decide, rfl⟩ (by rw [hR]; decide)) ⟨jd_blind nWc, (va_recv hK hP116 (ci := 6) (q0 := 0) rfl rfl), (jd_pre (av := [.ref (am 0), .int x91, .int x111]) hP116 hK (hD I11 J112) (fun U h => nWm h hN))⟩ rfl rfl hl118.1 rfl (lv_room (Nat.le_of_ble_eq_true rfl)) d_M_countAll_87 ⟨Nat.zero_le _, Nat.zero_le _⟩) hS117 (hD I11 J112) hA (fun H134 L135 hP136 hS137 => ?_)
            refine lv_if_eq (tgt := 112) hx hb d_M_countAll_90 rfl (fun h138 => ?_) (fun h138 => ?_)
            · have hf139 := ifp hf133 h138
              obtain ⟨x141, e142, hf143⟩ := bnd_ex hf139
              refine lv_iinc hx hb d_M_countAll_112 hl118 (k := 2) rfl (v := x141) (by rw [e142]; rfl) (by decide) (lv' := [(3, .int x141), (0, .ref (am 0)), (2, .int x91)]) rfl (fun ls144 hl145 => ?_)
              refine lv_goto (tgt := 67) hx hb d_M_countAll_115 rfl ?_
              cases hf143
              exact hc107 rfl H134 L135 ls144 hP136 hS137 (lv_sub hl145 [1, 2, 0] rfl)
            · have hf140 := ifn hf133 h138
              refine lv_aload_n hx hb d_M_countAll_93 rfl (lv_at hl118 0 rfl) ?_
              refine va_get (D := D) (ci := 6) (v := .ref (am 9)) (C := R_M) (T := F_M) (N := 24) hx hb hts (fun w h => List.mem_cons_of_mem _ (uw_M w h)) hown hK hP136 0 rfl rfl 12 (by decide) (hts _ (List.mem_cons_of_mem _ tb_612)) (fun _ h => h) rfl d_M_countAll_94 ?_
              refine lv_iload_n hx hb d_M_countAll_97 rfl (lv_at hl118 1 rfl) ?_
              refine lv_iconst (v := 1) hx hb d_M_countAll_98 (by decide) ?_
              refine lv_iload_n hx hb d_M_countAll_99 rfl (lv_at hl118 2 rfl) ?_
              refine lv_ishl hx hb d_M_countAll_100 ?_
              refine lv_ior hx hb d_M_countAll_101 ?_
              refine lv_dup2_11 hx hb d_M_countAll_102 rfl rfl ?_
              obtain ⟨hg146, hf147⟩ := grd_ex hf140
              refine va_lald hx hb hK hP136 9 3 rfl rfl (inB_in hg146) d_M_countAll_103 ?_
              refine lv_aload_n hx hb d_M_countAll_104 rfl (lv_at hl118 0 rfl) ?_
              refine va_get (D := D) (ci := 6) (v := .ref (am 9)) (C := R_M) (T := F_M) (N := 24) hx hb hts (fun w h => List.mem_cons_of_mem _ (uw_M w h)) hown hK hP136 0 rfl rfl 12 (by decide) (hts _ (List.mem_cons_of_mem _ tb_612)) (fun _ h => h) rfl d_M_countAll_105 ?_
              refine lv_iload_n hx hb d_M_countAll_108 rfl (lv_at hl118 1 rfl) ?_
              obtain ⟨hg148, hf149⟩ := grd_ex hf147
              refine va_lald hx hb hK hP136 9 3 rfl rfl (inB_in hg148) d_M_countAll_109 ?_
              refine lv_ladd hx hb d_M_countAll_110 ?_
              obtain ⟨hg150, hf151⟩ := grd_ex hf149
              obtain ⟨J152, e153, hf154⟩ := bnd_ex hf151
              refine va_last hx hb hK hP136 (hD I11 J112) hS137 9 3 rfl rfl (inB_in hg150) d_M_countAll_111 (fun H155 L156 hp159 _ hS158 => ?_)
              have hP157 : va_P D cls_all (wM ca am I11 J152) H155 := by rw [e153]; exact hp159
              obtain ⟨x160, e161, hf162⟩ := bnd_ex hf154
              refine lv_iinc hx hb d_M_countAll_112 hl118 (k := 2) rfl (v := x160) (by rw [e161]; rfl) (by decide) (lv' := [(3, .int x160), (0, .ref (am 0)), (2, .int x91)]) rfl (fun ls163 hl164 => ?_)
              refine lv_goto (tgt := 67) hx hb d_M_countAll_115 rfl ?_
              cases hf162
              exact hc107 rfl H155 L156 ls163 hP157 hS158 (lv_sub hl164 [1, 2, 0] rfl)
    refine iter_ind (C := fun z : Int32 × JS => ∀ (H27 : Heap) (L28 : List Loc) (ls29 : Array Slot), va_P D cls_all (wM ca am I11 z.2) H27 → va_S A s.heap H27 L28 → lv_has ls29 4 [(0, .ref (am 0)), (2, .int z.1)] → W p l e R s m args below meth c H27 L28 0 0 Q (F0 m 20 ls29 [])) (fun z24 o23 hz34 hc21 he22 => ?_) _ _ ho67 H14 L15 ls19 hP16 hS17 (lv_sub hl20 [1, 0] rfl)
    obtain ⟨x25, J26⟩ := z24
    intro H27 L28 ls29 hP30 hS31 hl32
    have hf33 : fm_M_countAll_B20 I11 x25 J26 = some o23 := hz34
    unfold fm_M_countAll_B20 at hf33
    refine lv_iload_n hx hb d_M_countAll_20 rfl (lv_at hl32 1 rfl) ?_
    refine lv_aload_n hx hb d_M_countAll_21 rfl (lv_at hl32 0 rfl) ?_
    refine va_get (D := D) (ci := 6) (v := .int (I11 8 0)) (C := R_M) (T := F_M) (N := 24) hx hb hts (fun w h => List.mem_cons_of_mem _ (uw_M w h)) hown hK hP30 0 rfl rfl 8 (by decide) (hts _ (List.mem_cons_of_mem _ tb_608)) (fun _ h => h) rfl d_M_countAll_22 ?_
    refine lv_icmp_gt (tgt := 48) hx hb d_M_countAll_25 rfl (fun h35 => ?_) (fun h35 => ?_)
    · have hf36 := ifp hf33 h35
      cases hf36
      have e38 := he22 (by show (1 : Nat) ≠ 0; decide)
      cases e38
      exact kx20_1 H27 L28 ls29 hP30 hS31 (lv_sub hl32 [0] rfl)
    · have hf37 := ifn hf33 h35
      refine lv_aload_n hx hb d_M_countAll_28 rfl (lv_at hl32 0 rfl) ?_
      refine va_get (D := D) (ci := 6) (v := .ref (am 9)) (C := R_M) (T := F_M) (N := 24) hx hb hts (fun w h => List.mem_cons_of_mem _ (uw_M w h)) hown hK hP30 0 rfl rfl 12 (by decide) (hts _ (List.mem_cons_of_mem _ tb_612)) (fun _ h => h) rfl d_M_countAll_29 ?_
      refine lv_iload_n hx hb d_M_countAll_32 rfl (lv_at hl32 1 rfl) ?_
      refine lv_lconst (v := 0) hx hb d_M_countAll_33 (by decide) ?_
      obtain ⟨hg39, hf40⟩ := grd_ex hf37
      obtain ⟨J41, e42, hf43⟩ := bnd_ex hf40
      refine va_last hx hb hK hP30 (hD I11 J26) hS31 9 3 rfl rfl (inB_in hg39) d_M_countAll_34 (fun H44 L45 hp48 _ hS47 => ?_)
      have hP46 : va_P D cls_all (wM ca am I11 J41) H44 := by rw [e42]; exact hp48
      refine lv_aload_n hx hb d_M_countAll_35 rfl (lv_at hl32 0 rfl) ?_
      refine va_get (D := D) (ci := 6) (v := .ref (am 10)) (C := R_M) (T := F_M) (N := 24) hx hb hts (fun w h => List.mem_cons_of_mem _ (uw_M w h)) hown hK hP46 0 rfl rfl 13 (by decide) (hts _ (List.mem_cons_of_mem _ tb_613)) (fun _ h => h) rfl d_M_countAll_36 ?_
      refine lv_iload_n hx hb d_M_countAll_39 rfl (lv_at hl32 1 rfl) ?_
      refine lv_lconst (v := 0) hx hb d_M_countAll_40 (by decide) ?_
      obtain ⟨hg49, hf50⟩ := grd_ex hf43
      obtain ⟨J51, e52, hf53⟩ := bnd_ex hf50
      refine va_last hx hb hK hP46 (hD I11 J41) hS47 10 3 rfl rfl (inB_in hg49) d_M_countAll_41 (fun H54 L55 hp58 _ hS57 => ?_)
      have hP56 : va_P D cls_all (wM ca am I11 J51) H54 := by rw [e52]; exact hp58
      obtain ⟨x59, e60, hf61⟩ := bnd_ex hf53
      refine lv_iinc hx hb d_M_countAll_42 hl32 (k := 1) rfl (v := x59) (by rw [e60]; rfl) (by decide) (lv' := [(2, .int x59), (0, .ref (am 0))]) rfl (fun ls62 hl63 => ?_)
      refine lv_goto (tgt := 20) hx hb d_M_countAll_45 rfl ?_
      cases hf61
      exact hc21 rfl H54 L55 ls62 hP56 hS57 (lv_sub hl63 [1, 0] rfl)
  · have hf10 := ifn hf3 h8
    cases hf10
    exact hend H4 L5 12 ls hP6 hS7 d_M_countAll_12
theorem d_M_pairs_0 : decode b_M_pairs 0 = .ok (.aload_n 0, 1) := by decide +kernel
theorem d_M_pairs_1 : decode b_M_pairs 1 = .ok (.iload_n 1, 1) := by decide +kernel
theorem d_M_pairs_2 : decode b_M_pairs 2 = .ok (.invokevirtual 124, 3) := by decide +kernel
theorem d_M_pairs_5 : decode b_M_pairs 5 = .ok (.iconst 0, 1) := by decide +kernel
theorem d_M_pairs_6 : decode b_M_pairs 6 = .ok (.istore_n 2, 1) := by decide +kernel
theorem d_M_pairs_7 : decode b_M_pairs 7 = .ok (.iload_n 2, 1) := by decide +kernel
theorem d_M_pairs_8 : decode b_M_pairs 8 = .ok (.sipush 256, 3) := by decide +kernel
theorem d_M_pairs_11 : decode b_M_pairs 11 = .ok (.if_icmp .ge 16, 3) := by decide +kernel
theorem d_M_pairs_14 : decode b_M_pairs 14 = .ok (.aload_n 0, 1) := by decide +kernel
theorem d_M_pairs_15 : decode b_M_pairs 15 = .ok (.getfield 81, 3) := by decide +kernel
theorem d_M_pairs_18 : decode b_M_pairs 18 = .ok (.iload_n 2, 1) := by decide +kernel
theorem d_M_pairs_19 : decode b_M_pairs 19 = .ok (.lconst 0, 1) := by decide +kernel
theorem d_M_pairs_20 : decode b_M_pairs 20 = .ok (.lastore, 1) := by decide +kernel
theorem d_M_pairs_21 : decode b_M_pairs 21 = .ok (.iinc 2 1, 3) := by decide +kernel
theorem d_M_pairs_24 : decode b_M_pairs 24 = .ok (.goto (-17), 3) := by decide +kernel
theorem d_M_pairs_27 : decode b_M_pairs 27 = .ok (.iconst 0, 1) := by decide +kernel
theorem d_M_pairs_28 : decode b_M_pairs 28 = .ok (.istore_n 2, 1) := by decide +kernel
theorem d_M_pairs_29 : decode b_M_pairs 29 = .ok (.iload_n 2, 1) := by decide +kernel
theorem d_M_pairs_30 : decode b_M_pairs 30 = .ok (.aload_n 0, 1) := by decide +kernel
theorem d_M_pairs_31 : decode b_M_pairs 31 = .ok (.getfield 36, 3) := by decide +kernel
theorem d_M_pairs_34 : decode b_M_pairs 34 = .ok (.if_icmp .gt 122, 3) := by decide +kernel
theorem d_M_pairs_37 : decode b_M_pairs 37 = .ok (.aload_n 0, 1) := by decide +kernel
theorem d_M_pairs_38 : decode b_M_pairs 38 = .ok (.getfield 50, 3) := by decide +kernel
theorem d_M_pairs_41 : decode b_M_pairs 41 = .ok (.iload_n 2, 1) := by decide +kernel
theorem d_M_pairs_42 : decode b_M_pairs 42 = .ok (.laload, 1) := by decide +kernel
theorem d_M_pairs_43 : decode b_M_pairs 43 = .ok (.lconst 0, 1) := by decide +kernel
theorem d_M_pairs_44 : decode b_M_pairs 44 = .ok (.lcmp, 1) := by decide +kernel
theorem d_M_pairs_45 : decode b_M_pairs 45 = .ok (.ifCond .le 105, 3) := by decide +kernel
theorem d_M_pairs_48 : decode b_M_pairs 48 = .ok (.iconst 0, 1) := by decide +kernel
theorem d_M_pairs_49 : decode b_M_pairs 49 = .ok (.istore_n 3, 1) := by decide +kernel
theorem d_M_pairs_50 : decode b_M_pairs 50 = .ok (.iload_n 3, 1) := by decide +kernel
theorem d_M_pairs_51 : decode b_M_pairs 51 = .ok (.bipush 16, 2) := by decide +kernel
theorem d_M_pairs_53 : decode b_M_pairs 53 = .ok (.if_icmp .ge 97, 3) := by decide +kernel
theorem d_M_pairs_56 : decode b_M_pairs 56 = .ok (.aload_n 0, 1) := by decide +kernel
theorem d_M_pairs_57 : decode b_M_pairs 57 = .ok (.iload_n 2, 1) := by decide +kernel
theorem d_M_pairs_58 : decode b_M_pairs 58 = .ok (.iload_n 3, 1) := by decide +kernel
theorem d_M_pairs_59 : decode b_M_pairs 59 = .ok (.invokevirtual 98, 3) := by decide +kernel
theorem d_M_pairs_62 : decode b_M_pairs 62 = .ok (.ifCond .eq 82, 3) := by decide +kernel
theorem d_M_pairs_65 : decode b_M_pairs 65 = .ok (.aload_n 0, 1) := by decide +kernel
theorem d_M_pairs_66 : decode b_M_pairs 66 = .ok (.getfield 50, 3) := by decide +kernel
theorem d_M_pairs_69 : decode b_M_pairs 69 = .ok (.iload_n 2, 1) := by decide +kernel
theorem d_M_pairs_70 : decode b_M_pairs 70 = .ok (.laload, 1) := by decide +kernel
theorem d_M_pairs_71 : decode b_M_pairs 71 = .ok (.aload_n 0, 1) := by decide +kernel
theorem d_M_pairs_72 : decode b_M_pairs 72 = .ok (.getfield 54, 3) := by decide +kernel
theorem d_M_pairs_75 : decode b_M_pairs 75 = .ok (.iload_n 2, 1) := by decide +kernel
theorem d_M_pairs_76 : decode b_M_pairs 76 = .ok (.iconst 1, 1) := by decide +kernel
theorem d_M_pairs_77 : decode b_M_pairs 77 = .ok (.iload_n 3, 1) := by decide +kernel
theorem d_M_pairs_78 : decode b_M_pairs 78 = .ok (.ishl, 1) := by decide +kernel
theorem d_M_pairs_79 : decode b_M_pairs 79 = .ok (.ior, 1) := by decide +kernel
theorem d_M_pairs_80 : decode b_M_pairs 80 = .ok (.laload, 1) := by decide +kernel
theorem d_M_pairs_81 : decode b_M_pairs 81 = .ok (.lmul, 1) := by decide +kernel
theorem d_M_pairs_82 : decode b_M_pairs 82 = .ok (.lstore 4, 2) := by decide +kernel
theorem d_M_pairs_84 : decode b_M_pairs 84 = .ok (.aload_n 0, 1) := by decide +kernel
theorem d_M_pairs_85 : decode b_M_pairs 85 = .ok (.getfield 36, 3) := by decide +kernel
theorem d_M_pairs_88 : decode b_M_pairs 88 = .ok (.iload_n 2, 1) := by decide +kernel
theorem d_M_pairs_89 : decode b_M_pairs 89 = .ok (.iconst (-1), 1) := by decide +kernel
theorem d_M_pairs_90 : decode b_M_pairs 90 = .ok (.ixor, 1) := by decide +kernel
theorem d_M_pairs_91 : decode b_M_pairs 91 = .ok (.iand, 1) := by decide +kernel
theorem d_M_pairs_92 : decode b_M_pairs 92 = .ok (.iconst 1, 1) := by decide +kernel
theorem d_M_pairs_93 : decode b_M_pairs 93 = .ok (.iload_n 3, 1) := by decide +kernel
theorem d_M_pairs_94 : decode b_M_pairs 94 = .ok (.ishl, 1) := by decide +kernel
theorem d_M_pairs_95 : decode b_M_pairs 95 = .ok (.iconst (-1), 1) := by decide +kernel
theorem d_M_pairs_96 : decode b_M_pairs 96 = .ok (.ixor, 1) := by decide +kernel
theorem d_M_pairs_97 : decode b_M_pairs 97 = .ok (.iand, 1) := by decide +kernel
theorem d_M_pairs_98 : decode b_M_pairs 98 = .ok (.istore 6, 2) := by decide +kernel
theorem d_M_pairs_100 : decode b_M_pairs 100 = .ok (.iconst 0, 1) := by decide +kernel
theorem d_M_pairs_101 : decode b_M_pairs 101 = .ok (.istore 7, 2) := by decide +kernel
theorem d_M_pairs_103 : decode b_M_pairs 103 = .ok (.iload 7, 2) := by decide +kernel
theorem d_M_pairs_105 : decode b_M_pairs 105 = .ok (.bipush 16, 2) := by decide +kernel
theorem d_M_pairs_107 : decode b_M_pairs 107 = .ok (.if_icmp .ge 37, 3) := by decide +kernel
theorem d_M_pairs_110 : decode b_M_pairs 110 = .ok (.iload 6, 2) := by decide +kernel
theorem d_M_pairs_112 : decode b_M_pairs 112 = .ok (.iload 7, 2) := by decide +kernel
theorem d_M_pairs_114 : decode b_M_pairs 114 = .ok (.ishr, 1) := by decide +kernel
theorem d_M_pairs_115 : decode b_M_pairs 115 = .ok (.iconst 1, 1) := by decide +kernel
theorem d_M_pairs_116 : decode b_M_pairs 116 = .ok (.iand, 1) := by decide +kernel
theorem d_M_pairs_117 : decode b_M_pairs 117 = .ok (.iconst 1, 1) := by decide +kernel
theorem d_M_pairs_118 : decode b_M_pairs 118 = .ok (.if_icmp .ne 20, 3) := by decide +kernel
theorem d_M_pairs_121 : decode b_M_pairs 121 = .ok (.aload_n 0, 1) := by decide +kernel
theorem d_M_pairs_122 : decode b_M_pairs 122 = .ok (.getfield 81, 3) := by decide +kernel
theorem d_M_pairs_125 : decode b_M_pairs 125 = .ok (.bipush 16, 2) := by decide +kernel
theorem d_M_pairs_127 : decode b_M_pairs 127 = .ok (.iload_n 3, 1) := by decide +kernel
theorem d_M_pairs_128 : decode b_M_pairs 128 = .ok (.imul, 1) := by decide +kernel
theorem d_M_pairs_129 : decode b_M_pairs 129 = .ok (.iload 7, 2) := by decide +kernel
theorem d_M_pairs_131 : decode b_M_pairs 131 = .ok (.iadd, 1) := by decide +kernel
theorem d_M_pairs_132 : decode b_M_pairs 132 = .ok (.dup2, 1) := by decide +kernel
theorem d_M_pairs_133 : decode b_M_pairs 133 = .ok (.laload, 1) := by decide +kernel
theorem d_M_pairs_134 : decode b_M_pairs 134 = .ok (.lload 4, 2) := by decide +kernel
theorem d_M_pairs_136 : decode b_M_pairs 136 = .ok (.ladd, 1) := by decide +kernel
theorem d_M_pairs_137 : decode b_M_pairs 137 = .ok (.lastore, 1) := by decide +kernel
theorem d_M_pairs_138 : decode b_M_pairs 138 = .ok (.iinc 7 1, 3) := by decide +kernel
theorem d_M_pairs_141 : decode b_M_pairs 141 = .ok (.goto (-38), 3) := by decide +kernel
theorem d_M_pairs_144 : decode b_M_pairs 144 = .ok (.iinc 3 1, 3) := by decide +kernel
theorem d_M_pairs_147 : decode b_M_pairs 147 = .ok (.goto (-97), 3) := by decide +kernel
theorem d_M_pairs_150 : decode b_M_pairs 150 = .ok (.iinc 2 1, 3) := by decide +kernel
theorem d_M_pairs_153 : decode b_M_pairs 153 = .ok (.goto (-124), 3) := by decide +kernel
theorem d_M_pairs_156 : decode b_M_pairs 156 = .ok (.return_, 1) := by decide +kernel
def fm_M_pairs_B7  (x15 : Int32) (J16 : JS) : Option (Nat × Int32 × JS) :=
  if (256 : Int32) ≤ x15 then some (1, x15, J16) else grd (inB x15 256) (bnd (sJ J16 2 x15.toNatClampNeg (0 : Int64)) (fun J31 => bnd (x15 + (1 : Int32)) (fun x39 => some (0, x39, J31))))
def fm_M_pairs_B103 (x91 : Int32) (y124 : Int64) (x129 : Int32) (x140 : Int32) (J141 : JS) : Option (Nat × Int32 × JS) :=
  if (16 : Int32) ≤ x140 then some (1, x140, J141) else if ((x129 >>> (x140 &&& 31)) &&& (1 : Int32)) = (1 : Int32) then grd (inB (((16 : Int32) * x91) + x140) 256) (grd (inB (((16 : Int32) * x91) + x140) 256) (bnd (sJ J141 2 (((16 : Int32) * x91) + x140).toNatClampNeg ((J141 2 (((16 : Int32) * x91) + x140).toNatClampNeg) + y124)) (fun J166 => bnd (x140 + (1 : Int32)) (fun x174 => some (0, x174, J166))))) else bnd (x140 + (1 : Int32)) (fun x157 => some (0, x157, J141))
def fm_M_pairs_B50 (I1 : IS) (x61 : Int32) (x91 : Int32) (J92 : JS) : Option (Nat × Int32 × JS) :=
  if (16 : Int32) ≤ x91 then some (1, x91, J92) else ob1 (fm_M_mayCome x61 x91 I1) (fun x105 => if x105 = 0 then bnd (x91 + (1 : Int32)) (fun x115 => some (0, x115, J92)) else grd (inB x61 65536) (grd (inB (x61 ||| ((1 : Int32) <<< (x91 &&& 31))) 65536) (bnd ((J92 0 x61.toNatClampNeg) * (J92 1 (x61 ||| ((1 : Int32) <<< (x91 &&& 31))).toNatClampNeg)) (fun y124 => bnd (((I1 8 0) &&& (x61 ^^^ (-1 : Int32))) &&& (((1 : Int32) <<< (x91 &&& 31)) ^^^ (-1 : Int32))) (fun x129 => ob3 (iter (fun z : Int32 × JS => fm_M_pairs_B103 x91 y124 x129 z.1 z.2) FU ((0 : Int32), J92)) (fun _ x180 J181 => bnd (x91 + (1 : Int32)) (fun x190 => some (0, x190, J181))))))))
def fm_M_pairs_B29 (I1 : IS) (x61 : Int32) (J62 : JS) : Option (Nat × Int32 × JS) :=
  if (I1 8 0) < x61 then some (1, x61, J62) else grd (inB x61 65536) (if (lg_cmp (J62 0 x61.toNatClampNeg) (0 : Int64)) ≤ 0 then bnd (x61 + (1 : Int32)) (fun x80 => some (0, x80, J62)) else ob3 (iter (fun z : Int32 × JS => fm_M_pairs_B50 I1 x61 z.1 z.2) FU ((0 : Int32), J62)) (fun _ x196 J197 => bnd (x61 + (1 : Int32)) (fun x206 => some (0, x206, J197))))
def fm_M_pairs (p0 : Int32) (I0 : IS) (J0 : JS) : Option (IS × JS) :=
  ob2 (fm_M_countAll p0 I0 J0) (fun I1 J2 => ob3 (iter (fun z : Int32 × JS => fm_M_pairs_B7 z.1 z.2) FU ((0 : Int32), J2)) (fun _ x45 J46 => ob3 (iter (fun z : Int32 × JS => fm_M_pairs_B29 I1 z.1 z.2) FU ((0 : Int32), J46)) (fun _ x212 J213 => some (I1, J213))))
set_option maxHeartbeats 4000000 in
set_option maxRecDepth 100000 in
theorem cm_M_pairs (l : Launch) (D : va_G) (ca : Nat → ClassId) (am : Nat → Nat) {p0 : Int32} {I0 : IS} {J0 : JS} {r : IS × JS} (hf : fm_M_pairs p0 I0 J0 = some r) : CtV l y_M_pairs (Cond.code y_M_pairs b_M_pairs 8 none :: TB) { frames := 4, cells := 0, slots := 0, locals := 91 } [.ref (am 0), .int p0] D cls_all (tysC ca) NN (wM ca am I0 J0) (wM ca am r.1 r.2) := by
  refine jd_metV (cc := b_M_pairs) (by decide) rfl (Nat.le_of_ble_eq_true rfl) (lv := [(0, .ref (am 0)), (1, .int p0)]) rfl ?_
  intro p e R s m args below meth c A Q ls cx hR hK hN hD0 hA hP hS hl hend
  have hx := cx.1
  have hb := cx.2.1
  have hml := cx.2.2.1
  have hown := cx.2.2.2.1
  have hts := cx.2.2.2.2
  have hD : ∀ I J, va_D A (wM ca am I J) := fun I J => jd_Dc hD0 rfl
  unfold fm_M_pairs at hf
  refine lv_aload_n hx hb d_M_pairs_0 rfl (lv_at hl 0 rfl) ?_
  refine lv_iload_n hx hb d_M_pairs_1 rfl (lv_at hl 1 rfl) ?_
  obtain ⟨I1, J2, hc3, hf4⟩ := ob2_ex hf
  refine jd_cv (va_runV (As := [.int p0]) (rest := []) cx (cm_M_countAll l D ca am hc3 s.heap.size) (cwV 1 hts (jd_gV tb_731 tb_732 tb_31 tb_47 tb_733) rfl rfl rfl ⟨rfl, by decide, by decide, rfl⟩ (by rw [hR]; decide)) ⟨jd_blind nWc, (va_recv hK hP (ci := 6) (q0 := 0) rfl rfl), (jd_pre (av := [.ref (am 0), .int p0]) hP hK (hD I0 J0) (fun U h => nWm h hN))⟩ rfl rfl hl.1 rfl (lv_room (Nat.le_of_ble_eq_true rfl)) d_M_pairs_2 ⟨Nat.zero_le _, Nat.zero_le _⟩) hS (hD I0 J0) hA (fun H5 L6 hP7 hS8 => ?_)
  refine lv_iconst (v := 0) hx hb d_M_pairs_5 (by decide) ?_
  refine lv_istore_n hx hb d_M_pairs_6 rfl hl (by decide) (lv' := [(2, .int (0 : Int32)), (0, .ref (am 0)), (1, .int p0)]) rfl (fun ls9 hl10 => ?_)
  obtain ⟨tg44, x45, J46, ho47, hf48⟩ := ob3_ex hf4
  have kx7_1 : ∀ (H49 : Heap) (L50 : List Loc) (ls51 : Array Slot), va_P D cls_all (wM ca am I1 J46) H49 → va_S A s.heap H49 L50 → lv_has ls51 8 [(0, .ref (am 0))] → W p l e R s m args below meth c H49 L50 0 0 Q (F0 m 27 ls51 []) := by
    intro H49 L50 ls51 hP52 hS53 hl54
    refine lv_iconst (v := 0) hx hb d_M_pairs_27 (by decide) ?_
    refine lv_istore_n hx hb d_M_pairs_28 rfl hl54 (by decide) (lv' := [(2, .int (0 : Int32)), (0, .ref (am 0))]) rfl (fun ls55 hl56 => ?_)
    obtain ⟨tg211, x212, J213, ho214, hf215⟩ := ob3_ex hf48
    have kx29_1 : ∀ (H216 : Heap) (L217 : List Loc) (ls218 : Array Slot), va_P D cls_all (wM ca am I1 J213) H216 → va_S A s.heap H216 L217 → lv_has ls218 8 [] → W p l e R s m args below meth c H216 L217 0 0 Q (F0 m 156 ls218 []) := by
      intro H216 L217 ls218 hP219 hS220 hl221
      cases hf215
      exact hend H216 L217 156 ls218 hP219 hS220 d_M_pairs_156
    refine iter_ind (C := fun z : Int32 × JS => ∀ (H63 : Heap) (L64 : List Loc) (ls65 : Array Slot), va_P D cls_all (wM ca am I1 z.2) H63 → va_S A s.heap H63 L64 → lv_has ls65 8 [(0, .ref (am 0)), (2, .int z.1)] → W p l e R s m args below meth c H63 L64 0 0 Q (F0 m 29 ls65 [])) (fun z60 o59 hz70 hc57 he58 => ?_) _ _ ho214 H49 L50 ls55 hP52 hS53 (lv_sub hl56 [1, 0] rfl)
    obtain ⟨x61, J62⟩ := z60
    intro H63 L64 ls65 hP66 hS67 hl68
    have hf69 : fm_M_pairs_B29 I1 x61 J62 = some o59 := hz70
    unfold fm_M_pairs_B29 at hf69
    refine lv_iload_n hx hb d_M_pairs_29 rfl (lv_at hl68 1 rfl) ?_
    refine lv_aload_n hx hb d_M_pairs_30 rfl (lv_at hl68 0 rfl) ?_
    refine va_get (D := D) (ci := 6) (v := .int (I1 8 0)) (C := R_M) (T := F_M) (N := 24) hx hb hts (fun w h => List.mem_cons_of_mem _ (uw_M w h)) hown hK hP66 0 rfl rfl 8 (by decide) (hts _ (List.mem_cons_of_mem _ tb_608)) (fun _ h => h) rfl d_M_pairs_31 ?_
    refine lv_icmp_gt (tgt := 156) hx hb d_M_pairs_34 rfl (fun h71 => ?_) (fun h71 => ?_)
    · have hf72 := ifp hf69 h71
      cases hf72
      have e74 := he58 (by show (1 : Nat) ≠ 0; decide)
      cases e74
      exact kx29_1 H63 L64 ls65 hP66 hS67 (lv_sub hl68 [] rfl)
    · have hf73 := ifn hf69 h71
      refine lv_aload_n hx hb d_M_pairs_37 rfl (lv_at hl68 0 rfl) ?_
      refine va_get (D := D) (ci := 6) (v := .ref (am 9)) (C := R_M) (T := F_M) (N := 24) hx hb hts (fun w h => List.mem_cons_of_mem _ (uw_M w h)) hown hK hP66 0 rfl rfl 12 (by decide) (hts _ (List.mem_cons_of_mem _ tb_612)) (fun _ h => h) rfl d_M_pairs_38 ?_
      refine lv_iload_n hx hb d_M_pairs_41 rfl (lv_at hl68 1 rfl) ?_
      obtain ⟨hg75, hf76⟩ := grd_ex hf73
      refine va_lald hx hb hK hP66 9 3 rfl rfl (inB_in hg75) d_M_pairs_42 ?_
      refine lv_lconst (v := 0) hx hb d_M_pairs_43 (by decide) ?_
      refine W.lcmp hx hb d_M_pairs_44 ?_
      refine lv_if_le (tgt := 150) hx hb d_M_pairs_45 rfl (fun h77 => ?_) (fun h77 => ?_)
      · have hf78 := ifp hf76 h77
        obtain ⟨x80, e81, hf82⟩ := bnd_ex hf78
        refine lv_iinc hx hb d_M_pairs_150 hl68 (k := 1) rfl (v := x80) (by rw [e81]; rfl) (by decide) (lv' := [(2, .int x80), (0, .ref (am 0))]) rfl (fun ls83 hl84 => ?_)
        refine lv_goto (tgt := 29) hx hb d_M_pairs_153 rfl ?_
        cases hf82
        exact hc57 rfl H63 L64 ls83 hP66 hS67 (lv_sub hl84 [1, 0] rfl)
      · have hf79 := ifn hf76 h77
        refine lv_iconst (v := 0) hx hb d_M_pairs_48 (by decide) ?_
        refine lv_istore_n hx hb d_M_pairs_49 rfl hl68 (by decide) (lv' := [(3, .int (0 : Int32)), (0, .ref (am 0)), (2, .int x61)]) rfl (fun ls85 hl86 => ?_)
        obtain ⟨tg195, x196, J197, ho198, hf199⟩ := ob3_ex hf79
        have kx50_1 : ∀ (H200 : Heap) (L201 : List Loc) (ls202 : Array Slot), va_P D cls_all (wM ca am I1 J197) H200 → va_S A s.heap H200 L201 → lv_has ls202 8 [(0, .ref (am 0)), (2, .int x61)] → W p l e R s m args below meth c H200 L201 0 0 Q (F0 m 150 ls202 []) := by
          intro H200 L201 ls202 hP203 hS204 hl205
          obtain ⟨x206, e207, hf208⟩ := bnd_ex hf199
          refine lv_iinc hx hb d_M_pairs_150 hl205 (k := 1) rfl (v := x206) (by rw [e207]; rfl) (by decide) (lv' := [(2, .int x206), (0, .ref (am 0))]) rfl (fun ls209 hl210 => ?_)
          refine lv_goto (tgt := 29) hx hb d_M_pairs_153 rfl ?_
          cases hf208
          exact hc57 rfl H200 L201 ls209 hP203 hS204 (lv_sub hl210 [1, 0] rfl)
        refine iter_ind (C := fun z : Int32 × JS => ∀ (H93 : Heap) (L94 : List Loc) (ls95 : Array Slot), va_P D cls_all (wM ca am I1 z.2) H93 → va_S A s.heap H93 L94 → lv_has ls95 8 [(0, .ref (am 0)), (2, .int x61), (3, .int z.1)] → W p l e R s m args below meth c H93 L94 0 0 Q (F0 m 50 ls95 [])) (fun z90 o89 hz100 hc87 he88 => ?_) _ _ ho198 H63 L64 ls85 hP66 hS67 (lv_sub hl86 [1, 2, 0] rfl)
        obtain ⟨x91, J92⟩ := z90
        intro H93 L94 ls95 hP96 hS97 hl98
        have hf99 : fm_M_pairs_B50 I1 x61 x91 J92 = some o89 := hz100
        unfold fm_M_pairs_B50 at hf99
        refine lv_iload_n hx hb d_M_pairs_50 rfl (lv_at hl98 2 rfl) ?_
        refine lv_bipush (v := 16) hx hb d_M_pairs_51 (by decide) ?_
        refine lv_icmp_ge (tgt := 150) hx hb d_M_pairs_53 rfl (fun h101 => ?_) (fun h101 => ?_)
        · have hf102 := ifp hf99 h101
          cases hf102
          have e104 := he88 (by show (1 : Nat) ≠ 0; decide)
          cases e104
          exact kx50_1 H93 L94 ls95 hP96 hS97 (lv_sub hl98 [0, 1] rfl)
        · have hf103 := ifn hf99 h101
          refine lv_aload_n hx hb d_M_pairs_56 rfl (lv_at hl98 0 rfl) ?_
          refine lv_iload_n hx hb d_M_pairs_57 rfl (lv_at hl98 1 rfl) ?_
          refine lv_iload_n hx hb d_M_pairs_58 rfl (lv_at hl98 2 rfl) ?_
          obtain ⟨x105, hc106, hf107⟩ := ob1_ex hf103
          refine jd_ci (va_runV (As := [.int x61, .int x91]) (rest := []) cx (cm_M_mayCome l D ca am hc106 H93.size) (cwV 2 hts (jd_gV tb_734 tb_735 tb_32 tb_47 tb_736) rfl rfl rfl ⟨rfl, by decide, by decide, rfl⟩ (by rw [hR]; decide)) ⟨jd_blind nWc, (va_recv hK hP96 (ci := 6) (q0 := 0) rfl rfl), (jd_pre (av := [.ref (am 0), .int x61, .int x91]) hP96 hK (hD I1 J92) (fun U h => nWm h hN))⟩ rfl rfl hl98.1 rfl (lv_room (Nat.le_of_ble_eq_true rfl)) d_M_pairs_59 ⟨Nat.zero_le _, Nat.zero_le _⟩) hS97 (hD I1 J92) hA (fun H108 L109 hP110 hS111 => ?_)
          refine lv_if_eq (tgt := 144) hx hb d_M_pairs_62 rfl (fun h112 => ?_) (fun h112 => ?_)
          · have hf113 := ifp hf107 h112
            obtain ⟨x115, e116, hf117⟩ := bnd_ex hf113
            refine lv_iinc hx hb d_M_pairs_144 hl98 (k := 2) rfl (v := x115) (by rw [e116]; rfl) (by decide) (lv' := [(3, .int x115), (0, .ref (am 0)), (2, .int x61)]) rfl (fun ls118 hl119 => ?_)
            refine lv_goto (tgt := 50) hx hb d_M_pairs_147 rfl ?_
            cases hf117
            exact hc87 rfl H108 L109 ls118 hP110 hS111 (lv_sub hl119 [1, 2, 0] rfl)
          · have hf114 := ifn hf107 h112
            refine lv_aload_n hx hb d_M_pairs_65 rfl (lv_at hl98 0 rfl) ?_
            refine va_get (D := D) (ci := 6) (v := .ref (am 9)) (C := R_M) (T := F_M) (N := 24) hx hb hts (fun w h => List.mem_cons_of_mem _ (uw_M w h)) hown hK hP110 0 rfl rfl 12 (by decide) (hts _ (List.mem_cons_of_mem _ tb_612)) (fun _ h => h) rfl d_M_pairs_66 ?_
            refine lv_iload_n hx hb d_M_pairs_69 rfl (lv_at hl98 1 rfl) ?_
            obtain ⟨hg120, hf121⟩ := grd_ex hf114
            refine va_lald hx hb hK hP110 9 3 rfl rfl (inB_in hg120) d_M_pairs_70 ?_
            refine lv_aload_n hx hb d_M_pairs_71 rfl (lv_at hl98 0 rfl) ?_
            refine va_get (D := D) (ci := 6) (v := .ref (am 10)) (C := R_M) (T := F_M) (N := 24) hx hb hts (fun w h => List.mem_cons_of_mem _ (uw_M w h)) hown hK hP110 0 rfl rfl 13 (by decide) (hts _ (List.mem_cons_of_mem _ tb_613)) (fun _ h => h) rfl d_M_pairs_72 ?_
            refine lv_iload_n hx hb d_M_pairs_75 rfl (lv_at hl98 1 rfl) ?_
            refine lv_iconst (v := 1) hx hb d_M_pairs_76 (by decide) ?_
            refine lv_iload_n hx hb d_M_pairs_77 rfl (lv_at hl98 2 rfl) ?_
            refine lv_ishl hx hb d_M_pairs_78 ?_
            refine lv_ior hx hb d_M_pairs_79 ?_
            obtain ⟨hg122, hf123⟩ := grd_ex hf121
            refine va_lald hx hb hK hP110 10 3 rfl rfl (inB_in hg122) d_M_pairs_80 ?_
            refine lv_lmul hx hb d_M_pairs_81 ?_
            obtain ⟨y124, e125, hf126⟩ := bnd_ex hf123
            refine jd_tnl e125 ?_
            refine lv_lstore hx hb d_M_pairs_82 hl98 (by decide) (lv' := [(4, .long y124), (0, .ref (am 0)), (2, .int x61), (3, .int x91)]) rfl (fun ls127 hl128 => ?_)
            refine lv_aload_n hx hb d_M_pairs_84 rfl (lv_at hl128 1 rfl) ?_
            refine va_get (D := D) (ci := 6) (v := .int (I1 8 0)) (C := R_M) (T := F_M) (N := 24) hx hb hts (fun w h => List.mem_cons_of_mem _ (uw_M w h)) hown hK hP110 0 rfl rfl 8 (by decide) (hts _ (List.mem_cons_of_mem _ tb_608)) (fun _ h => h) rfl d_M_pairs_85 ?_
            refine lv_iload_n hx hb d_M_pairs_88 rfl (lv_at hl128 2 rfl) ?_
            refine lv_iconst (v := -1) hx hb d_M_pairs_89 (by decide) ?_
            refine lv_ixor hx hb d_M_pairs_90 ?_
            refine lv_iand hx hb d_M_pairs_91 ?_
            refine lv_iconst (v := 1) hx hb d_M_pairs_92 (by decide) ?_
            refine lv_iload_n hx hb d_M_pairs_93 rfl (lv_at hl128 3 rfl) ?_
            refine lv_ishl hx hb d_M_pairs_94 ?_
            refine lv_iconst (v := -1) hx hb d_M_pairs_95 (by decide) ?_
            refine lv_ixor hx hb d_M_pairs_96 ?_
            refine lv_iand hx hb d_M_pairs_97 ?_
            obtain ⟨x129, e130, hf131⟩ := bnd_ex hf126
            refine jd_tni e130 ?_
            refine lv_istore hx hb d_M_pairs_98 hl128 (by decide) (lv' := [(6, .int x129), (4, .long y124), (0, .ref (am 0)), (2, .int x61), (3, .int x91)]) rfl (fun ls132 hl133 => ?_)
            refine lv_iconst (v := 0) hx hb d_M_pairs_100 (by decide) ?_
            refine lv_istore hx hb d_M_pairs_101 hl133 (by decide) (lv' := [(7, .int (0 : Int32)), (6, .int x129), (4, .long y124), (0, .ref (am 0)), (2, .int x61), (3, .int x91)]) rfl (fun ls134 hl135 => ?_)
            obtain ⟨tg179, x180, J181, ho182, hf183⟩ := ob3_ex hf131
            have kx103_1 : ∀ (H184 : Heap) (L185 : List Loc) (ls186 : Array Slot), va_P D cls_all (wM ca am I1 J181) H184 → va_S A s.heap H184 L185 → lv_has ls186 8 [(0, .ref (am 0)), (2, .int x61), (3, .int x91)] → W p l e R s m args below meth c H184 L185 0 0 Q (F0 m 144 ls186 []) := by
              intro H184 L185 ls186 hP187 hS188 hl189
              obtain ⟨x190, e191, hf192⟩ := bnd_ex hf183
              refine lv_iinc hx hb d_M_pairs_144 hl189 (k := 2) rfl (v := x190) (by rw [e191]; rfl) (by decide) (lv' := [(3, .int x190), (0, .ref (am 0)), (2, .int x61)]) rfl (fun ls193 hl194 => ?_)
              refine lv_goto (tgt := 50) hx hb d_M_pairs_147 rfl ?_
              cases hf192
              exact hc87 rfl H184 L185 ls193 hP187 hS188 (lv_sub hl194 [1, 2, 0] rfl)
            refine iter_ind (C := fun z : Int32 × JS => ∀ (H142 : Heap) (L143 : List Loc) (ls144 : Array Slot), va_P D cls_all (wM ca am I1 z.2) H142 → va_S A s.heap H142 L143 → lv_has ls144 8 [(0, .ref (am 0)), (2, .int x61), (3, .int x91), (4, .long y124), (6, .int x129), (7, .int z.1)] → W p l e R s m args below meth c H142 L143 0 0 Q (F0 m 103 ls144 [])) (fun z139 o138 hz149 hc136 he137 => ?_) _ _ ho182 H108 L109 ls134 hP110 hS111 (lv_sub hl135 [3, 4, 5, 2, 1, 0] rfl)
            obtain ⟨x140, J141⟩ := z139
            intro H142 L143 ls144 hP145 hS146 hl147
            have hf148 : fm_M_pairs_B103 x91 y124 x129 x140 J141 = some o138 := hz149
            unfold fm_M_pairs_B103 at hf148
            refine lv_iload hx hb d_M_pairs_103 (lv_at hl147 5 rfl) ?_
            refine lv_bipush (v := 16) hx hb d_M_pairs_105 (by decide) ?_
            refine lv_icmp_ge (tgt := 144) hx hb d_M_pairs_107 rfl (fun h150 => ?_) (fun h150 => ?_)
            · have hf151 := ifp hf148 h150
              cases hf151
              have e153 := he137 (by show (1 : Nat) ≠ 0; decide)
              cases e153
              exact kx103_1 H142 L143 ls144 hP145 hS146 (lv_sub hl147 [0, 1, 2] rfl)
            · have hf152 := ifn hf148 h150
              refine lv_iload hx hb d_M_pairs_110 (lv_at hl147 4 rfl) ?_
              refine lv_iload hx hb d_M_pairs_112 (lv_at hl147 5 rfl) ?_
              refine lv_ishr hx hb d_M_pairs_114 ?_
              refine lv_iconst (v := 1) hx hb d_M_pairs_115 (by decide) ?_
              refine lv_iand hx hb d_M_pairs_116 ?_
              refine lv_iconst (v := 1) hx hb d_M_pairs_117 (by decide) ?_
              refine lv_icmp_ne (tgt := 138) hx hb d_M_pairs_118 rfl (fun h154 => ?_) (fun h154 => ?_)
              · have hf155 := ifn hf152 h154
                obtain ⟨x157, e158, hf159⟩ := bnd_ex hf155
                refine lv_iinc hx hb d_M_pairs_138 hl147 (k := 5) rfl (v := x157) (by rw [e158]; rfl) (by decide) (lv' := [(7, .int x157), (0, .ref (am 0)), (2, .int x61), (3, .int x91), (4, .long y124), (6, .int x129)]) rfl (fun ls160 hl161 => ?_)
                refine lv_goto (tgt := 103) hx hb d_M_pairs_141 rfl ?_
                cases hf159
                exact hc136 rfl H142 L143 ls160 hP145 hS146 (lv_sub hl161 [1, 2, 3, 4, 5, 0] rfl)
              · have hf156 := ifp hf152 h154
                refine lv_aload_n hx hb d_M_pairs_121 rfl (lv_at hl147 0 rfl) ?_
                refine va_get (D := D) (ci := 6) (v := .ref (am 18)) (C := R_M) (T := F_M) (N := 24) hx hb hts (fun w h => List.mem_cons_of_mem _ (uw_M w h)) hown hK hP145 0 rfl rfl 22 (by decide) (hts _ (List.mem_cons_of_mem _ tb_622)) (fun _ h => h) rfl d_M_pairs_122 ?_
                refine lv_bipush (v := 16) hx hb d_M_pairs_125 (by decide) ?_
                refine lv_iload_n hx hb d_M_pairs_127 rfl (lv_at hl147 2 rfl) ?_
                refine lv_imul hx hb d_M_pairs_128 ?_
                refine lv_iload hx hb d_M_pairs_129 (lv_at hl147 5 rfl) ?_
                refine lv_iadd hx hb d_M_pairs_131 ?_
                refine lv_dup2_11 hx hb d_M_pairs_132 rfl rfl ?_
                obtain ⟨hg162, hf163⟩ := grd_ex hf156
                refine va_lald hx hb hK hP145 18 3 rfl rfl (inB_in hg162) d_M_pairs_133 ?_
                refine lv_lload hx hb d_M_pairs_134 (lv_at hl147 3 rfl) ?_
                refine lv_ladd hx hb d_M_pairs_136 ?_
                obtain ⟨hg164, hf165⟩ := grd_ex hf163
                obtain ⟨J166, e167, hf168⟩ := bnd_ex hf165
                refine va_last hx hb hK hP145 (hD I1 J141) hS146 18 3 rfl rfl (inB_in hg164) d_M_pairs_137 (fun H169 L170 hp173 _ hS172 => ?_)
                have hP171 : va_P D cls_all (wM ca am I1 J166) H169 := by rw [e167]; exact hp173
                obtain ⟨x174, e175, hf176⟩ := bnd_ex hf168
                refine lv_iinc hx hb d_M_pairs_138 hl147 (k := 5) rfl (v := x174) (by rw [e175]; rfl) (by decide) (lv' := [(7, .int x174), (0, .ref (am 0)), (2, .int x61), (3, .int x91), (4, .long y124), (6, .int x129)]) rfl (fun ls177 hl178 => ?_)
                refine lv_goto (tgt := 103) hx hb d_M_pairs_141 rfl ?_
                cases hf176
                exact hc136 rfl H169 L170 ls177 hP171 hS172 (lv_sub hl178 [1, 2, 3, 4, 5, 0] rfl)
  refine iter_ind (C := fun z : Int32 × JS => ∀ (H17 : Heap) (L18 : List Loc) (ls19 : Array Slot), va_P D cls_all (wM ca am I1 z.2) H17 → va_S A s.heap H17 L18 → lv_has ls19 8 [(0, .ref (am 0)), (2, .int z.1)] → W p l e R s m args below meth c H17 L18 0 0 Q (F0 m 7 ls19 [])) (fun z14 o13 hz24 hc11 he12 => ?_) _ _ ho47 H5 L6 ls9 hP7 hS8 (lv_sub hl10 [1, 0] rfl)
  obtain ⟨x15, J16⟩ := z14
  intro H17 L18 ls19 hP20 hS21 hl22
  have hf23 : fm_M_pairs_B7 x15 J16 = some o13 := hz24
  unfold fm_M_pairs_B7 at hf23
  refine lv_iload_n hx hb d_M_pairs_7 rfl (lv_at hl22 1 rfl) ?_
  refine lv_sipush (v := 256) hx hb d_M_pairs_8 (by decide) ?_
  refine lv_icmp_ge (tgt := 27) hx hb d_M_pairs_11 rfl (fun h25 => ?_) (fun h25 => ?_)
  · have hf26 := ifp hf23 h25
    cases hf26
    have e28 := he12 (by show (1 : Nat) ≠ 0; decide)
    cases e28
    exact kx7_1 H17 L18 ls19 hP20 hS21 (lv_sub hl22 [0] rfl)
  · have hf27 := ifn hf23 h25
    refine lv_aload_n hx hb d_M_pairs_14 rfl (lv_at hl22 0 rfl) ?_
    refine va_get (D := D) (ci := 6) (v := .ref (am 18)) (C := R_M) (T := F_M) (N := 24) hx hb hts (fun w h => List.mem_cons_of_mem _ (uw_M w h)) hown hK hP20 0 rfl rfl 22 (by decide) (hts _ (List.mem_cons_of_mem _ tb_622)) (fun _ h => h) rfl d_M_pairs_15 ?_
    refine lv_iload_n hx hb d_M_pairs_18 rfl (lv_at hl22 1 rfl) ?_
    refine lv_lconst (v := 0) hx hb d_M_pairs_19 (by decide) ?_
    obtain ⟨hg29, hf30⟩ := grd_ex hf27
    obtain ⟨J31, e32, hf33⟩ := bnd_ex hf30
    refine va_last hx hb hK hP20 (hD I1 J16) hS21 18 3 rfl rfl (inB_in hg29) d_M_pairs_20 (fun H34 L35 hp38 _ hS37 => ?_)
    have hP36 : va_P D cls_all (wM ca am I1 J31) H34 := by rw [e32]; exact hp38
    obtain ⟨x39, e40, hf41⟩ := bnd_ex hf33
    refine lv_iinc hx hb d_M_pairs_21 hl22 (k := 1) rfl (v := x39) (by rw [e40]; rfl) (by decide) (lv' := [(2, .int x39), (0, .ref (am 0))]) rfl (fun ls42 hl43 => ?_)
    refine lv_goto (tgt := 7) hx hb d_M_pairs_24 rfl ?_
    cases hf41
    exact hc11 rfl H34 L35 ls42 hP36 hS37 (lv_sub hl43 [1, 0] rfl)
theorem d_M_rank_0 : decode b_M_rank 0 = .ok (.aload_n 0, 1) := by decide +kernel
theorem d_M_rank_1 : decode b_M_rank 1 = .ok (.iload_n 1, 1) := by decide +kernel
theorem d_M_rank_2 : decode b_M_rank 2 = .ok (.invokevirtual 124, 3) := by decide +kernel
theorem d_M_rank_5 : decode b_M_rank 5 = .ok (.lconst 0, 1) := by decide +kernel
theorem d_M_rank_6 : decode b_M_rank 6 = .ok (.lstore 4, 2) := by decide +kernel
theorem d_M_rank_8 : decode b_M_rank 8 = .ok (.iconst 0, 1) := by decide +kernel
theorem d_M_rank_9 : decode b_M_rank 9 = .ok (.istore 6, 2) := by decide +kernel
theorem d_M_rank_11 : decode b_M_rank 11 = .ok (.iload 6, 2) := by decide +kernel
theorem d_M_rank_13 : decode b_M_rank 13 = .ok (.aload_n 0, 1) := by decide +kernel
theorem d_M_rank_14 : decode b_M_rank 14 = .ok (.getfield 36, 3) := by decide +kernel
theorem d_M_rank_17 : decode b_M_rank 17 = .ok (.if_icmp .gt 66, 3) := by decide +kernel
theorem d_M_rank_20 : decode b_M_rank 20 = .ok (.aload_n 0, 1) := by decide +kernel
theorem d_M_rank_21 : decode b_M_rank 21 = .ok (.getfield 50, 3) := by decide +kernel
theorem d_M_rank_24 : decode b_M_rank 24 = .ok (.iload 6, 2) := by decide +kernel
theorem d_M_rank_26 : decode b_M_rank 26 = .ok (.laload, 1) := by decide +kernel
theorem d_M_rank_27 : decode b_M_rank 27 = .ok (.lconst 0, 1) := by decide +kernel
theorem d_M_rank_28 : decode b_M_rank 28 = .ok (.lcmp, 1) := by decide +kernel
theorem d_M_rank_29 : decode b_M_rank 29 = .ok (.ifCond .le 48, 3) := by decide +kernel
theorem d_M_rank_32 : decode b_M_rank 32 = .ok (.iload 6, 2) := by decide +kernel
theorem d_M_rank_34 : decode b_M_rank 34 = .ok (.invokestatic 112, 3) := by decide +kernel
theorem d_M_rank_37 : decode b_M_rank 37 = .ok (.iload_n 3, 1) := by decide +kernel
theorem d_M_rank_38 : decode b_M_rank 38 = .ok (.iconst 1, 1) := by decide +kernel
theorem d_M_rank_39 : decode b_M_rank 39 = .ok (.isub, 1) := by decide +kernel
theorem d_M_rank_40 : decode b_M_rank 40 = .ok (.if_icmp .ne 37, 3) := by decide +kernel
theorem d_M_rank_43 : decode b_M_rank 43 = .ok (.aload_n 0, 1) := by decide +kernel
theorem d_M_rank_44 : decode b_M_rank 44 = .ok (.iload 6, 2) := by decide +kernel
theorem d_M_rank_46 : decode b_M_rank 46 = .ok (.iload_n 2, 1) := by decide +kernel
theorem d_M_rank_47 : decode b_M_rank 47 = .ok (.invokevirtual 98, 3) := by decide +kernel
theorem d_M_rank_50 : decode b_M_rank 50 = .ok (.ifCond .eq 27, 3) := by decide +kernel
theorem d_M_rank_53 : decode b_M_rank 53 = .ok (.lload 4, 2) := by decide +kernel
theorem d_M_rank_55 : decode b_M_rank 55 = .ok (.aload_n 0, 1) := by decide +kernel
theorem d_M_rank_56 : decode b_M_rank 56 = .ok (.getfield 50, 3) := by decide +kernel
theorem d_M_rank_59 : decode b_M_rank 59 = .ok (.iload 6, 2) := by decide +kernel
theorem d_M_rank_61 : decode b_M_rank 61 = .ok (.laload, 1) := by decide +kernel
theorem d_M_rank_62 : decode b_M_rank 62 = .ok (.aload_n 0, 1) := by decide +kernel
theorem d_M_rank_63 : decode b_M_rank 63 = .ok (.getfield 54, 3) := by decide +kernel
theorem d_M_rank_66 : decode b_M_rank 66 = .ok (.iload 6, 2) := by decide +kernel
theorem d_M_rank_68 : decode b_M_rank 68 = .ok (.iconst 1, 1) := by decide +kernel
theorem d_M_rank_69 : decode b_M_rank 69 = .ok (.iload_n 2, 1) := by decide +kernel
theorem d_M_rank_70 : decode b_M_rank 70 = .ok (.ishl, 1) := by decide +kernel
theorem d_M_rank_71 : decode b_M_rank 71 = .ok (.ior, 1) := by decide +kernel
theorem d_M_rank_72 : decode b_M_rank 72 = .ok (.laload, 1) := by decide +kernel
theorem d_M_rank_73 : decode b_M_rank 73 = .ok (.lmul, 1) := by decide +kernel
theorem d_M_rank_74 : decode b_M_rank 74 = .ok (.ladd, 1) := by decide +kernel
theorem d_M_rank_75 : decode b_M_rank 75 = .ok (.lstore 4, 2) := by decide +kernel
theorem d_M_rank_77 : decode b_M_rank 77 = .ok (.iinc 6 1, 3) := by decide +kernel
theorem d_M_rank_80 : decode b_M_rank 80 = .ok (.goto (-69), 3) := by decide +kernel
theorem d_M_rank_83 : decode b_M_rank 83 = .ok (.lload 4, 2) := by decide +kernel
theorem d_M_rank_85 : decode b_M_rank 85 = .ok (.lreturn, 1) := by decide +kernel
def fm_M_rank_B11 (p1 : Int32) (p2 : Int32) (I1 : IS) (J2 : JS) (y17 : Int64) (x18 : Int32) : Option (Nat × Int64 × Int32) :=
  if (I1 8 0) < x18 then some (1, y17, x18) else grd (inB x18 65536) (if (lg_cmp (J2 0 x18.toNatClampNeg) (0 : Int64)) ≤ 0 then bnd (x18 + (1 : Int32)) (fun x36 => some (0, y17, x36)) else ob1 (fm_M_bits x18) (fun x41 => if x41 = (p2 - (1 : Int32)) then ob1 (fm_M_mayCome x18 p1 I1) (fun x56 => if x56 = 0 then bnd (x18 + (1 : Int32)) (fun x66 => some (0, y17, x66)) else grd (inB x18 65536) (grd (inB (x18 ||| ((1 : Int32) <<< (p1 &&& 31))) 65536) (bnd (y17 + ((J2 0 x18.toNatClampNeg) * (J2 1 (x18 ||| ((1 : Int32) <<< (p1 &&& 31))).toNatClampNeg))) (fun y75 => bnd (x18 + (1 : Int32)) (fun x80 => some (0, y75, x80)))))) else bnd (x18 + (1 : Int32)) (fun x51 => some (0, y17, x51))))
def fm_M_rank (p0 : Int32) (p1 : Int32) (p2 : Int32) (I0 : IS) (J0 : JS) : Option (Int64 × IS × JS) :=
  ob2 (fm_M_countAll p0 I0 J0) (fun I1 J2 => ob3 (iter (fun z : Int64 × Int32 => fm_M_rank_B11 p1 p2 I1 J2 z.1 z.2) FU ((0 : Int64), (0 : Int32))) (fun _ y86 x87 => some (y86, I1, J2)))
set_option maxHeartbeats 4000000 in
set_option maxRecDepth 100000 in
theorem cm_M_rank (l : Launch) (D : va_G) (ca : Nat → ClassId) (am : Nat → Nat) {p0 : Int32} {p1 : Int32} {p2 : Int32} {I0 : IS} {J0 : JS} {r : Int64 × IS × JS} (hf : fm_M_rank p0 p1 p2 I0 J0 = some r) : CtL l y_M_rank (Cond.code y_M_rank b_M_rank 7 (some .long) :: TB) { frames := 4, cells := 0, slots := 0, locals := 91 } [.ref (am 0), .int p0, .int p1, .int p2] D cls_all (tysC ca) NN (wM ca am I0 J0) (wM ca am r.2.1 r.2.2) r.1 := by
  refine jd_metL (cc := b_M_rank) (by decide) rfl (Nat.le_of_ble_eq_true rfl) (lv := [(0, .ref (am 0)), (1, .int p0), (2, .int p1), (3, .int p2)]) rfl ?_
  intro p e R s m args below meth c A Q ls cx hR hK hN hD0 hA hP hS hl hend
  have hx := cx.1
  have hb := cx.2.1
  have hml := cx.2.2.1
  have hown := cx.2.2.2.1
  have hts := cx.2.2.2.2
  have hD : ∀ I J, va_D A (wM ca am I J) := fun I J => jd_Dc hD0 rfl
  unfold fm_M_rank at hf
  refine lv_aload_n hx hb d_M_rank_0 rfl (lv_at hl 0 rfl) ?_
  refine lv_iload_n hx hb d_M_rank_1 rfl (lv_at hl 1 rfl) ?_
  obtain ⟨I1, J2, hc3, hf4⟩ := ob2_ex hf
  refine jd_cv (va_runV (As := [.int p0]) (rest := []) cx (cm_M_countAll l D ca am hc3 s.heap.size) (cwV 1 hts (jd_gV tb_731 tb_732 tb_31 tb_47 tb_733) rfl rfl rfl ⟨rfl, by decide, by decide, rfl⟩ (by rw [hR]; decide)) ⟨jd_blind nWc, (va_recv hK hP (ci := 6) (q0 := 0) rfl rfl), (jd_pre (av := [.ref (am 0), .int p0]) hP hK (hD I0 J0) (fun U h => nWm h hN))⟩ rfl rfl hl.1 rfl (lv_room (Nat.le_of_ble_eq_true rfl)) d_M_rank_2 ⟨Nat.zero_le _, Nat.zero_le _⟩) hS (hD I0 J0) hA (fun H5 L6 hP7 hS8 => ?_)
  refine lv_lconst (v := 0) hx hb d_M_rank_5 (by decide) ?_
  refine lv_lstore hx hb d_M_rank_6 hl (by decide) (lv' := [(4, .long (0 : Int64)), (0, .ref (am 0)), (1, .int p0), (2, .int p1), (3, .int p2)]) rfl (fun ls9 hl10 => ?_)
  refine lv_iconst (v := 0) hx hb d_M_rank_8 (by decide) ?_
  refine lv_istore hx hb d_M_rank_9 hl10 (by decide) (lv' := [(6, .int (0 : Int32)), (4, .long (0 : Int64)), (0, .ref (am 0)), (1, .int p0), (2, .int p1), (3, .int p2)]) rfl (fun ls11 hl12 => ?_)
  obtain ⟨tg85, y86, x87, ho88, hf89⟩ := ob3_ex hf4
  have kx11_1 : ∀ (H90 : Heap) (L91 : List Loc) (ls92 : Array Slot), va_P D cls_all (wM ca am I1 J2) H90 → va_S A s.heap H90 L91 → lv_has ls92 7 [(4, .long y86)] → W p l e R s m args below meth c H90 L91 0 0 Q (F0 m 83 ls92 []) := by
    intro H90 L91 ls92 hP93 hS94 hl95
    refine lv_lload hx hb d_M_rank_83 (lv_at hl95 0 rfl) ?_
    cases hf89
    exact hend H90 L91 85 ls92 hP93 hS94 d_M_rank_85
  refine iter_ind (C := fun z : Int64 × Int32 => ∀ (H19 : Heap) (L20 : List Loc) (ls21 : Array Slot), va_P D cls_all (wM ca am I1 J2) H19 → va_S A s.heap H19 L20 → lv_has ls21 7 [(0, .ref (am 0)), (2, .int p1), (3, .int p2), (4, .long z.1), (6, .int z.2)] → W p l e R s m args below meth c H19 L20 0 0 Q (F0 m 11 ls21 [])) (fun z16 o15 hz26 hc13 he14 => ?_) _ _ ho88 H5 L6 ls11 hP7 hS8 (lv_sub hl12 [2, 4, 5, 1, 0] rfl)
  obtain ⟨y17, x18⟩ := z16
  intro H19 L20 ls21 hP22 hS23 hl24
  have hf25 : fm_M_rank_B11 p1 p2 I1 J2 y17 x18 = some o15 := hz26
  unfold fm_M_rank_B11 at hf25
  refine lv_iload hx hb d_M_rank_11 (lv_at hl24 4 rfl) ?_
  refine lv_aload_n hx hb d_M_rank_13 rfl (lv_at hl24 0 rfl) ?_
  refine va_get (D := D) (ci := 6) (v := .int (I1 8 0)) (C := R_M) (T := F_M) (N := 24) hx hb hts (fun w h => List.mem_cons_of_mem _ (uw_M w h)) hown hK hP22 0 rfl rfl 8 (by decide) (hts _ (List.mem_cons_of_mem _ tb_608)) (fun _ h => h) rfl d_M_rank_14 ?_
  refine lv_icmp_gt (tgt := 83) hx hb d_M_rank_17 rfl (fun h27 => ?_) (fun h27 => ?_)
  · have hf28 := ifp hf25 h27
    cases hf28
    have e30 := he14 (by show (1 : Nat) ≠ 0; decide)
    cases e30
    exact kx11_1 H19 L20 ls21 hP22 hS23 (lv_sub hl24 [3] rfl)
  · have hf29 := ifn hf25 h27
    refine lv_aload_n hx hb d_M_rank_20 rfl (lv_at hl24 0 rfl) ?_
    refine va_get (D := D) (ci := 6) (v := .ref (am 9)) (C := R_M) (T := F_M) (N := 24) hx hb hts (fun w h => List.mem_cons_of_mem _ (uw_M w h)) hown hK hP22 0 rfl rfl 12 (by decide) (hts _ (List.mem_cons_of_mem _ tb_612)) (fun _ h => h) rfl d_M_rank_21 ?_
    refine lv_iload hx hb d_M_rank_24 (lv_at hl24 4 rfl) ?_
    obtain ⟨hg31, hf32⟩ := grd_ex hf29
    refine va_lald hx hb hK hP22 9 3 rfl rfl (inB_in hg31) d_M_rank_26 ?_
    refine lv_lconst (v := 0) hx hb d_M_rank_27 (by decide) ?_
    refine W.lcmp hx hb d_M_rank_28 ?_
    refine lv_if_le (tgt := 77) hx hb d_M_rank_29 rfl (fun h33 => ?_) (fun h33 => ?_)
    · have hf34 := ifp hf32 h33
      obtain ⟨x36, e37, hf38⟩ := bnd_ex hf34
      refine lv_iinc hx hb d_M_rank_77 hl24 (k := 4) rfl (v := x36) (by rw [e37]; rfl) (by decide) (lv' := [(6, .int x36), (0, .ref (am 0)), (2, .int p1), (3, .int p2), (4, .long y17)]) rfl (fun ls39 hl40 => ?_)
      refine lv_goto (tgt := 11) hx hb d_M_rank_80 rfl ?_
      cases hf38
      exact hc13 rfl H19 L20 ls39 hP22 hS23 (lv_sub hl40 [1, 2, 3, 4, 0] rfl)
    · have hf35 := ifn hf32 h33
      refine lv_iload hx hb d_M_rank_32 (lv_at hl24 4 rfl) ?_
      obtain ⟨x41, hc42, hf43⟩ := ob1_ex hf35
      refine jd_ci (va_runS (As := [.int x18]) (rest := []) cx (cm_M_bits l D ca (wM ca am I1 J2) (I0 := I1) (J0 := J2) hc42 H19.size) (va_cwS 1 hts (jd_gS2 tb_715 tb_716 tb_47 tb_717) rfl rfl rfl ⟨by decide, by decide, rfl⟩ (by rw [hR]; decide)) ⟨jd_blind nWc, (jd_pre (av := [.int x18]) hP22 hK (hD I1 J2) (fun U h => nWm h hN))⟩ rfl rfl hl24.1 rfl (lv_room (Nat.le_of_ble_eq_true rfl)) d_M_rank_34 ⟨Nat.zero_le _, Nat.zero_le _⟩) hS23 (hD I1 J2) hA (fun H44 L45 hP46 hS47 => ?_)
      refine lv_iload_n hx hb d_M_rank_37 rfl (lv_at hl24 2 rfl) ?_
      refine lv_iconst (v := 1) hx hb d_M_rank_38 (by decide) ?_
      refine lv_isub hx hb d_M_rank_39 ?_
      refine lv_icmp_ne (tgt := 77) hx hb d_M_rank_40 rfl (fun h48 => ?_) (fun h48 => ?_)
      · have hf49 := ifn hf43 h48
        obtain ⟨x51, e52, hf53⟩ := bnd_ex hf49
        refine lv_iinc hx hb d_M_rank_77 hl24 (k := 4) rfl (v := x51) (by rw [e52]; rfl) (by decide) (lv' := [(6, .int x51), (0, .ref (am 0)), (2, .int p1), (3, .int p2), (4, .long y17)]) rfl (fun ls54 hl55 => ?_)
        refine lv_goto (tgt := 11) hx hb d_M_rank_80 rfl ?_
        cases hf53
        exact hc13 rfl H44 L45 ls54 hP46 hS47 (lv_sub hl55 [1, 2, 3, 4, 0] rfl)
      · have hf50 := ifp hf43 h48
        refine lv_aload_n hx hb d_M_rank_43 rfl (lv_at hl24 0 rfl) ?_
        refine lv_iload hx hb d_M_rank_44 (lv_at hl24 4 rfl) ?_
        refine lv_iload_n hx hb d_M_rank_46 rfl (lv_at hl24 1 rfl) ?_
        obtain ⟨x56, hc57, hf58⟩ := ob1_ex hf50
        refine jd_ci (va_runV (As := [.int x18, .int p1]) (rest := []) cx (cm_M_mayCome l D ca am hc57 H44.size) (cwV 2 hts (jd_gV tb_734 tb_735 tb_32 tb_47 tb_736) rfl rfl rfl ⟨rfl, by decide, by decide, rfl⟩ (by rw [hR]; decide)) ⟨jd_blind nWc, (va_recv hK hP46 (ci := 6) (q0 := 0) rfl rfl), (jd_pre (av := [.ref (am 0), .int x18, .int p1]) hP46 hK (hD I1 J2) (fun U h => nWm h hN))⟩ rfl rfl hl24.1 rfl (lv_room (Nat.le_of_ble_eq_true rfl)) d_M_rank_47 ⟨Nat.zero_le _, Nat.zero_le _⟩) hS47 (hD I1 J2) hA (fun H59 L60 hP61 hS62 => ?_)
        refine lv_if_eq (tgt := 77) hx hb d_M_rank_50 rfl (fun h63 => ?_) (fun h63 => ?_)
        · have hf64 := ifp hf58 h63
          obtain ⟨x66, e67, hf68⟩ := bnd_ex hf64
          refine lv_iinc hx hb d_M_rank_77 hl24 (k := 4) rfl (v := x66) (by rw [e67]; rfl) (by decide) (lv' := [(6, .int x66), (0, .ref (am 0)), (2, .int p1), (3, .int p2), (4, .long y17)]) rfl (fun ls69 hl70 => ?_)
          refine lv_goto (tgt := 11) hx hb d_M_rank_80 rfl ?_
          cases hf68
          exact hc13 rfl H59 L60 ls69 hP61 hS62 (lv_sub hl70 [1, 2, 3, 4, 0] rfl)
        · have hf65 := ifn hf58 h63
          refine lv_lload hx hb d_M_rank_53 (lv_at hl24 3 rfl) ?_
          refine lv_aload_n hx hb d_M_rank_55 rfl (lv_at hl24 0 rfl) ?_
          refine va_get (D := D) (ci := 6) (v := .ref (am 9)) (C := R_M) (T := F_M) (N := 24) hx hb hts (fun w h => List.mem_cons_of_mem _ (uw_M w h)) hown hK hP61 0 rfl rfl 12 (by decide) (hts _ (List.mem_cons_of_mem _ tb_612)) (fun _ h => h) rfl d_M_rank_56 ?_
          refine lv_iload hx hb d_M_rank_59 (lv_at hl24 4 rfl) ?_
          obtain ⟨hg71, hf72⟩ := grd_ex hf65
          refine va_lald hx hb hK hP61 9 3 rfl rfl (inB_in hg71) d_M_rank_61 ?_
          refine lv_aload_n hx hb d_M_rank_62 rfl (lv_at hl24 0 rfl) ?_
          refine va_get (D := D) (ci := 6) (v := .ref (am 10)) (C := R_M) (T := F_M) (N := 24) hx hb hts (fun w h => List.mem_cons_of_mem _ (uw_M w h)) hown hK hP61 0 rfl rfl 13 (by decide) (hts _ (List.mem_cons_of_mem _ tb_613)) (fun _ h => h) rfl d_M_rank_63 ?_
          refine lv_iload hx hb d_M_rank_66 (lv_at hl24 4 rfl) ?_
          refine lv_iconst (v := 1) hx hb d_M_rank_68 (by decide) ?_
          refine lv_iload_n hx hb d_M_rank_69 rfl (lv_at hl24 1 rfl) ?_
          refine lv_ishl hx hb d_M_rank_70 ?_
          refine lv_ior hx hb d_M_rank_71 ?_
          obtain ⟨hg73, hf74⟩ := grd_ex hf72
          refine va_lald hx hb hK hP61 10 3 rfl rfl (inB_in hg73) d_M_rank_72 ?_
          refine lv_lmul hx hb d_M_rank_73 ?_
          refine lv_ladd hx hb d_M_rank_74 ?_
          obtain ⟨y75, e76, hf77⟩ := bnd_ex hf74
          refine jd_tnl e76 ?_
          refine lv_lstore hx hb d_M_rank_75 hl24 (by decide) (lv' := [(4, .long y75), (0, .ref (am 0)), (2, .int p1), (3, .int p2), (6, .int x18)]) rfl (fun ls78 hl79 => ?_)
          obtain ⟨x80, e81, hf82⟩ := bnd_ex hf77
          refine lv_iinc hx hb d_M_rank_77 hl79 (k := 4) rfl (v := x80) (by rw [e81]; rfl) (by decide) (lv' := [(6, .int x80), (4, .long y75), (0, .ref (am 0)), (2, .int p1), (3, .int p2)]) rfl (fun ls83 hl84 => ?_)
          refine lv_goto (tgt := 11) hx hb d_M_rank_80 rfl ?_
          cases hf82
          exact hc13 rfl H59 L60 ls83 hP61 hS62 (lv_sub hl84 [2, 3, 4, 1, 0] rfl)
