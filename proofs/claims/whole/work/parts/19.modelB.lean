def S_X6_isAcross (p2 : Int32) (p3 : Int32) (p1 : Nat → Int32) : Option Int32 := itr (fun (x1 : Int32 × Int32) => if p3 ≤ x1.2 then if (x1.1 - x1.1 / (2 : Int32) * (2 : Int32)) = 0 then some (.inr (1 : Int32)) else some (.inr (0 : Int32)) else ck (inb (((6 : Int32) * (p2 - (1 : Int32))) + x1.2) 36) ((some (x1.1 + (p1 (((6 : Int32) * (p2 - (1 : Int32))) + x1.2).toNatClampNeg))).bind (fun (z_26 : Int32) => some (.inl (z_26, x1.2 + (1 : Int32)))))) 10000 (p2 + p3, (0 : Int32))
theorem kd_X6_isAcross : yX6_isAcross.cls ≠ "java/lang/invoke/MethodHandle" ∧ yX6_isAcross.cls ≠ "java/lang/invoke/VarHandle" ∧ (parseMethodDescriptor yX6_isAcross.desc).map (fun d => d.parameters.length) = some 3 := by decide +kernel
set_option maxHeartbeats 4000000 in
set_option maxRecDepth 100000 in
theorem c_X6_isAcross {l : Launch} {G : kG} {p2 : Int32} {p3 : Int32} {q_p1 : Nat} {p1 : Nat → Int32} {res : Int32} (hE : S_X6_isAcross p2 p3 p1 = some res) : Met l yX6_isAcross wsX6_isAcross ({ frames := 0, cells := 0, slots := 0, locals := 0 }) (va_Pc [.ref q_p1, .int p2, .int p3] (fun U => va_P G.1 vwCl [aI (G.2 1) q_p1 36 p1] U.heap ∧ kw G U)) (vp_Si (fun r => r = res)) 0 0 (fun _ => False) := by
  refine Met.ofQ (cc := cX6_isAcross) (maxL := 5) (ret := (some .boolean)) (by decide) rfl ?_
  intro p e s m args below meth c s₁ Q hQ B hml hv
  obtain ⟨rfl, hP, hKW⟩ := hv
  have hK := hKW.1
  have hx := B.exec
  have hb := B.bytes
  have hr := B.returns
  have hts := atoms_spec (ws := wsX6_isAcross) B.pre
  have hown : s.vm.findClass RX6 = some m.cls := findClass_of_methodNamed B.named
  have hlocks := B.notSynchronized
  have hl := lv_entry ([.ref q_p1, .int p2, .int p3]) (n := 5) (Nat.le_of_ble_eq_true rfl)
  rw [lg_entry_eq]
  generalize (lg_sl ([.ref q_p1, .int p2, .int p3]) ++ List.replicate (5 - (lg_sl ([.ref q_p1, .int p2, .int p3])).length) Slot.unset).toArray = ls at hl ⊢
  have hl : lv_has ls 5 [(0, .ref q_p1), (1, .int p2), (2, .int p3)] := hl
  unfold S_X6_isAcross at hE
  refine lv_iload_n hx hb dX6_isAcross_0 rfl (lv_at hl 1 rfl) ?_
  refine lv_iload_n hx hb dX6_isAcross_1 rfl (lv_at hl 2 rfl) ?_
  refine lv_iadd hx hb dX6_isAcross_2 ?_
  refine lv_istore_n (lv' := [(3, .int (p2 + p3)), (0, .ref q_p1), (1, .int p2), (2, .int p3)]) hx hb dX6_isAcross_3 rfl hl (by decide) rfl (fun ls hl => ?_)
  refine lv_iconst (v := 0) hx hb dX6_isAcross_4 (by decide) ?_
  refine lv_istore (lv' := [(4, .int (0 : Int32)), (3, .int (p2 + p3)), (0, .ref q_p1), (1, .int p2), (2, .int p3)]) hx hb dX6_isAcross_5 hl (by decide) rfl (fun ls hl => ?_)
  refine itr_ind (fun (x1 : Int32 × Int32) => ∀ (ls : Array Slot), lv_has ls 5 [(0, .ref q_p1), (1, .int p2), (2, .int p3), (3, .int x1.1), (4, .int x1.2)] → W p l e (headSpec wsX6_isAcross ({ frames := 0, cells := 0, slots := 0, locals := 0 })).room s m ([.ref q_p1, .int p2, .int p3] : List Value).toArray below meth c s.heap [] 0 0 Q (F0 m 7 ls [])) (fun x1 o_1 hE ih_1 hr_1 => ?_) _ _ hE ls (lv_sub hl [2, 3, 4, 1, 0] rfl)
  obtain ⟨v3_1, v4_1⟩ := x1
  try dsimp only at hE
  intro ls hl
  try dsimp only at hl ⊢
  refine lv_iload hx hb dX6_isAcross_7 (lv_at hl 4 rfl) ?_
  refine lv_iload_n hx hb dX6_isAcross_9 rfl (lv_at hl 2 rfl) ?_
  refine lv_icmp_ge (tgt := 33) hx hb dX6_isAcross_10 (by decide) (fun c_10 => ?_) (fun c_10 => ?_)
  · replace hE := (if_pos c_10).symm.trans hE
    refine lv_iload_n hx hb dX6_isAcross_33 rfl (lv_at hl 3 rfl) ?_
    refine lv_iconst (v := 2) hx hb dX6_isAcross_34 (by decide) ?_
    refine lv_irem hx hb dX6_isAcross_35 (by decide) ?_
    refine lv_if_ne (tgt := 43) hx hb dX6_isAcross_36 (by decide) (fun c_36 => ?_) (fun c_36 => ?_)
    · replace hE := (if_neg c_36).symm.trans hE
      refine lv_iconst (v := 0) hx hb dX6_isAcross_43 (by decide) ?_
      have e_1 := Option.some.inj hE
      have e_0 := hr_1 _ e_1.symm
      rw [hQ]
      exact W.zret (v := (0 : Int32)) hx hb hr rfl (fun t ht _ => ⟨_, rfl, e_0, ht⟩) (fun q h => by cases h) dX6_isAcross_44
    · replace hE := (if_pos c_36).symm.trans hE
      refine lv_iconst (v := 1) hx hb dX6_isAcross_39 (by decide) ?_
      refine lv_goto (tgt := 44) hx hb dX6_isAcross_40 (by decide) ?_
      have e_1 := Option.some.inj hE
      have e_0 := hr_1 _ e_1.symm
      rw [hQ]
      exact W.zret (v := (1 : Int32)) hx hb hr rfl (fun t ht _ => ⟨_, rfl, e_0, ht⟩) (fun q h => by cases h) dX6_isAcross_44
  · replace hE := (if_neg c_10).symm.trans hE
    refine lv_iload_n hx hb dX6_isAcross_13 rfl (lv_at hl 3 rfl) ?_
    refine lv_aload_n hx hb dX6_isAcross_14 rfl (lv_at hl 0 rfl) ?_
    refine lv_bipush (v := 6) hx hb dX6_isAcross_15 (by decide) ?_
    refine lv_iload_n hx hb dX6_isAcross_17 rfl (lv_at hl 1 rfl) ?_
    refine lv_iconst (v := 1) hx hb dX6_isAcross_18 (by decide) ?_
    refine lv_isub hx hb dX6_isAcross_19 ?_
    refine lv_imul hx hb dX6_isAcross_20 ?_
    refine lv_iload hx hb dX6_isAcross_21 (lv_at hl 4 rfl) ?_
    refine lv_iadd hx hb dX6_isAcross_23 ?_
    obtain ⟨hi_24, hE⟩ := ck_some hE
    refine va_iald hx hb hK hP 0 1 rfl rfl (inb_in hi_24) dX6_isAcross_24 ?_
    refine lv_iadd hx hb dX6_isAcross_25 ?_
    refine lv_topi (fun z_26 ez9 => ?_)
    rw [← ez9] at hE
    replace hE := bs_some hE
    try dsimp only at hE
    clear ez9
    refine lv_istore_n (lv' := [(3, .int z_26), (0, .ref q_p1), (1, .int p2), (2, .int p3), (4, .int v4_1)]) hx hb dX6_isAcross_26 rfl hl (by decide) rfl (fun ls hl => ?_)
    refine lv_iinc (v := v4_1 + (1 : Int32)) (lv' := [(4, .int (v4_1 + (1 : Int32))), (3, .int z_26), (0, .ref q_p1), (1, .int p2), (2, .int p3)]) hx hb dX6_isAcross_27 hl (k := 4) rfl rfl (by decide) rfl (fun ls hl => ?_)
    refine lv_goto (tgt := 7) hx hb dX6_isAcross_30 (by decide) ?_
    have e_1 := Option.some.inj hE
    exact ih_1 _ e_1.symm ls (lv_sub hl [2, 3, 4, 1, 0] rfl)
def S_X6_isDown (p2 : Int32) (p3 : Int32) (p1 : Nat → Int32) : Option Int32 := itr (fun (x1 : Int32 × Int32) => if p2 ≤ x1.2 then if (x1.1 - x1.1 / (2 : Int32) * (2 : Int32)) = 0 then some (.inr (0 : Int32)) else some (.inr (1 : Int32)) else ck (inb ((((6 : Int32) * x1.2) + p3) - (1 : Int32)) 36) ((some (x1.1 + (p1 ((((6 : Int32) * x1.2) + p3) - (1 : Int32)).toNatClampNeg))).bind (fun (z_26 : Int32) => some (.inl (z_26, x1.2 + (1 : Int32)))))) 10000 (p2 + p3, (0 : Int32))
theorem kd_X6_isDown : yX6_isDown.cls ≠ "java/lang/invoke/MethodHandle" ∧ yX6_isDown.cls ≠ "java/lang/invoke/VarHandle" ∧ (parseMethodDescriptor yX6_isDown.desc).map (fun d => d.parameters.length) = some 3 := by decide +kernel
set_option maxHeartbeats 4000000 in
set_option maxRecDepth 100000 in
theorem c_X6_isDown {l : Launch} {G : kG} {p2 : Int32} {p3 : Int32} {q_p1 : Nat} {p1 : Nat → Int32} {res : Int32} (hE : S_X6_isDown p2 p3 p1 = some res) : Met l yX6_isDown wsX6_isDown ({ frames := 0, cells := 0, slots := 0, locals := 0 }) (va_Pc [.ref q_p1, .int p2, .int p3] (fun U => va_P G.1 vwCl [aI (G.2 1) q_p1 36 p1] U.heap ∧ kw G U)) (vp_Si (fun r => r = res)) 0 0 (fun _ => False) := by
  refine Met.ofQ (cc := cX6_isDown) (maxL := 5) (ret := (some .boolean)) (by decide) rfl ?_
  intro p e s m args below meth c s₁ Q hQ B hml hv
  obtain ⟨rfl, hP, hKW⟩ := hv
  have hK := hKW.1
  have hx := B.exec
  have hb := B.bytes
  have hr := B.returns
  have hts := atoms_spec (ws := wsX6_isDown) B.pre
  have hown : s.vm.findClass RX6 = some m.cls := findClass_of_methodNamed B.named
  have hlocks := B.notSynchronized
  have hl := lv_entry ([.ref q_p1, .int p2, .int p3]) (n := 5) (Nat.le_of_ble_eq_true rfl)
  rw [lg_entry_eq]
  generalize (lg_sl ([.ref q_p1, .int p2, .int p3]) ++ List.replicate (5 - (lg_sl ([.ref q_p1, .int p2, .int p3])).length) Slot.unset).toArray = ls at hl ⊢
  have hl : lv_has ls 5 [(0, .ref q_p1), (1, .int p2), (2, .int p3)] := hl
  unfold S_X6_isDown at hE
  refine lv_iload_n hx hb dX6_isDown_0 rfl (lv_at hl 1 rfl) ?_
  refine lv_iload_n hx hb dX6_isDown_1 rfl (lv_at hl 2 rfl) ?_
  refine lv_iadd hx hb dX6_isDown_2 ?_
  refine lv_istore_n (lv' := [(3, .int (p2 + p3)), (0, .ref q_p1), (1, .int p2), (2, .int p3)]) hx hb dX6_isDown_3 rfl hl (by decide) rfl (fun ls hl => ?_)
  refine lv_iconst (v := 0) hx hb dX6_isDown_4 (by decide) ?_
  refine lv_istore (lv' := [(4, .int (0 : Int32)), (3, .int (p2 + p3)), (0, .ref q_p1), (1, .int p2), (2, .int p3)]) hx hb dX6_isDown_5 hl (by decide) rfl (fun ls hl => ?_)
  refine itr_ind (fun (x1 : Int32 × Int32) => ∀ (ls : Array Slot), lv_has ls 5 [(0, .ref q_p1), (1, .int p2), (2, .int p3), (3, .int x1.1), (4, .int x1.2)] → W p l e (headSpec wsX6_isDown ({ frames := 0, cells := 0, slots := 0, locals := 0 })).room s m ([.ref q_p1, .int p2, .int p3] : List Value).toArray below meth c s.heap [] 0 0 Q (F0 m 7 ls [])) (fun x1 o_1 hE ih_1 hr_1 => ?_) _ _ hE ls (lv_sub hl [2, 3, 4, 1, 0] rfl)
  obtain ⟨v3_1, v4_1⟩ := x1
  try dsimp only at hE
  intro ls hl
  try dsimp only at hl ⊢
  refine lv_iload hx hb dX6_isDown_7 (lv_at hl 4 rfl) ?_
  refine lv_iload_n hx hb dX6_isDown_9 rfl (lv_at hl 1 rfl) ?_
  refine lv_icmp_ge (tgt := 33) hx hb dX6_isDown_10 (by decide) (fun c_10 => ?_) (fun c_10 => ?_)
  · replace hE := (if_pos c_10).symm.trans hE
    refine lv_iload_n hx hb dX6_isDown_33 rfl (lv_at hl 3 rfl) ?_
    refine lv_iconst (v := 2) hx hb dX6_isDown_34 (by decide) ?_
    refine lv_irem hx hb dX6_isDown_35 (by decide) ?_
    refine lv_if_eq (tgt := 43) hx hb dX6_isDown_36 (by decide) (fun c_36 => ?_) (fun c_36 => ?_)
    · replace hE := (if_pos c_36).symm.trans hE
      refine lv_iconst (v := 0) hx hb dX6_isDown_43 (by decide) ?_
      have e_1 := Option.some.inj hE
      have e_0 := hr_1 _ e_1.symm
      rw [hQ]
      exact W.zret (v := (0 : Int32)) hx hb hr rfl (fun t ht _ => ⟨_, rfl, e_0, ht⟩) (fun q h => by cases h) dX6_isDown_44
    · replace hE := (if_neg c_36).symm.trans hE
      refine lv_iconst (v := 1) hx hb dX6_isDown_39 (by decide) ?_
      refine lv_goto (tgt := 44) hx hb dX6_isDown_40 (by decide) ?_
      have e_1 := Option.some.inj hE
      have e_0 := hr_1 _ e_1.symm
      rw [hQ]
      exact W.zret (v := (1 : Int32)) hx hb hr rfl (fun t ht _ => ⟨_, rfl, e_0, ht⟩) (fun q h => by cases h) dX6_isDown_44
  · replace hE := (if_neg c_10).symm.trans hE
    refine lv_iload_n hx hb dX6_isDown_13 rfl (lv_at hl 3 rfl) ?_
    refine lv_aload_n hx hb dX6_isDown_14 rfl (lv_at hl 0 rfl) ?_
    refine lv_bipush (v := 6) hx hb dX6_isDown_15 (by decide) ?_
    refine lv_iload hx hb dX6_isDown_17 (lv_at hl 4 rfl) ?_
    refine lv_imul hx hb dX6_isDown_19 ?_
    refine lv_iload_n hx hb dX6_isDown_20 rfl (lv_at hl 2 rfl) ?_
    refine lv_iadd hx hb dX6_isDown_21 ?_
    refine lv_iconst (v := 1) hx hb dX6_isDown_22 (by decide) ?_
    refine lv_isub hx hb dX6_isDown_23 ?_
    obtain ⟨hi_24, hE⟩ := ck_some hE
    refine va_iald hx hb hK hP 0 1 rfl rfl (inb_in hi_24) dX6_isDown_24 ?_
    refine lv_iadd hx hb dX6_isDown_25 ?_
    refine lv_topi (fun z_26 ez9 => ?_)
    rw [← ez9] at hE
    replace hE := bs_some hE
    try dsimp only at hE
    clear ez9
    refine lv_istore_n (lv' := [(3, .int z_26), (0, .ref q_p1), (1, .int p2), (2, .int p3), (4, .int v4_1)]) hx hb dX6_isDown_26 rfl hl (by decide) rfl (fun ls hl => ?_)
    refine lv_iinc (v := v4_1 + (1 : Int32)) (lv' := [(4, .int (v4_1 + (1 : Int32))), (3, .int z_26), (0, .ref q_p1), (1, .int p2), (2, .int p3)]) hx hb dX6_isDown_27 hl (k := 4) rfl rfl (by decide) rfl (fun ls hl => ?_)
    refine lv_goto (tgt := 7) hx hb dX6_isDown_30 (by decide) ?_
    have e_1 := Option.some.inj hE
    exact ih_1 _ e_1.symm ls (lv_sub hl [2, 3, 4, 1, 0] rfl)
def S_X6_across (p1 : Int32) (p2 : Int32) (t_size : Int32) (t_sign : Nat → Int32) : Option Int32 := (S_X6_in p1.toInt64 (1 : Int64) t_size.toInt64).bind (fun (y8 : Int32) => if y8 = 0 then some (-1 : Int32) else (S_X6_in p2.toInt64 (0 : Int64) t_size.toInt64).bind (fun (y22 : Int32) => if y22 = 0 then some (-1 : Int32) else (S_X6_isAcross p1 p2 t_sign).bind (fun (y36 : Int32) => if y36 = 0 then some (0 : Int32) else some (1 : Int32))))
theorem kd_X6_across : yX6_across.cls = RX6 ∧ yX6_across.cls ≠ "java/lang/invoke/MethodHandle" ∧ yX6_across.cls ≠ "java/lang/invoke/VarHandle" ∧ (parseMethodDescriptor yX6_across.desc).map (fun d => d.parameters.length) = some 2 := by decide +kernel
set_option maxHeartbeats 4000000 in
set_option maxRecDepth 100000 in
theorem c_X6_across {l : Launch} {G : kG} {p1 : Int32} {p2 : Int32} {q_t : Nat} {t_length : Int32} {q_t_text : Nat} {t_size : Int32} {q_t_sign : Nat} {t_otherSize : Int32} {q_t_other : Nat} {q_t_before : Nat} {t_undoMany : Int32} {t_readSize : Int32} {q_t_read : Nat} {q_t_side : Nat} {q_t_tall : Nat} {q_t_endRow : Nat} {q_t_endColumn : Nat} {q_t_endSide : Nat} {q_t_gone : Nat} {t_lineRow : Int32} {t_lineColumn : Int32} {t_lineSide : Int32} {t_lineMany : Int32} {q_t_ways : Nat} {q_t_codes : Nat} {q_t_many : Nat} {t_sign : Nat → Int32} {res : Int32} (hE : S_X6_across p1 p2 t_size t_sign = some res) : Met l yX6_across wsX6_across ({ frames := 1, cells := 0, slots := 0, locals := 25 }) (va_Pc [.ref q_t, .int p1, .int p2] (fun U => va_P G.1 vwCl [oX6 q_t t_length q_t_text t_size q_t_sign t_otherSize q_t_other q_t_before t_undoMany t_readSize q_t_read q_t_side q_t_tall q_t_endRow q_t_endColumn q_t_endSide q_t_gone t_lineRow t_lineColumn t_lineSide t_lineMany q_t_ways q_t_codes q_t_many, aI (G.2 1) q_t_sign 36 t_sign] U.heap ∧ kw G U)) (vp_Si (fun r => r = res)) 0 0 (fun _ => False) := by
  refine Met.ofQ (cc := cX6_across) (maxL := 3) (ret := (some .int)) (by decide) rfl ?_
  intro p e s m args below meth c s₁ Q hQ B hml hv
  obtain ⟨rfl, hP, hKW⟩ := hv
  have hK := hKW.1
  have hx := B.exec
  have hb := B.bytes
  have hr := B.returns
  have hts := atoms_spec (ws := wsX6_across) B.pre
  have hown : s.vm.findClass RX6 = some m.cls := findClass_of_methodNamed B.named
  have hlocks := B.notSynchronized
  have iX6 : ∀ w ∈ u_ws RX6 TX6 23, w ∈ wsX6_across := by decide +kernel
  have fl_54 := hts (.fieldLink RX6 54 "AlternateSignsModel" "size" "I") (by decide +kernel)
  have fl_13 := hts (.fieldLink RX6 13 "AlternateSignsModel" "sign" "[I") (by decide +kernel)
  have hl := lv_entry ([.ref q_t, .int p1, .int p2]) (n := 3) (Nat.le_of_ble_eq_true rfl)
  rw [lg_entry_eq]
  generalize (lg_sl ([.ref q_t, .int p1, .int p2]) ++ List.replicate (3 - (lg_sl ([.ref q_t, .int p1, .int p2])).length) Slot.unset).toArray = ls at hl ⊢
  have hl : lv_has ls 3 [(0, .ref q_t), (1, .int p1), (2, .int p2)] := hl
  unfold S_X6_across at hE
  refine lv_iload_n hx hb dX6_across_0 rfl (lv_at hl 1 rfl) ?_
  refine lv_i2l (v := p1.toInt64) hx hb dX6_across_1 rfl ?_
  refine lv_lconst (v := 1) hx hb dX6_across_2 (by decide) ?_
  refine lv_aload_n hx hb dX6_across_3 rfl (lv_at hl 0 rfl) ?_
  refine va_get (D := G.1) (ci := 6) (v := .int t_size) (C := RX6) (T := TX6) (N := 23) hx hb hts iX6 hown hK hP 0 rfl rfl 2 (by decide) fl_54 (fun _ h9 => h9) rfl dX6_across_4 ?_
  refine lv_i2l (v := t_size.toInt64) hx hb dX6_across_7 rfl ?_
  obtain ⟨y8, hC_8, hE⟩ := Option.bind_eq_some_iff.mp hE
  obtain ⟨r_8, ex9⟩ : ∃ z, z = y8 := ⟨_, rfl⟩
  subst ex9
  try dsimp only at hE
  refine vp_callSi (va_Run.run (va_runS (As := [.long p1.toInt64, .long (1 : Int64), .long t_size.toInt64]) (rest := []) ⟨hx, hb, hml, hown, hts⟩ (c_X6_in (l := l) (G := G) (p1 := p1.toInt64) (p2 := (1 : Int64)) (p3 := t_size.toInt64) hC_8) (va_cwS 3 hts gX6_across_X6_in rfl rfl rfl kd_X6_in ⟨Nat.le_of_ble_eq_true rfl, Nat.le_of_ble_eq_true rfl⟩) (pv_S hKW (hP.sub (ws' := []) [] rfl)) rfl rfl hl.1 rfl (lv_room (Nat.le_of_ble_eq_true rfl)) dX6_across_8 ⟨Nat.zero_le _, Nat.zero_le _⟩)) (fun r9 hr9 => ?_)
  subst r9
  refine lv_if_eq (tgt := 28) hx hb dX6_across_11 (by decide) (fun c_11 => ?_) (fun c_11 => ?_)
  · replace hE := (if_pos c_11).symm.trans hE
    refine lv_iconst (v := -1) hx hb dX6_across_28 (by decide) ?_
    have e_0 := Option.some.inj hE
    rw [hQ]
    exact W.iret (v := (-1 : Int32)) hx hb hr (fun t ht _ => ⟨_, rfl, e_0, ht⟩) (fun q h => by cases h) dX6_across_29
  · replace hE := (if_neg c_11).symm.trans hE
    refine lv_iload_n hx hb dX6_across_14 rfl (lv_at hl 2 rfl) ?_
    refine lv_i2l (v := p2.toInt64) hx hb dX6_across_15 rfl ?_
    refine lv_lconst (v := 0) hx hb dX6_across_16 (by decide) ?_
    refine lv_aload_n hx hb dX6_across_17 rfl (lv_at hl 0 rfl) ?_
    refine va_get (D := G.1) (ci := 6) (v := .int t_size) (C := RX6) (T := TX6) (N := 23) hx hb hts iX6 hown hK hP 0 rfl rfl 2 (by decide) fl_54 (fun _ h9 => h9) rfl dX6_across_18 ?_
    refine lv_i2l (v := t_size.toInt64) hx hb dX6_across_21 rfl ?_
    obtain ⟨y22, hC_22, hE⟩ := Option.bind_eq_some_iff.mp hE
    obtain ⟨r_22, ex9⟩ : ∃ z, z = y22 := ⟨_, rfl⟩
    subst ex9
    try dsimp only at hE
    refine vp_callSi (va_Run.run (va_runS (As := [.long p2.toInt64, .long (0 : Int64), .long t_size.toInt64]) (rest := []) ⟨hx, hb, hml, hown, hts⟩ (c_X6_in (l := l) (G := G) (p1 := p2.toInt64) (p2 := (0 : Int64)) (p3 := t_size.toInt64) hC_22) (va_cwS 3 hts gX6_across_X6_in rfl rfl rfl kd_X6_in ⟨Nat.le_of_ble_eq_true rfl, Nat.le_of_ble_eq_true rfl⟩) (pv_S hKW (hP.sub (ws' := []) [] rfl)) rfl rfl hl.1 rfl (lv_room (Nat.le_of_ble_eq_true rfl)) dX6_across_22 ⟨Nat.zero_le _, Nat.zero_le _⟩)) (fun r9 hr9 => ?_)
    subst r9
    refine lv_if_ne (tgt := 30) hx hb dX6_across_25 (by decide) (fun c_25 => ?_) (fun c_25 => ?_)
    · replace hE := (if_neg c_25).symm.trans hE
      refine lv_aload_n hx hb dX6_across_30 rfl (lv_at hl 0 rfl) ?_
      refine va_get (D := G.1) (ci := 6) (v := .ref q_t_sign) (C := RX6) (T := TX6) (N := 23) hx hb hts iX6 hown hK hP 0 rfl rfl 3 (by decide) fl_13 (fun _ h9 => h9) rfl dX6_across_31 ?_
      refine lv_iload_n hx hb dX6_across_34 rfl (lv_at hl 1 rfl) ?_
      refine lv_iload_n hx hb dX6_across_35 rfl (lv_at hl 2 rfl) ?_
      obtain ⟨y36, hC_36, hE⟩ := Option.bind_eq_some_iff.mp hE
      obtain ⟨r_36, ex9⟩ : ∃ z, z = y36 := ⟨_, rfl⟩
      subst ex9
      try dsimp only at hE
      refine vp_callSi (va_Run.run (va_runS (As := [.ref q_t_sign, .int p1, .int p2]) (rest := []) ⟨hx, hb, hml, hown, hts⟩ (c_X6_isAcross (l := l) (G := G) (p2 := p1) (p3 := p2) (q_p1 := q_t_sign) (p1 := t_sign) hC_36) (va_cwS 3 hts gX6_across_X6_isAcross rfl rfl rfl kd_X6_isAcross ⟨Nat.le_of_ble_eq_true rfl, Nat.le_of_ble_eq_true rfl⟩) (pv_S hKW (hP.sub (ws' := [aI (G.2 1) q_t_sign 36 t_sign]) [1] rfl)) rfl rfl hl.1 rfl (lv_room (Nat.le_of_ble_eq_true rfl)) dX6_across_36 ⟨Nat.zero_le _, Nat.zero_le _⟩)) (fun r9 hr9 => ?_)
      subst r9
      refine lv_if_eq (tgt := 46) hx hb dX6_across_39 (by decide) (fun c_39 => ?_) (fun c_39 => ?_)
      · replace hE := (if_pos c_39).symm.trans hE
        refine lv_iconst (v := 0) hx hb dX6_across_46 (by decide) ?_
        have e_0 := Option.some.inj hE
        rw [hQ]
        exact W.iret (v := (0 : Int32)) hx hb hr (fun t ht _ => ⟨_, rfl, e_0, ht⟩) (fun q h => by cases h) dX6_across_47
      · replace hE := (if_neg c_39).symm.trans hE
        refine lv_iconst (v := 1) hx hb dX6_across_42 (by decide) ?_
        refine lv_goto (tgt := 47) hx hb dX6_across_43 (by decide) ?_
        have e_0 := Option.some.inj hE
        rw [hQ]
        exact W.iret (v := (1 : Int32)) hx hb hr (fun t ht _ => ⟨_, rfl, e_0, ht⟩) (fun q h => by cases h) dX6_across_47
    · replace hE := (if_pos c_25).symm.trans hE
      refine lv_iconst (v := -1) hx hb dX6_across_28 (by decide) ?_
      have e_0 := Option.some.inj hE
      rw [hQ]
      exact W.iret (v := (-1 : Int32)) hx hb hr (fun t ht _ => ⟨_, rfl, e_0, ht⟩) (fun q h => by cases h) dX6_across_29
def S_X6_down (p1 : Int32) (p2 : Int32) (t_size : Int32) (t_sign : Nat → Int32) : Option Int32 := (S_X6_in p1.toInt64 (0 : Int64) t_size.toInt64).bind (fun (y8 : Int32) => if y8 = 0 then some (-1 : Int32) else (S_X6_in p2.toInt64 (1 : Int64) t_size.toInt64).bind (fun (y22 : Int32) => if y22 = 0 then some (-1 : Int32) else (S_X6_isDown p1 p2 t_sign).bind (fun (y36 : Int32) => if y36 = 0 then some (0 : Int32) else some (1 : Int32))))
theorem kd_X6_down : yX6_down.cls = RX6 ∧ yX6_down.cls ≠ "java/lang/invoke/MethodHandle" ∧ yX6_down.cls ≠ "java/lang/invoke/VarHandle" ∧ (parseMethodDescriptor yX6_down.desc).map (fun d => d.parameters.length) = some 2 := by decide +kernel
set_option maxHeartbeats 4000000 in
set_option maxRecDepth 100000 in
theorem c_X6_down {l : Launch} {G : kG} {p1 : Int32} {p2 : Int32} {q_t : Nat} {t_length : Int32} {q_t_text : Nat} {t_size : Int32} {q_t_sign : Nat} {t_otherSize : Int32} {q_t_other : Nat} {q_t_before : Nat} {t_undoMany : Int32} {t_readSize : Int32} {q_t_read : Nat} {q_t_side : Nat} {q_t_tall : Nat} {q_t_endRow : Nat} {q_t_endColumn : Nat} {q_t_endSide : Nat} {q_t_gone : Nat} {t_lineRow : Int32} {t_lineColumn : Int32} {t_lineSide : Int32} {t_lineMany : Int32} {q_t_ways : Nat} {q_t_codes : Nat} {q_t_many : Nat} {t_sign : Nat → Int32} {res : Int32} (hE : S_X6_down p1 p2 t_size t_sign = some res) : Met l yX6_down wsX6_down ({ frames := 1, cells := 0, slots := 0, locals := 25 }) (va_Pc [.ref q_t, .int p1, .int p2] (fun U => va_P G.1 vwCl [oX6 q_t t_length q_t_text t_size q_t_sign t_otherSize q_t_other q_t_before t_undoMany t_readSize q_t_read q_t_side q_t_tall q_t_endRow q_t_endColumn q_t_endSide q_t_gone t_lineRow t_lineColumn t_lineSide t_lineMany q_t_ways q_t_codes q_t_many, aI (G.2 1) q_t_sign 36 t_sign] U.heap ∧ kw G U)) (vp_Si (fun r => r = res)) 0 0 (fun _ => False) := by
  refine Met.ofQ (cc := cX6_down) (maxL := 3) (ret := (some .int)) (by decide) rfl ?_
  intro p e s m args below meth c s₁ Q hQ B hml hv
  obtain ⟨rfl, hP, hKW⟩ := hv
  have hK := hKW.1
  have hx := B.exec
  have hb := B.bytes
  have hr := B.returns
  have hts := atoms_spec (ws := wsX6_down) B.pre
  have hown : s.vm.findClass RX6 = some m.cls := findClass_of_methodNamed B.named
  have hlocks := B.notSynchronized
  have iX6 : ∀ w ∈ u_ws RX6 TX6 23, w ∈ wsX6_down := by decide +kernel
  have fl_54 := hts (.fieldLink RX6 54 "AlternateSignsModel" "size" "I") (by decide +kernel)
  have fl_13 := hts (.fieldLink RX6 13 "AlternateSignsModel" "sign" "[I") (by decide +kernel)
  have hl := lv_entry ([.ref q_t, .int p1, .int p2]) (n := 3) (Nat.le_of_ble_eq_true rfl)
  rw [lg_entry_eq]
  generalize (lg_sl ([.ref q_t, .int p1, .int p2]) ++ List.replicate (3 - (lg_sl ([.ref q_t, .int p1, .int p2])).length) Slot.unset).toArray = ls at hl ⊢
  have hl : lv_has ls 3 [(0, .ref q_t), (1, .int p1), (2, .int p2)] := hl
  unfold S_X6_down at hE
  refine lv_iload_n hx hb dX6_down_0 rfl (lv_at hl 1 rfl) ?_
  refine lv_i2l (v := p1.toInt64) hx hb dX6_down_1 rfl ?_
  refine lv_lconst (v := 0) hx hb dX6_down_2 (by decide) ?_
  refine lv_aload_n hx hb dX6_down_3 rfl (lv_at hl 0 rfl) ?_
  refine va_get (D := G.1) (ci := 6) (v := .int t_size) (C := RX6) (T := TX6) (N := 23) hx hb hts iX6 hown hK hP 0 rfl rfl 2 (by decide) fl_54 (fun _ h9 => h9) rfl dX6_down_4 ?_
  refine lv_i2l (v := t_size.toInt64) hx hb dX6_down_7 rfl ?_
  obtain ⟨y8, hC_8, hE⟩ := Option.bind_eq_some_iff.mp hE
  obtain ⟨r_8, ex9⟩ : ∃ z, z = y8 := ⟨_, rfl⟩
  subst ex9
  try dsimp only at hE
  refine vp_callSi (va_Run.run (va_runS (As := [.long p1.toInt64, .long (0 : Int64), .long t_size.toInt64]) (rest := []) ⟨hx, hb, hml, hown, hts⟩ (c_X6_in (l := l) (G := G) (p1 := p1.toInt64) (p2 := (0 : Int64)) (p3 := t_size.toInt64) hC_8) (va_cwS 3 hts gX6_down_X6_in rfl rfl rfl kd_X6_in ⟨Nat.le_of_ble_eq_true rfl, Nat.le_of_ble_eq_true rfl⟩) (pv_S hKW (hP.sub (ws' := []) [] rfl)) rfl rfl hl.1 rfl (lv_room (Nat.le_of_ble_eq_true rfl)) dX6_down_8 ⟨Nat.zero_le _, Nat.zero_le _⟩)) (fun r9 hr9 => ?_)
  subst r9
  refine lv_if_eq (tgt := 28) hx hb dX6_down_11 (by decide) (fun c_11 => ?_) (fun c_11 => ?_)
  · replace hE := (if_pos c_11).symm.trans hE
    refine lv_iconst (v := -1) hx hb dX6_down_28 (by decide) ?_
    have e_0 := Option.some.inj hE
    rw [hQ]
    exact W.iret (v := (-1 : Int32)) hx hb hr (fun t ht _ => ⟨_, rfl, e_0, ht⟩) (fun q h => by cases h) dX6_down_29
  · replace hE := (if_neg c_11).symm.trans hE
    refine lv_iload_n hx hb dX6_down_14 rfl (lv_at hl 2 rfl) ?_
    refine lv_i2l (v := p2.toInt64) hx hb dX6_down_15 rfl ?_
    refine lv_lconst (v := 1) hx hb dX6_down_16 (by decide) ?_
    refine lv_aload_n hx hb dX6_down_17 rfl (lv_at hl 0 rfl) ?_
    refine va_get (D := G.1) (ci := 6) (v := .int t_size) (C := RX6) (T := TX6) (N := 23) hx hb hts iX6 hown hK hP 0 rfl rfl 2 (by decide) fl_54 (fun _ h9 => h9) rfl dX6_down_18 ?_
    refine lv_i2l (v := t_size.toInt64) hx hb dX6_down_21 rfl ?_
    obtain ⟨y22, hC_22, hE⟩ := Option.bind_eq_some_iff.mp hE
    obtain ⟨r_22, ex9⟩ : ∃ z, z = y22 := ⟨_, rfl⟩
    subst ex9
    try dsimp only at hE
    refine vp_callSi (va_Run.run (va_runS (As := [.long p2.toInt64, .long (1 : Int64), .long t_size.toInt64]) (rest := []) ⟨hx, hb, hml, hown, hts⟩ (c_X6_in (l := l) (G := G) (p1 := p2.toInt64) (p2 := (1 : Int64)) (p3 := t_size.toInt64) hC_22) (va_cwS 3 hts gX6_down_X6_in rfl rfl rfl kd_X6_in ⟨Nat.le_of_ble_eq_true rfl, Nat.le_of_ble_eq_true rfl⟩) (pv_S hKW (hP.sub (ws' := []) [] rfl)) rfl rfl hl.1 rfl (lv_room (Nat.le_of_ble_eq_true rfl)) dX6_down_22 ⟨Nat.zero_le _, Nat.zero_le _⟩)) (fun r9 hr9 => ?_)
    subst r9
    refine lv_if_ne (tgt := 30) hx hb dX6_down_25 (by decide) (fun c_25 => ?_) (fun c_25 => ?_)
    · replace hE := (if_neg c_25).symm.trans hE
      refine lv_aload_n hx hb dX6_down_30 rfl (lv_at hl 0 rfl) ?_
      refine va_get (D := G.1) (ci := 6) (v := .ref q_t_sign) (C := RX6) (T := TX6) (N := 23) hx hb hts iX6 hown hK hP 0 rfl rfl 3 (by decide) fl_13 (fun _ h9 => h9) rfl dX6_down_31 ?_
      refine lv_iload_n hx hb dX6_down_34 rfl (lv_at hl 1 rfl) ?_
      refine lv_iload_n hx hb dX6_down_35 rfl (lv_at hl 2 rfl) ?_
      obtain ⟨y36, hC_36, hE⟩ := Option.bind_eq_some_iff.mp hE
      obtain ⟨r_36, ex9⟩ : ∃ z, z = y36 := ⟨_, rfl⟩
      subst ex9
      try dsimp only at hE
      refine vp_callSi (va_Run.run (va_runS (As := [.ref q_t_sign, .int p1, .int p2]) (rest := []) ⟨hx, hb, hml, hown, hts⟩ (c_X6_isDown (l := l) (G := G) (p2 := p1) (p3 := p2) (q_p1 := q_t_sign) (p1 := t_sign) hC_36) (va_cwS 3 hts gX6_down_X6_isDown rfl rfl rfl kd_X6_isDown ⟨Nat.le_of_ble_eq_true rfl, Nat.le_of_ble_eq_true rfl⟩) (pv_S hKW (hP.sub (ws' := [aI (G.2 1) q_t_sign 36 t_sign]) [1] rfl)) rfl rfl hl.1 rfl (lv_room (Nat.le_of_ble_eq_true rfl)) dX6_down_36 ⟨Nat.zero_le _, Nat.zero_le _⟩)) (fun r9 hr9 => ?_)
      subst r9
      refine lv_if_eq (tgt := 46) hx hb dX6_down_39 (by decide) (fun c_39 => ?_) (fun c_39 => ?_)
      · replace hE := (if_pos c_39).symm.trans hE
        refine lv_iconst (v := 0) hx hb dX6_down_46 (by decide) ?_
        have e_0 := Option.some.inj hE
        rw [hQ]
        exact W.iret (v := (0 : Int32)) hx hb hr (fun t ht _ => ⟨_, rfl, e_0, ht⟩) (fun q h => by cases h) dX6_down_47
      · replace hE := (if_neg c_39).symm.trans hE
        refine lv_iconst (v := 1) hx hb dX6_down_42 (by decide) ?_
        refine lv_goto (tgt := 47) hx hb dX6_down_43 (by decide) ?_
        have e_0 := Option.some.inj hE
        rw [hQ]
        exact W.iret (v := (1 : Int32)) hx hb hr (fun t ht _ => ⟨_, rfl, e_0, ht⟩) (fun q h => by cases h) dX6_down_47
    · replace hE := (if_pos c_25).symm.trans hE
      refine lv_iconst (v := -1) hx hb dX6_down_28 (by decide) ?_
      have e_0 := Option.some.inj hE
      rw [hQ]
      exact W.iret (v := (-1 : Int32)) hx hb hr (fun t ht _ => ⟨_, rfl, e_0, ht⟩) (fun q h => by cases h) dX6_down_29
def S_X6_isDrawn (p2 : Int32) (p3 : Int32) (p4 : Int32) (p1 : Nat → Int32) : Option Int32 := if p4 = 0 then (S_X6_isDown (p2 - (1 : Int32)) p3 p1).bind (fun (y9 : Int32) => ck (y9 &&& 1 == y9) (some y9)) else if p4 = (1 : Int32) then (S_X6_isAcross p2 p3 p1).bind (fun (y23 : Int32) => ck (y23 &&& 1 == y23) (some y23)) else if p4 = (2 : Int32) then (S_X6_isDown p2 p3 p1).bind (fun (y37 : Int32) => ck (y37 &&& 1 == y37) (some y37)) else (S_X6_isAcross p2 (p3 - (1 : Int32)) p1).bind (fun (y48 : Int32) => ck (y48 &&& 1 == y48) (some y48))
theorem kd_X6_isDrawn : yX6_isDrawn.cls ≠ "java/lang/invoke/MethodHandle" ∧ yX6_isDrawn.cls ≠ "java/lang/invoke/VarHandle" ∧ (parseMethodDescriptor yX6_isDrawn.desc).map (fun d => d.parameters.length) = some 4 := by decide +kernel
set_option maxHeartbeats 4000000 in
set_option maxRecDepth 100000 in
theorem c_X6_isDrawn {l : Launch} {G : kG} {p2 : Int32} {p3 : Int32} {p4 : Int32} {q_p1 : Nat} {p1 : Nat → Int32} {res : Int32} (hE : S_X6_isDrawn p2 p3 p4 p1 = some res) : Met l yX6_isDrawn wsX6_isDrawn ({ frames := 1, cells := 0, slots := 0, locals := 24 }) (va_Pc [.ref q_p1, .int p2, .int p3, .int p4] (fun U => va_P G.1 vwCl [aI (G.2 1) q_p1 36 p1] U.heap ∧ kw G U)) (vp_Si (fun r => r = res)) 0 0 (fun _ => False) := by
  refine Met.ofQ (cc := cX6_isDrawn) (maxL := 4) (ret := (some .boolean)) (by decide) rfl ?_
  intro p e s m args below meth c s₁ Q hQ B hml hv
  obtain ⟨rfl, hP, hKW⟩ := hv
  have hK := hKW.1
  have hx := B.exec
  have hb := B.bytes
  have hr := B.returns
  have hts := atoms_spec (ws := wsX6_isDrawn) B.pre
  have hown : s.vm.findClass RX6 = some m.cls := findClass_of_methodNamed B.named
  have hlocks := B.notSynchronized
  have hl := lv_entry ([.ref q_p1, .int p2, .int p3, .int p4]) (n := 4) (Nat.le_of_ble_eq_true rfl)
  rw [lg_entry_eq]
  generalize (lg_sl ([.ref q_p1, .int p2, .int p3, .int p4]) ++ List.replicate (4 - (lg_sl ([.ref q_p1, .int p2, .int p3, .int p4])).length) Slot.unset).toArray = ls at hl ⊢
  have hl : lv_has ls 4 [(0, .ref q_p1), (1, .int p2), (2, .int p3), (3, .int p4)] := hl
  unfold S_X6_isDrawn at hE
  refine lv_iload_n hx hb dX6_isDrawn_0 rfl (lv_at hl 3 rfl) ?_
  refine lv_if_ne (tgt := 15) hx hb dX6_isDrawn_1 (by decide) (fun c_1 => ?_) (fun c_1 => ?_)
  · replace hE := (if_neg c_1).symm.trans hE
    refine lv_iload_n hx hb dX6_isDrawn_15 rfl (lv_at hl 3 rfl) ?_
    refine lv_iconst (v := 1) hx hb dX6_isDrawn_16 (by decide) ?_
    refine lv_icmp_ne (tgt := 29) hx hb dX6_isDrawn_17 (by decide) (fun c_17 => ?_) (fun c_17 => ?_)
    · replace hE := (if_neg c_17).symm.trans hE
      refine lv_iload_n hx hb dX6_isDrawn_29 rfl (lv_at hl 3 rfl) ?_
      refine lv_iconst (v := 2) hx hb dX6_isDrawn_30 (by decide) ?_
      refine lv_icmp_ne (tgt := 43) hx hb dX6_isDrawn_31 (by decide) (fun c_31 => ?_) (fun c_31 => ?_)
      · replace hE := (if_neg c_31).symm.trans hE
        refine lv_aload_n hx hb dX6_isDrawn_43 rfl (lv_at hl 0 rfl) ?_
        refine lv_iload_n hx hb dX6_isDrawn_44 rfl (lv_at hl 1 rfl) ?_
        refine lv_iload_n hx hb dX6_isDrawn_45 rfl (lv_at hl 2 rfl) ?_
        refine lv_iconst (v := 1) hx hb dX6_isDrawn_46 (by decide) ?_
        refine lv_isub hx hb dX6_isDrawn_47 ?_
        obtain ⟨y48, hC_48, hE⟩ := Option.bind_eq_some_iff.mp hE
        obtain ⟨r_48, ex9⟩ : ∃ z, z = y48 := ⟨_, rfl⟩
        subst ex9
        try dsimp only at hE
        refine vp_callSi (va_Run.run (va_runS (As := [.ref q_p1, .int p2, .int (p3 - (1 : Int32))]) (rest := []) ⟨hx, hb, hml, hown, hts⟩ (c_X6_isAcross (l := l) (G := G) (p2 := p2) (p3 := p3 - (1 : Int32)) (q_p1 := q_p1) (p1 := p1) hC_48) (va_cwS 3 hts gX6_isDrawn_X6_isAcross rfl rfl rfl kd_X6_isAcross ⟨Nat.le_of_ble_eq_true rfl, Nat.le_of_ble_eq_true rfl⟩) (pv_S hKW (hP.sub (ws' := [aI (G.2 1) q_p1 36 p1]) [0] rfl)) rfl rfl hl.1 rfl (lv_room (Nat.le_of_ble_eq_true rfl)) dX6_isDrawn_48 ⟨Nat.zero_le _, Nat.zero_le _⟩)) (fun r9 hr9 => ?_)
        subst r9
        obtain ⟨hbo, hE⟩ := ck_some hE
        have e_0 := Option.some.inj hE
        rw [hQ]
        exact W.zret (v := r_48) hx hb hr (nar_b hbo) (fun t ht _ => ⟨_, rfl, e_0, ht⟩) (fun q h => by cases h) dX6_isDrawn_51
      · replace hE := (if_pos c_31).symm.trans hE
        refine lv_aload_n hx hb dX6_isDrawn_34 rfl (lv_at hl 0 rfl) ?_
        refine lv_iload_n hx hb dX6_isDrawn_35 rfl (lv_at hl 1 rfl) ?_
        refine lv_iload_n hx hb dX6_isDrawn_36 rfl (lv_at hl 2 rfl) ?_
        obtain ⟨y37, hC_37, hE⟩ := Option.bind_eq_some_iff.mp hE
        obtain ⟨r_37, ex9⟩ : ∃ z, z = y37 := ⟨_, rfl⟩
        subst ex9
        try dsimp only at hE
        refine vp_callSi (va_Run.run (va_runS (As := [.ref q_p1, .int p2, .int p3]) (rest := []) ⟨hx, hb, hml, hown, hts⟩ (c_X6_isDown (l := l) (G := G) (p2 := p2) (p3 := p3) (q_p1 := q_p1) (p1 := p1) hC_37) (va_cwS 3 hts gX6_isDrawn_X6_isDown rfl rfl rfl kd_X6_isDown ⟨Nat.le_of_ble_eq_true rfl, Nat.le_of_ble_eq_true rfl⟩) (pv_S hKW (hP.sub (ws' := [aI (G.2 1) q_p1 36 p1]) [0] rfl)) rfl rfl hl.1 rfl (lv_room (Nat.le_of_ble_eq_true rfl)) dX6_isDrawn_37 ⟨Nat.zero_le _, Nat.zero_le _⟩)) (fun r9 hr9 => ?_)
        subst r9
        refine lv_goto (tgt := 51) hx hb dX6_isDrawn_40 (by decide) ?_
        obtain ⟨hbo, hE⟩ := ck_some hE
        have e_0 := Option.some.inj hE
        rw [hQ]
        exact W.zret (v := r_37) hx hb hr (nar_b hbo) (fun t ht _ => ⟨_, rfl, e_0, ht⟩) (fun q h => by cases h) dX6_isDrawn_51
    · replace hE := (if_pos c_17).symm.trans hE
      refine lv_aload_n hx hb dX6_isDrawn_20 rfl (lv_at hl 0 rfl) ?_
      refine lv_iload_n hx hb dX6_isDrawn_21 rfl (lv_at hl 1 rfl) ?_
      refine lv_iload_n hx hb dX6_isDrawn_22 rfl (lv_at hl 2 rfl) ?_
      obtain ⟨y23, hC_23, hE⟩ := Option.bind_eq_some_iff.mp hE
      obtain ⟨r_23, ex9⟩ : ∃ z, z = y23 := ⟨_, rfl⟩
      subst ex9
      try dsimp only at hE
      refine vp_callSi (va_Run.run (va_runS (As := [.ref q_p1, .int p2, .int p3]) (rest := []) ⟨hx, hb, hml, hown, hts⟩ (c_X6_isAcross (l := l) (G := G) (p2 := p2) (p3 := p3) (q_p1 := q_p1) (p1 := p1) hC_23) (va_cwS 3 hts gX6_isDrawn_X6_isAcross rfl rfl rfl kd_X6_isAcross ⟨Nat.le_of_ble_eq_true rfl, Nat.le_of_ble_eq_true rfl⟩) (pv_S hKW (hP.sub (ws' := [aI (G.2 1) q_p1 36 p1]) [0] rfl)) rfl rfl hl.1 rfl (lv_room (Nat.le_of_ble_eq_true rfl)) dX6_isDrawn_23 ⟨Nat.zero_le _, Nat.zero_le _⟩)) (fun r9 hr9 => ?_)
      subst r9
      refine lv_goto (tgt := 51) hx hb dX6_isDrawn_26 (by decide) ?_
      obtain ⟨hbo, hE⟩ := ck_some hE
      have e_0 := Option.some.inj hE
      rw [hQ]
      exact W.zret (v := r_23) hx hb hr (nar_b hbo) (fun t ht _ => ⟨_, rfl, e_0, ht⟩) (fun q h => by cases h) dX6_isDrawn_51
  · replace hE := (if_pos c_1).symm.trans hE
    refine lv_aload_n hx hb dX6_isDrawn_4 rfl (lv_at hl 0 rfl) ?_
    refine lv_iload_n hx hb dX6_isDrawn_5 rfl (lv_at hl 1 rfl) ?_
    refine lv_iconst (v := 1) hx hb dX6_isDrawn_6 (by decide) ?_
    refine lv_isub hx hb dX6_isDrawn_7 ?_
    refine lv_iload_n hx hb dX6_isDrawn_8 rfl (lv_at hl 2 rfl) ?_
    obtain ⟨y9, hC_9, hE⟩ := Option.bind_eq_some_iff.mp hE
    obtain ⟨r_9, ex9⟩ : ∃ z, z = y9 := ⟨_, rfl⟩
    subst ex9
    try dsimp only at hE
    refine vp_callSi (va_Run.run (va_runS (As := [.ref q_p1, .int (p2 - (1 : Int32)), .int p3]) (rest := []) ⟨hx, hb, hml, hown, hts⟩ (c_X6_isDown (l := l) (G := G) (p2 := p2 - (1 : Int32)) (p3 := p3) (q_p1 := q_p1) (p1 := p1) hC_9) (va_cwS 3 hts gX6_isDrawn_X6_isDown rfl rfl rfl kd_X6_isDown ⟨Nat.le_of_ble_eq_true rfl, Nat.le_of_ble_eq_true rfl⟩) (pv_S hKW (hP.sub (ws' := [aI (G.2 1) q_p1 36 p1]) [0] rfl)) rfl rfl hl.1 rfl (lv_room (Nat.le_of_ble_eq_true rfl)) dX6_isDrawn_9 ⟨Nat.zero_le _, Nat.zero_le _⟩)) (fun r9 hr9 => ?_)
    subst r9
    refine lv_goto (tgt := 51) hx hb dX6_isDrawn_12 (by decide) ?_
    obtain ⟨hbo, hE⟩ := ck_some hE
    have e_0 := Option.some.inj hE
    rw [hQ]
    exact W.zret (v := r_9) hx hb hr (nar_b hbo) (fun t ht _ => ⟨_, rfl, e_0, ht⟩) (fun q h => by cases h) dX6_isDrawn_51
def S_X6_findEnds (p2 : Int32) (t_endRow : Nat → Int32) (t_endColumn : Nat → Int32) (t_endSide : Nat → Int32) (p1 : Nat → Int32) : Option ((Nat → Int32) × (Nat → Int32) × (Nat → Int32)) := itr (fun (x1 : Int32 × Int32 × (Nat → Int32) × (Nat → Int32) × (Nat → Int32)) => if ((4 : Int32) * p2) ≤ x1.2.1 then some (.inr (x1.2.2.1, x1.2.2.2.1, x1.2.2.2.2)) else ck (!(p2 == 0)) (ck (!(p2 == 0)) (jn (if (x1.2.1 / p2) = 0 then some (.inl (1 : Int32)) else if (x1.2.1 / p2) = (1 : Int32) then some (.inl ((x1.2.1 - x1.2.1 / p2 * p2) + (1 : Int32))) else if (x1.2.1 / p2) = (2 : Int32) then some (.inl p2) else some (.inl (p2 - (x1.2.1 - x1.2.1 / p2 * p2)))) (fun (x2 : Int32) => jn (if (x1.2.1 / p2) = 0 then some (.inl ((x1.2.1 - x1.2.1 / p2 * p2) + (1 : Int32))) else if (x1.2.1 / p2) = (1 : Int32) then some (.inl p2) else if (x1.2.1 / p2) = (2 : Int32) then some (.inl (p2 - (x1.2.1 - x1.2.1 / p2 * p2))) else some (.inl (1 : Int32))) (fun (x3 : Int32) => (S_X6_isDrawn x2 x3 (x1.2.1 / p2) p1).bind (fun (y108 : Int32) => if y108 = 0 then some (.inl (x1.1, x1.2.1 + (1 : Int32), x1.2.2.1, x1.2.2.2.1, x1.2.2.2.2)) else ck (inb x1.1 12) (ck (inb x1.1 12) (ck (inb x1.1 12) (some (.inl (x1.1 + (1 : Int32), x1.2.1 + (1 : Int32), upd x1.2.2.1 x1.1.toNatClampNeg x2, upd x1.2.2.2.1 x1.1.toNatClampNeg x3, upd x1.2.2.2.2 x1.1.toNatClampNeg (x1.2.1 / p2)))))))))))) 10000 ((0 : Int32), (0 : Int32), t_endRow, t_endColumn, t_endSide)
theorem kd_X6_findEnds : yX6_findEnds.cls = RX6 ∧ yX6_findEnds.cls ≠ "java/lang/invoke/MethodHandle" ∧ yX6_findEnds.cls ≠ "java/lang/invoke/VarHandle" ∧ (parseMethodDescriptor yX6_findEnds.desc).map (fun d => d.parameters.length) = some 2 := by decide +kernel
set_option maxHeartbeats 4000000 in
set_option maxRecDepth 100000 in
theorem c_X6_findEnds {l : Launch} {G : kG} (sz : Nat) {p2 : Int32} {q_t : Nat} {t_length : Int32} {q_t_text : Nat} {t_size : Int32} {q_t_sign : Nat} {t_otherSize : Int32} {q_t_other : Nat} {q_t_before : Nat} {t_undoMany : Int32} {t_readSize : Int32} {q_t_read : Nat} {q_t_side : Nat} {q_t_tall : Nat} {q_t_endRow : Nat} {q_t_endColumn : Nat} {q_t_endSide : Nat} {q_t_gone : Nat} {t_lineRow : Int32} {t_lineColumn : Int32} {t_lineSide : Int32} {t_lineMany : Int32} {q_t_ways : Nat} {q_t_codes : Nat} {q_t_many : Nat} {t_endRow : Nat → Int32} {t_endColumn : Nat → Int32} {t_endSide : Nat → Int32} {q_p1 : Nat} {p1 : Nat → Int32} {res : (Nat → Int32) × (Nat → Int32) × (Nat → Int32)} (hE : S_X6_findEnds p2 t_endRow t_endColumn t_endSide p1 = some res) : Met l yX6_findEnds wsX6_findEnds ({ frames := 2, cells := 0, slots := 0, locals := 47 }) (va_Pc [.ref q_t, .ref q_p1, .int p2] (fun U => U.heap.size = sz ∧ va_P G.1 vwCl [oX6 q_t t_length q_t_text t_size q_t_sign t_otherSize q_t_other q_t_before t_undoMany t_readSize q_t_read q_t_side q_t_tall q_t_endRow q_t_endColumn q_t_endSide q_t_gone t_lineRow t_lineColumn t_lineSide t_lineMany q_t_ways q_t_codes q_t_many, aI (G.2 1) q_t_endRow 12 t_endRow, aI (G.2 1) q_t_endColumn 12 t_endColumn, aI (G.2 1) q_t_endSide 12 t_endSide, aI (G.2 1) q_p1 36 p1] U.heap ∧ kw G U ∧ va_D (fun _ => True) [oX6 q_t t_length q_t_text t_size q_t_sign t_otherSize q_t_other q_t_before t_undoMany t_readSize q_t_read q_t_side q_t_tall q_t_endRow q_t_endColumn q_t_endSide q_t_gone t_lineRow t_lineColumn t_lineSide t_lineMany q_t_ways q_t_codes q_t_many, aI (G.2 1) q_t_endRow 12 t_endRow, aI (G.2 1) q_t_endColumn 12 t_endColumn, aI (G.2 1) q_t_endSide 12 t_endSide, aI (G.2 1) q_p1 36 p1])) (va_Qv (fun (_ : Unit) => True) (fun _ t => va_P G.1 vwCl [oX6 q_t t_length q_t_text t_size q_t_sign t_otherSize q_t_other q_t_before t_undoMany t_readSize q_t_read q_t_side q_t_tall q_t_endRow q_t_endColumn q_t_endSide q_t_gone t_lineRow t_lineColumn t_lineSide t_lineMany q_t_ways q_t_codes q_t_many, aI (G.2 1) q_t_endRow 12 res.1, aI (G.2 1) q_t_endColumn 12 res.2.1, aI (G.2 1) q_t_endSide 12 res.2.2, aI (G.2 1) q_p1 36 p1] t.heap ∧ va_D (va_A [oX6 q_t t_length q_t_text t_size q_t_sign t_otherSize q_t_other q_t_before t_undoMany t_readSize q_t_read q_t_side q_t_tall q_t_endRow q_t_endColumn q_t_endSide q_t_gone t_lineRow t_lineColumn t_lineSide t_lineMany q_t_ways q_t_codes q_t_many, aI (G.2 1) q_t_endRow 12 t_endRow, aI (G.2 1) q_t_endColumn 12 t_endColumn, aI (G.2 1) q_t_endSide 12 t_endSide, aI (G.2 1) q_p1 36 p1] sz) [oX6 q_t t_length q_t_text t_size q_t_sign t_otherSize q_t_other q_t_before t_undoMany t_readSize q_t_read q_t_side q_t_tall q_t_endRow q_t_endColumn q_t_endSide q_t_gone t_lineRow t_lineColumn t_lineSide t_lineMany q_t_ways q_t_codes q_t_many, aI (G.2 1) q_t_endRow 12 res.1, aI (G.2 1) q_t_endColumn 12 res.2.1, aI (G.2 1) q_t_endSide 12 res.2.2, aI (G.2 1) q_p1 36 p1]) (va_A [oX6 q_t t_length q_t_text t_size q_t_sign t_otherSize q_t_other q_t_before t_undoMany t_readSize q_t_read q_t_side q_t_tall q_t_endRow q_t_endColumn q_t_endSide q_t_gone t_lineRow t_lineColumn t_lineSide t_lineMany q_t_ways q_t_codes q_t_many, aI (G.2 1) q_t_endRow 12 t_endRow, aI (G.2 1) q_t_endColumn 12 t_endColumn, aI (G.2 1) q_t_endSide 12 t_endSide, aI (G.2 1) q_p1 36 p1] sz)) 0 0 (va_A [oX6 q_t t_length q_t_text t_size q_t_sign t_otherSize q_t_other q_t_before t_undoMany t_readSize q_t_read q_t_side q_t_tall q_t_endRow q_t_endColumn q_t_endSide q_t_gone t_lineRow t_lineColumn t_lineSide t_lineMany q_t_ways q_t_codes q_t_many, aI (G.2 1) q_t_endRow 12 t_endRow, aI (G.2 1) q_t_endColumn 12 t_endColumn, aI (G.2 1) q_t_endSide 12 t_endSide, aI (G.2 1) q_p1 36 p1] sz) := by
  refine Met.ofQ (cc := cX6_findEnds) (maxL := 9) (ret := none) (by decide) rfl ?_
  intro p e s m args below meth c s₁ Q hQ B hml hv
  obtain ⟨rfl, hsz, hP, hKW, hD0⟩ := hv
  have hK := hKW.1
  have hx := B.exec
  have hb := B.bytes
  have hr := B.returns
  have hts := atoms_spec (ws := wsX6_findEnds) B.pre
  have hown : s.vm.findClass RX6 = some m.cls := findClass_of_methodNamed B.named
  have hlocks := B.notSynchronized
  have iX6 : ∀ w ∈ u_ws RX6 TX6 23, w ∈ wsX6_findEnds := by decide +kernel
  have fl_31 := hts (.fieldLink RX6 31 "AlternateSignsModel" "endRow" "[I") (by decide +kernel)
  have fl_34 := hts (.fieldLink RX6 34 "AlternateSignsModel" "endColumn" "[I") (by decide +kernel)
  have fl_37 := hts (.fieldLink RX6 37 "AlternateSignsModel" "endSide" "[I") (by decide +kernel)
  subst hsz
  have hD := hD0.self (sz := s.heap.size)
  generalize hAe : va_A [oX6 q_t t_length q_t_text t_size q_t_sign t_otherSize q_t_other q_t_before t_undoMany t_readSize q_t_read q_t_side q_t_tall q_t_endRow q_t_endColumn q_t_endSide q_t_gone t_lineRow t_lineColumn t_lineSide t_lineMany q_t_ways q_t_codes q_t_many, aI (G.2 1) q_t_endRow 12 t_endRow, aI (G.2 1) q_t_endColumn 12 t_endColumn, aI (G.2 1) q_t_endSide 12 t_endSide, aI (G.2 1) q_p1 36 p1] s.heap.size = A at hD hQ
  have hA : ∀ q : Nat, s.heap.size ≤ q → A q := fun q h => by rw [← hAe]; exact Or.inr h
  have hS : va_S A s.heap s.heap [] := va_S.rf
  have hl := lv_entry ([.ref q_t, .ref q_p1, .int p2]) (n := 9) (Nat.le_of_ble_eq_true rfl)
  rw [lg_entry_eq]
  generalize (lg_sl ([.ref q_t, .ref q_p1, .int p2]) ++ List.replicate (9 - (lg_sl ([.ref q_t, .ref q_p1, .int p2])).length) Slot.unset).toArray = ls at hl ⊢
  have hl : lv_has ls 9 [(0, .ref q_t), (1, .ref q_p1), (2, .int p2)] := hl
  unfold S_X6_findEnds at hE
  refine lv_iconst (v := 0) hx hb dX6_findEnds_0 (by decide) ?_
  refine lv_istore_n (lv' := [(3, .int (0 : Int32)), (0, .ref q_t), (1, .ref q_p1), (2, .int p2)]) hx hb dX6_findEnds_1 rfl hl (by decide) rfl (fun ls hl => ?_)
  refine lv_iconst (v := 0) hx hb dX6_findEnds_2 (by decide) ?_
  refine lv_istore (lv' := [(4, .int (0 : Int32)), (3, .int (0 : Int32)), (0, .ref q_t), (1, .ref q_p1), (2, .int p2)]) hx hb dX6_findEnds_3 hl (by decide) rfl (fun ls hl => ?_)
  refine itr_ind (fun (x1 : Int32 × Int32 × (Nat → Int32) × (Nat → Int32) × (Nat → Int32)) => ∀ (H : Heap) (locs : List Loc) (ls : Array Slot), va_P G.1 vwCl [oX6 q_t t_length q_t_text t_size q_t_sign t_otherSize q_t_other q_t_before t_undoMany t_readSize q_t_read q_t_side q_t_tall q_t_endRow q_t_endColumn q_t_endSide q_t_gone t_lineRow t_lineColumn t_lineSide t_lineMany q_t_ways q_t_codes q_t_many, aI (G.2 1) q_t_endRow 12 x1.2.2.1, aI (G.2 1) q_t_endColumn 12 x1.2.2.2.1, aI (G.2 1) q_t_endSide 12 x1.2.2.2.2, aI (G.2 1) q_p1 36 p1] H → va_D A [oX6 q_t t_length q_t_text t_size q_t_sign t_otherSize q_t_other q_t_before t_undoMany t_readSize q_t_read q_t_side q_t_tall q_t_endRow q_t_endColumn q_t_endSide q_t_gone t_lineRow t_lineColumn t_lineSide t_lineMany q_t_ways q_t_codes q_t_many, aI (G.2 1) q_t_endRow 12 x1.2.2.1, aI (G.2 1) q_t_endColumn 12 x1.2.2.2.1, aI (G.2 1) q_t_endSide 12 x1.2.2.2.2, aI (G.2 1) q_p1 36 p1] → va_S A s.heap H locs → lv_has ls 9 [(0, .ref q_t), (1, .ref q_p1), (2, .int p2), (3, .int x1.1), (4, .int x1.2.1)] → W p l e (headSpec wsX6_findEnds ({ frames := 2, cells := 0, slots := 0, locals := 47 })).room s m ([.ref q_t, .ref q_p1, .int p2] : List Value).toArray below meth c H locs 0 0 Q (F0 m 5 ls [])) (fun x1 o_1 hE ih_1 hr_1 => ?_) _ _ hE _ _ ls hP hD hS (lv_sub hl [2, 3, 4, 1, 0] rfl)
  obtain ⟨v3_1, v4_1, w_t_endRow_1, w_t_endColumn_1, w_t_endSide_1⟩ := x1
  try dsimp only at hE
  intro H locs ls hP hD hS hl
  try dsimp only at hP hD hl ⊢
  refine lv_iload hx hb dX6_findEnds_5 (lv_at hl 4 rfl) ?_
  refine lv_iconst (v := 4) hx hb dX6_findEnds_7 (by decide) ?_
  refine lv_iload_n hx hb dX6_findEnds_8 rfl (lv_at hl 2 rfl) ?_
  refine lv_imul hx hb dX6_findEnds_9 ?_
  refine lv_icmp_ge (tgt := 147) hx hb dX6_findEnds_10 (by decide) (fun c_10 => ?_) (fun c_10 => ?_)
  · replace hE := (if_pos c_10).symm.trans hE
    have e_1 := Option.some.inj hE
    have e_0 := hr_1 _ e_1.symm
    subst e_0
    rw [hQ]
    exact W.vret hx hb hr (fun t ht _ => ⟨⟨(), rfl, trivial, by rw [ht]; exact hP, hD⟩, hS.F ht⟩) hS.2.2 dX6_findEnds_147
  · replace hE := (if_neg c_10).symm.trans hE
    refine lv_iload hx hb dX6_findEnds_13 (lv_at hl 4 rfl) ?_
    refine lv_iload_n hx hb dX6_findEnds_15 rfl (lv_at hl 2 rfl) ?_
    obtain ⟨hz_16, hE⟩ := ck_some hE
    refine lv_idiv hx hb dX6_findEnds_16 (ck_ne hz_16) ?_
    refine lv_istore (lv' := [(5, .int (v4_1 / p2)), (0, .ref q_t), (1, .ref q_p1), (2, .int p2), (3, .int v3_1), (4, .int v4_1)]) hx hb dX6_findEnds_17 hl (by decide) rfl (fun ls hl => ?_)
    refine lv_iload hx hb dX6_findEnds_19 (lv_at hl 5 rfl) ?_
    refine lv_iload_n hx hb dX6_findEnds_21 rfl (lv_at hl 3 rfl) ?_
    obtain ⟨hz_22, hE⟩ := ck_some hE
    refine lv_irem hx hb dX6_findEnds_22 (ck_ne hz_22) ?_
    refine lv_istore (lv' := [(6, .int (v4_1 - v4_1 / p2 * p2)), (5, .int (v4_1 / p2)), (0, .ref q_t), (1, .ref q_p1), (2, .int p2), (3, .int v3_1), (4, .int v4_1)]) hx hb dX6_findEnds_23 hl (by decide) rfl (fun ls hl => ?_)
    refine lv_iload hx hb dX6_findEnds_25 (lv_at hl 1 rfl) ?_
    obtain ⟨o_2, hEp, hk9, hr_2⟩ := jn_some hE
    have ih_2 : ∀ (x2 : Int32), o_2 = .inl x2 → ∀ (H : Heap) (locs : List Loc) (ls : Array Slot), va_P G.1 vwCl [oX6 q_t t_length q_t_text t_size q_t_sign t_otherSize q_t_other q_t_before t_undoMany t_readSize q_t_read q_t_side q_t_tall q_t_endRow q_t_endColumn q_t_endSide q_t_gone t_lineRow t_lineColumn t_lineSide t_lineMany q_t_ways q_t_codes q_t_many, aI (G.2 1) q_t_endRow 12 w_t_endRow_1, aI (G.2 1) q_t_endColumn 12 w_t_endColumn_1, aI (G.2 1) q_t_endSide 12 w_t_endSide_1, aI (G.2 1) q_p1 36 p1] H → va_D A [oX6 q_t t_length q_t_text t_size q_t_sign t_otherSize q_t_other q_t_before t_undoMany t_readSize q_t_read q_t_side q_t_tall q_t_endRow q_t_endColumn q_t_endSide q_t_gone t_lineRow t_lineColumn t_lineSide t_lineMany q_t_ways q_t_codes q_t_many, aI (G.2 1) q_t_endRow 12 w_t_endRow_1, aI (G.2 1) q_t_endColumn 12 w_t_endColumn_1, aI (G.2 1) q_t_endSide 12 w_t_endSide_1, aI (G.2 1) q_p1 36 p1] → va_S A s.heap H locs → lv_has ls 9 [(0, .ref q_t), (1, .ref q_p1), (2, .int p2), (3, .int v3_1), (4, .int v4_1), (5, .int (v4_1 / p2)), (6, .int (v4_1 - v4_1 / p2 * p2))] → W p l e (headSpec wsX6_findEnds ({ frames := 2, cells := 0, slots := 0, locals := 47 })).room s m ([.ref q_t, .ref q_p1, .int p2] : List Value).toArray below meth c H locs 0 0 Q (F0 m 61 ls [.int x2]) := by
      intro x2 ho9
      have hE := hk9 _ ho9
      obtain ⟨k0_2, ex9⟩ : ∃ z, z = x2 := ⟨_, rfl⟩
      subst ex9
      try dsimp only at hE
      intro H locs ls hP hD hS hl
      try dsimp only at hP hD hl ⊢
      refine lv_istore (lv' := [(7, .int k0_2), (0, .ref q_t), (1, .ref q_p1), (2, .int p2), (3, .int v3_1), (4, .int v4_1), (5, .int (v4_1 / p2)), (6, .int (v4_1 - v4_1 / p2 * p2))]) hx hb dX6_findEnds_61 hl (by decide) rfl (fun ls hl => ?_)
      refine lv_iload hx hb dX6_findEnds_63 (lv_at hl 6 rfl) ?_
      obtain ⟨o_2, hEp, hk9, hr_2⟩ := jn_some hE
      have ih_2 : ∀ (x3 : Int32), o_2 = .inl x3 → ∀ (H : Heap) (locs : List Loc) (ls : Array Slot), va_P G.1 vwCl [oX6 q_t t_length q_t_text t_size q_t_sign t_otherSize q_t_other q_t_before t_undoMany t_readSize q_t_read q_t_side q_t_tall q_t_endRow q_t_endColumn q_t_endSide q_t_gone t_lineRow t_lineColumn t_lineSide t_lineMany q_t_ways q_t_codes q_t_many, aI (G.2 1) q_t_endRow 12 w_t_endRow_1, aI (G.2 1) q_t_endColumn 12 w_t_endColumn_1, aI (G.2 1) q_t_endSide 12 w_t_endSide_1, aI (G.2 1) q_p1 36 p1] H → va_D A [oX6 q_t t_length q_t_text t_size q_t_sign t_otherSize q_t_other q_t_before t_undoMany t_readSize q_t_read q_t_side q_t_tall q_t_endRow q_t_endColumn q_t_endSide q_t_gone t_lineRow t_lineColumn t_lineSide t_lineMany q_t_ways q_t_codes q_t_many, aI (G.2 1) q_t_endRow 12 w_t_endRow_1, aI (G.2 1) q_t_endColumn 12 w_t_endColumn_1, aI (G.2 1) q_t_endSide 12 w_t_endSide_1, aI (G.2 1) q_p1 36 p1] → va_S A s.heap H locs → lv_has ls 9 [(0, .ref q_t), (1, .ref q_p1), (2, .int p2), (3, .int v3_1), (4, .int v4_1), (5, .int (v4_1 / p2)), (7, .int k0_2)] → W p l e (headSpec wsX6_findEnds ({ frames := 2, cells := 0, slots := 0, locals := 47 })).room s m ([.ref q_t, .ref q_p1, .int p2] : List Value).toArray below meth c H locs 0 0 Q (F0 m 99 ls [.int x3]) := by
        intro x3 ho9
        have hE := hk9 _ ho9
        obtain ⟨k0_3, ex9⟩ : ∃ z, z = x3 := ⟨_, rfl⟩
        subst ex9
        try dsimp only at hE
        intro H locs ls hP hD hS hl
        try dsimp only at hP hD hl ⊢
        refine lv_istore (lv' := [(8, .int k0_3), (0, .ref q_t), (1, .ref q_p1), (2, .int p2), (3, .int v3_1), (4, .int v4_1), (5, .int (v4_1 / p2)), (7, .int k0_2)]) hx hb dX6_findEnds_99 hl (by decide) rfl (fun ls hl => ?_)
        refine lv_aload_n hx hb dX6_findEnds_101 rfl (lv_at hl 2 rfl) ?_
        refine lv_iload hx hb dX6_findEnds_102 (lv_at hl 7 rfl) ?_
        refine lv_iload hx hb dX6_findEnds_104 (lv_at hl 0 rfl) ?_
        refine lv_iload hx hb dX6_findEnds_106 (lv_at hl 6 rfl) ?_
        obtain ⟨y108, hC_108, hE⟩ := Option.bind_eq_some_iff.mp hE
        obtain ⟨r_108, ex9⟩ : ∃ z, z = y108 := ⟨_, rfl⟩
        subst ex9
        try dsimp only at hE
        refine vp_callSi (va_Run.run (va_runS (As := [.ref q_p1, .int k0_2, .int k0_3, .int (v4_1 / p2)]) (rest := []) ⟨hx, hb, hml, hown, hts⟩ (c_X6_isDrawn (l := l) (G := G) (p2 := k0_2) (p3 := k0_3) (p4 := v4_1 / p2) (q_p1 := q_p1) (p1 := p1) hC_108) (va_cwS 4 hts gX6_findEnds_X6_isDrawn rfl rfl rfl kd_X6_isDrawn ⟨Nat.le_of_ble_eq_true rfl, Nat.le_of_ble_eq_true rfl⟩) (pv_S hKW (hP.sub (ws' := [aI (G.2 1) q_p1 36 p1]) [4] rfl)) rfl rfl hl.1 rfl (lv_room (Nat.le_of_ble_eq_true rfl)) dX6_findEnds_108 ⟨Nat.zero_le _, Nat.zero_le _⟩)) (fun r9 hr9 => ?_)
        subst r9
        refine lv_if_eq (tgt := 141) hx hb dX6_findEnds_111 (by decide) (fun c_111 => ?_) (fun c_111 => ?_)
        · replace hE := (if_pos c_111).symm.trans hE
          refine lv_iinc (v := v4_1 + (1 : Int32)) (lv' := [(4, .int (v4_1 + (1 : Int32))), (8, .int k0_3), (0, .ref q_t), (1, .ref q_p1), (2, .int p2), (3, .int v3_1), (5, .int (v4_1 / p2)), (7, .int k0_2)]) hx hb dX6_findEnds_141 hl (k := 5) rfl rfl (by decide) rfl (fun ls hl => ?_)
          refine lv_goto (tgt := 5) hx hb dX6_findEnds_144 (by decide) ?_
          have e_1 := Option.some.inj hE
          exact ih_1 _ e_1.symm _ _ ls hP hD hS (lv_sub hl [2, 3, 4, 5, 0] rfl)
        · replace hE := (if_neg c_111).symm.trans hE
          refine lv_aload_n hx hb dX6_findEnds_114 rfl (lv_at hl 1 rfl) ?_
          refine va_get (D := G.1) (ci := 6) (v := .ref q_t_endRow) (C := RX6) (T := TX6) (N := 23) hx hb hts iX6 hown hK hP 0 rfl rfl 12 (by decide) fl_31 (fun _ h9 => h9) rfl dX6_findEnds_115 ?_
          refine lv_iload_n hx hb dX6_findEnds_118 rfl (lv_at hl 4 rfl) ?_
          refine lv_iload hx hb dX6_findEnds_119 (lv_at hl 7 rfl) ?_
          obtain ⟨hi_121, hE⟩ := ck_some hE
          refine va_iast hx hb hK hP hD hS 1 1 rfl rfl (inb_in hi_121) dX6_findEnds_121 (fun H locs hP hD hS => ?_)
          have hP : va_P G.1 vwCl [oX6 q_t t_length q_t_text t_size q_t_sign t_otherSize q_t_other q_t_before t_undoMany t_readSize q_t_read q_t_side q_t_tall q_t_endRow q_t_endColumn q_t_endSide q_t_gone t_lineRow t_lineColumn t_lineSide t_lineMany q_t_ways q_t_codes q_t_many, aI (G.2 1) q_t_endRow 12 (upd w_t_endRow_1 v3_1.toNatClampNeg k0_2), aI (G.2 1) q_t_endColumn 12 w_t_endColumn_1, aI (G.2 1) q_t_endSide 12 w_t_endSide_1, aI (G.2 1) q_p1 36 p1] H := hP
          have hD : va_D A [oX6 q_t t_length q_t_text t_size q_t_sign t_otherSize q_t_other q_t_before t_undoMany t_readSize q_t_read q_t_side q_t_tall q_t_endRow q_t_endColumn q_t_endSide q_t_gone t_lineRow t_lineColumn t_lineSide t_lineMany q_t_ways q_t_codes q_t_many, aI (G.2 1) q_t_endRow 12 (upd w_t_endRow_1 v3_1.toNatClampNeg k0_2), aI (G.2 1) q_t_endColumn 12 w_t_endColumn_1, aI (G.2 1) q_t_endSide 12 w_t_endSide_1, aI (G.2 1) q_p1 36 p1] := hD
          refine lv_aload_n hx hb dX6_findEnds_122 rfl (lv_at hl 1 rfl) ?_
          refine va_get (D := G.1) (ci := 6) (v := .ref q_t_endColumn) (C := RX6) (T := TX6) (N := 23) hx hb hts iX6 hown hK hP 0 rfl rfl 13 (by decide) fl_34 (fun _ h9 => h9) rfl dX6_findEnds_123 ?_
          refine lv_iload_n hx hb dX6_findEnds_126 rfl (lv_at hl 4 rfl) ?_
          refine lv_iload hx hb dX6_findEnds_127 (lv_at hl 0 rfl) ?_
          obtain ⟨hi_129, hE⟩ := ck_some hE
          refine va_iast hx hb hK hP hD hS 2 1 rfl rfl (inb_in hi_129) dX6_findEnds_129 (fun H locs hP hD hS => ?_)
          have hP : va_P G.1 vwCl [oX6 q_t t_length q_t_text t_size q_t_sign t_otherSize q_t_other q_t_before t_undoMany t_readSize q_t_read q_t_side q_t_tall q_t_endRow q_t_endColumn q_t_endSide q_t_gone t_lineRow t_lineColumn t_lineSide t_lineMany q_t_ways q_t_codes q_t_many, aI (G.2 1) q_t_endRow 12 (upd w_t_endRow_1 v3_1.toNatClampNeg k0_2), aI (G.2 1) q_t_endColumn 12 (upd w_t_endColumn_1 v3_1.toNatClampNeg k0_3), aI (G.2 1) q_t_endSide 12 w_t_endSide_1, aI (G.2 1) q_p1 36 p1] H := hP
          have hD : va_D A [oX6 q_t t_length q_t_text t_size q_t_sign t_otherSize q_t_other q_t_before t_undoMany t_readSize q_t_read q_t_side q_t_tall q_t_endRow q_t_endColumn q_t_endSide q_t_gone t_lineRow t_lineColumn t_lineSide t_lineMany q_t_ways q_t_codes q_t_many, aI (G.2 1) q_t_endRow 12 (upd w_t_endRow_1 v3_1.toNatClampNeg k0_2), aI (G.2 1) q_t_endColumn 12 (upd w_t_endColumn_1 v3_1.toNatClampNeg k0_3), aI (G.2 1) q_t_endSide 12 w_t_endSide_1, aI (G.2 1) q_p1 36 p1] := hD
          refine lv_aload_n hx hb dX6_findEnds_130 rfl (lv_at hl 1 rfl) ?_
          refine va_get (D := G.1) (ci := 6) (v := .ref q_t_endSide) (C := RX6) (T := TX6) (N := 23) hx hb hts iX6 hown hK hP 0 rfl rfl 14 (by decide) fl_37 (fun _ h9 => h9) rfl dX6_findEnds_131 ?_
          refine lv_iload_n hx hb dX6_findEnds_134 rfl (lv_at hl 4 rfl) ?_
          refine lv_iload hx hb dX6_findEnds_135 (lv_at hl 6 rfl) ?_
          obtain ⟨hi_137, hE⟩ := ck_some hE
          refine va_iast hx hb hK hP hD hS 3 1 rfl rfl (inb_in hi_137) dX6_findEnds_137 (fun H locs hP hD hS => ?_)
          have hP : va_P G.1 vwCl [oX6 q_t t_length q_t_text t_size q_t_sign t_otherSize q_t_other q_t_before t_undoMany t_readSize q_t_read q_t_side q_t_tall q_t_endRow q_t_endColumn q_t_endSide q_t_gone t_lineRow t_lineColumn t_lineSide t_lineMany q_t_ways q_t_codes q_t_many, aI (G.2 1) q_t_endRow 12 (upd w_t_endRow_1 v3_1.toNatClampNeg k0_2), aI (G.2 1) q_t_endColumn 12 (upd w_t_endColumn_1 v3_1.toNatClampNeg k0_3), aI (G.2 1) q_t_endSide 12 (upd w_t_endSide_1 v3_1.toNatClampNeg (v4_1 / p2)), aI (G.2 1) q_p1 36 p1] H := hP
          have hD : va_D A [oX6 q_t t_length q_t_text t_size q_t_sign t_otherSize q_t_other q_t_before t_undoMany t_readSize q_t_read q_t_side q_t_tall q_t_endRow q_t_endColumn q_t_endSide q_t_gone t_lineRow t_lineColumn t_lineSide t_lineMany q_t_ways q_t_codes q_t_many, aI (G.2 1) q_t_endRow 12 (upd w_t_endRow_1 v3_1.toNatClampNeg k0_2), aI (G.2 1) q_t_endColumn 12 (upd w_t_endColumn_1 v3_1.toNatClampNeg k0_3), aI (G.2 1) q_t_endSide 12 (upd w_t_endSide_1 v3_1.toNatClampNeg (v4_1 / p2)), aI (G.2 1) q_p1 36 p1] := hD
          refine lv_iinc (v := v3_1 + (1 : Int32)) (lv' := [(3, .int (v3_1 + (1 : Int32))), (8, .int k0_3), (0, .ref q_t), (1, .ref q_p1), (2, .int p2), (4, .int v4_1), (5, .int (v4_1 / p2)), (7, .int k0_2)]) hx hb dX6_findEnds_138 hl (k := 4) rfl rfl (by decide) rfl (fun ls hl => ?_)
          refine lv_iinc (v := v4_1 + (1 : Int32)) (lv' := [(4, .int (v4_1 + (1 : Int32))), (3, .int (v3_1 + (1 : Int32))), (8, .int k0_3), (0, .ref q_t), (1, .ref q_p1), (2, .int p2), (5, .int (v4_1 / p2)), (7, .int k0_2)]) hx hb dX6_findEnds_141 hl (k := 5) rfl rfl (by decide) rfl (fun ls hl => ?_)
          refine lv_goto (tgt := 5) hx hb dX6_findEnds_144 (by decide) ?_
          have e_1 := Option.some.inj hE
          exact ih_1 _ e_1.symm _ _ ls hP hD hS (lv_sub hl [3, 4, 5, 1, 0] rfl)
      clear hE hk9
      have hE := hEp
      clear hEp
      refine lv_if_ne (tgt := 75) hx hb dX6_findEnds_65 (by decide) (fun c_65 => ?_) (fun c_65 => ?_)
      · replace hE := (if_neg c_65).symm.trans hE
        refine lv_iload hx hb dX6_findEnds_75 (lv_at hl 6 rfl) ?_
        refine lv_iconst (v := 1) hx hb dX6_findEnds_77 (by decide) ?_
        refine lv_icmp_ne (tgt := 85) hx hb dX6_findEnds_78 (by decide) (fun c_78 => ?_) (fun c_78 => ?_)
        · replace hE := (if_neg c_78).symm.trans hE
          refine lv_iload hx hb dX6_findEnds_85 (lv_at hl 6 rfl) ?_
          refine lv_iconst (v := 2) hx hb dX6_findEnds_87 (by decide) ?_
          refine lv_icmp_ne (tgt := 98) hx hb dX6_findEnds_88 (by decide) (fun c_88 => ?_) (fun c_88 => ?_)
          · replace hE := (if_neg c_88).symm.trans hE
            refine lv_iconst (v := 1) hx hb dX6_findEnds_98 (by decide) ?_
            have e_2 := Option.some.inj hE
            exact ih_2 _ e_2.symm _ _ ls hP hD hS (lv_sub hl [1, 2, 3, 4, 5, 6, 0] rfl)
          · replace hE := (if_pos c_88).symm.trans hE
            refine lv_iload_n hx hb dX6_findEnds_91 rfl (lv_at hl 3 rfl) ?_
            refine lv_iload hx hb dX6_findEnds_92 (lv_at hl 7 rfl) ?_
            refine lv_isub hx hb dX6_findEnds_94 ?_
            refine lv_goto (tgt := 99) hx hb dX6_findEnds_95 (by decide) ?_
            have e_2 := Option.some.inj hE
            exact ih_2 _ e_2.symm _ _ ls hP hD hS (lv_sub hl [1, 2, 3, 4, 5, 6, 0] rfl)
        · replace hE := (if_pos c_78).symm.trans hE
          refine lv_iload_n hx hb dX6_findEnds_81 rfl (lv_at hl 3 rfl) ?_
          refine lv_goto (tgt := 99) hx hb dX6_findEnds_82 (by decide) ?_
          have e_2 := Option.some.inj hE
          exact ih_2 _ e_2.symm _ _ ls hP hD hS (lv_sub hl [1, 2, 3, 4, 5, 6, 0] rfl)
      · replace hE := (if_pos c_65).symm.trans hE
        refine lv_iload hx hb dX6_findEnds_68 (lv_at hl 7 rfl) ?_
        refine lv_iconst (v := 1) hx hb dX6_findEnds_70 (by decide) ?_
        refine lv_iadd hx hb dX6_findEnds_71 ?_
        refine lv_goto (tgt := 99) hx hb dX6_findEnds_72 (by decide) ?_
        have e_2 := Option.some.inj hE
        exact ih_2 _ e_2.symm _ _ ls hP hD hS (lv_sub hl [1, 2, 3, 4, 5, 6, 0] rfl)
    clear hE hk9
    have hE := hEp
    clear hEp
    refine lv_if_ne (tgt := 34) hx hb dX6_findEnds_27 (by decide) (fun c_27 => ?_) (fun c_27 => ?_)
    · replace hE := (if_neg c_27).symm.trans hE
      refine lv_iload hx hb dX6_findEnds_34 (lv_at hl 1 rfl) ?_
      refine lv_iconst (v := 1) hx hb dX6_findEnds_36 (by decide) ?_
      refine lv_icmp_ne (tgt := 47) hx hb dX6_findEnds_37 (by decide) (fun c_37 => ?_) (fun c_37 => ?_)
      · replace hE := (if_neg c_37).symm.trans hE
        refine lv_iload hx hb dX6_findEnds_47 (lv_at hl 1 rfl) ?_
        refine lv_iconst (v := 2) hx hb dX6_findEnds_49 (by decide) ?_
        refine lv_icmp_ne (tgt := 57) hx hb dX6_findEnds_50 (by decide) (fun c_50 => ?_) (fun c_50 => ?_)
        · replace hE := (if_neg c_50).symm.trans hE
          refine lv_iload_n hx hb dX6_findEnds_57 rfl (lv_at hl 4 rfl) ?_
          refine lv_iload hx hb dX6_findEnds_58 (lv_at hl 0 rfl) ?_
          refine lv_isub hx hb dX6_findEnds_60 ?_
          have e_2 := Option.some.inj hE
          exact ih_2 _ e_2.symm _ _ ls hP hD hS (lv_sub hl [2, 3, 4, 5, 6, 1, 0] rfl)
        · replace hE := (if_pos c_50).symm.trans hE
          refine lv_iload_n hx hb dX6_findEnds_53 rfl (lv_at hl 4 rfl) ?_
          refine lv_goto (tgt := 61) hx hb dX6_findEnds_54 (by decide) ?_
          have e_2 := Option.some.inj hE
          exact ih_2 _ e_2.symm _ _ ls hP hD hS (lv_sub hl [2, 3, 4, 5, 6, 1, 0] rfl)
      · replace hE := (if_pos c_37).symm.trans hE
        refine lv_iload hx hb dX6_findEnds_40 (lv_at hl 0 rfl) ?_
        refine lv_iconst (v := 1) hx hb dX6_findEnds_42 (by decide) ?_
        refine lv_iadd hx hb dX6_findEnds_43 ?_
        refine lv_goto (tgt := 61) hx hb dX6_findEnds_44 (by decide) ?_
        have e_2 := Option.some.inj hE
        exact ih_2 _ e_2.symm _ _ ls hP hD hS (lv_sub hl [2, 3, 4, 5, 6, 1, 0] rfl)
    · replace hE := (if_pos c_27).symm.trans hE
      refine lv_iconst (v := 1) hx hb dX6_findEnds_30 (by decide) ?_
      refine lv_goto (tgt := 61) hx hb dX6_findEnds_31 (by decide) ?_
      have e_2 := Option.some.inj hE
      exact ih_2 _ e_2.symm _ _ ls hP hD hS (lv_sub hl [2, 3, 4, 5, 6, 1, 0] rfl)
def S_X6_goesOn (p2 : Int32) (t_lineRow : Int32) (t_lineColumn : Int32) (t_lineSide : Int32) (t_lineMany : Int32) (t_gone : Nat → Int32) (p1 : Nat → Int32) : Option (Int32 × Int32 × Int32 × Int32 × Int32 × (Nat → Int32)) := itr (fun (x1 : Int32) => if x1 = t_lineSide then some (.inl (x1 + (1 : Int32))) else (S_X6_isDrawn t_lineRow t_lineColumn x1 p1).bind (fun (y20 : Int32) => if y20 = 0 then some (.inl (x1 + (1 : Int32))) else ck (inb ((((6 : Int32) * (t_lineRow - (1 : Int32))) + t_lineColumn) - (1 : Int32)) 36) (jn (if x1 = (2 : Int32) then some (.inl (1 : Int32)) else if x1 = 0 then some (.inl (-1 : Int32)) else some (.inl (0 : Int32))) (fun (x2 : Int32) => jn (if x1 = (1 : Int32) then some (.inl (1 : Int32)) else if x1 = (3 : Int32) then some (.inl (-1 : Int32)) else some (.inl (0 : Int32))) (fun (x3 : Int32) => (S_X6_in ((t_lineRow + x2).toInt64) (1 : Int64) p2.toInt64).bind (fun (y121 : Int32) => jn (if y121 = 0 then some (.inl (t_lineRow, t_lineColumn, t_lineSide)) else (S_X6_in ((t_lineColumn + x3).toInt64) (1 : Int64) p2.toInt64).bind (fun (y133 : Int32) => if y133 = 0 then some (.inl (t_lineRow, t_lineColumn, t_lineSide)) else some (.inr (.inr ((1 : Int32), t_lineRow + x2, t_lineColumn + x3, (x1 + (2 : Int32)) - (x1 + (2 : Int32)) / (4 : Int32) * (4 : Int32), t_lineMany + (1 : Int32), upd t_gone ((((6 : Int32) * (t_lineRow - (1 : Int32))) + t_lineColumn) - (1 : Int32)).toNatClampNeg (vp_nar .boolean (1 : Int32))))))) (fun (x4 : Int32 × Int32 × Int32) => some (.inr ((0 : Int32), x4.1, x4.2.1, x1, t_lineMany + (1 : Int32), upd t_gone ((((6 : Int32) * (t_lineRow - (1 : Int32))) + t_lineColumn) - (1 : Int32)).toNatClampNeg (vp_nar .boolean (1 : Int32))))))))))) 10000 (0 : Int32)
theorem kd_X6_goesOn : yX6_goesOn.cls = RX6 ∧ yX6_goesOn.cls ≠ "java/lang/invoke/MethodHandle" ∧ yX6_goesOn.cls ≠ "java/lang/invoke/VarHandle" ∧ (parseMethodDescriptor yX6_goesOn.desc).map (fun d => d.parameters.length) = some 2 := by decide +kernel
set_option maxHeartbeats 4000000 in
set_option maxRecDepth 100000 in
theorem c_X6_goesOn {l : Launch} {G : kG} (sz : Nat) {p2 : Int32} {q_t : Nat} {t_length : Int32} {q_t_text : Nat} {t_size : Int32} {q_t_sign : Nat} {t_otherSize : Int32} {q_t_other : Nat} {q_t_before : Nat} {t_undoMany : Int32} {t_readSize : Int32} {q_t_read : Nat} {q_t_side : Nat} {q_t_tall : Nat} {q_t_endRow : Nat} {q_t_endColumn : Nat} {q_t_endSide : Nat} {q_t_gone : Nat} {t_lineRow : Int32} {t_lineColumn : Int32} {t_lineSide : Int32} {t_lineMany : Int32} {q_t_ways : Nat} {q_t_codes : Nat} {q_t_many : Nat} {t_gone : Nat → Int32} {q_p1 : Nat} {p1 : Nat → Int32} {res : Int32 × Int32 × Int32 × Int32 × Int32 × (Nat → Int32)} (hE : S_X6_goesOn p2 t_lineRow t_lineColumn t_lineSide t_lineMany t_gone p1 = some res) : Met l yX6_goesOn wsX6_goesOn ({ frames := 2, cells := 0, slots := 0, locals := 47 }) (va_Pc [.ref q_t, .ref q_p1, .int p2] (fun U => U.heap.size = sz ∧ va_P G.1 vwCl [oX6 q_t t_length q_t_text t_size q_t_sign t_otherSize q_t_other q_t_before t_undoMany t_readSize q_t_read q_t_side q_t_tall q_t_endRow q_t_endColumn q_t_endSide q_t_gone t_lineRow t_lineColumn t_lineSide t_lineMany q_t_ways q_t_codes q_t_many, aI (G.2 3) q_t_gone 36 t_gone, aI (G.2 1) q_p1 36 p1] U.heap ∧ kw G U ∧ va_D (fun _ => True) [oX6 q_t t_length q_t_text t_size q_t_sign t_otherSize q_t_other q_t_before t_undoMany t_readSize q_t_read q_t_side q_t_tall q_t_endRow q_t_endColumn q_t_endSide q_t_gone t_lineRow t_lineColumn t_lineSide t_lineMany q_t_ways q_t_codes q_t_many, aI (G.2 3) q_t_gone 36 t_gone, aI (G.2 1) q_p1 36 p1])) (va_Qi (fun r (_ : Unit) => r = res.1) (fun _ t => va_P G.1 vwCl [oX6 q_t t_length q_t_text t_size q_t_sign t_otherSize q_t_other q_t_before t_undoMany t_readSize q_t_read q_t_side q_t_tall q_t_endRow q_t_endColumn q_t_endSide q_t_gone res.2.1 res.2.2.1 res.2.2.2.1 res.2.2.2.2.1 q_t_ways q_t_codes q_t_many, aI (G.2 3) q_t_gone 36 res.2.2.2.2.2, aI (G.2 1) q_p1 36 p1] t.heap ∧ va_D (va_A [oX6 q_t t_length q_t_text t_size q_t_sign t_otherSize q_t_other q_t_before t_undoMany t_readSize q_t_read q_t_side q_t_tall q_t_endRow q_t_endColumn q_t_endSide q_t_gone t_lineRow t_lineColumn t_lineSide t_lineMany q_t_ways q_t_codes q_t_many, aI (G.2 3) q_t_gone 36 t_gone, aI (G.2 1) q_p1 36 p1] sz) [oX6 q_t t_length q_t_text t_size q_t_sign t_otherSize q_t_other q_t_before t_undoMany t_readSize q_t_read q_t_side q_t_tall q_t_endRow q_t_endColumn q_t_endSide q_t_gone res.2.1 res.2.2.1 res.2.2.2.1 res.2.2.2.2.1 q_t_ways q_t_codes q_t_many, aI (G.2 3) q_t_gone 36 res.2.2.2.2.2, aI (G.2 1) q_p1 36 p1]) (va_A [oX6 q_t t_length q_t_text t_size q_t_sign t_otherSize q_t_other q_t_before t_undoMany t_readSize q_t_read q_t_side q_t_tall q_t_endRow q_t_endColumn q_t_endSide q_t_gone t_lineRow t_lineColumn t_lineSide t_lineMany q_t_ways q_t_codes q_t_many, aI (G.2 3) q_t_gone 36 t_gone, aI (G.2 1) q_p1 36 p1] sz)) 0 0 (va_A [oX6 q_t t_length q_t_text t_size q_t_sign t_otherSize q_t_other q_t_before t_undoMany t_readSize q_t_read q_t_side q_t_tall q_t_endRow q_t_endColumn q_t_endSide q_t_gone t_lineRow t_lineColumn t_lineSide t_lineMany q_t_ways q_t_codes q_t_many, aI (G.2 3) q_t_gone 36 t_gone, aI (G.2 1) q_p1 36 p1] sz) := by
  refine Met.ofQ (cc := cX6_goesOn) (maxL := 6) (ret := (some .boolean)) (by decide) rfl ?_
  intro p e s m args below meth c s₁ Q hQ B hml hv
  obtain ⟨rfl, hsz, hP, hKW, hD0⟩ := hv
  have hK := hKW.1
  have hx := B.exec
  have hb := B.bytes
  have hr := B.returns
  have hts := atoms_spec (ws := wsX6_goesOn) B.pre
  have hown : s.vm.findClass RX6 = some m.cls := findClass_of_methodNamed B.named
  have hlocks := B.notSynchronized
  have iX6 : ∀ w ∈ u_ws RX6 TX6 23, w ∈ wsX6_goesOn := by decide +kernel
  have fl_136 := hts (.fieldLink RX6 136 "AlternateSignsModel" "lineSide" "I") (by decide +kernel)
  have fl_139 := hts (.fieldLink RX6 139 "AlternateSignsModel" "lineRow" "I") (by decide +kernel)
  have fl_142 := hts (.fieldLink RX6 142 "AlternateSignsModel" "lineColumn" "I") (by decide +kernel)
  have fl_40 := hts (.fieldLink RX6 40 "AlternateSignsModel" "gone" "[Z") (by decide +kernel)
  have fl_145 := hts (.fieldLink RX6 145 "AlternateSignsModel" "lineMany" "I") (by decide +kernel)
  subst hsz
  have hD := hD0.self (sz := s.heap.size)
  generalize hAe : va_A [oX6 q_t t_length q_t_text t_size q_t_sign t_otherSize q_t_other q_t_before t_undoMany t_readSize q_t_read q_t_side q_t_tall q_t_endRow q_t_endColumn q_t_endSide q_t_gone t_lineRow t_lineColumn t_lineSide t_lineMany q_t_ways q_t_codes q_t_many, aI (G.2 3) q_t_gone 36 t_gone, aI (G.2 1) q_p1 36 p1] s.heap.size = A at hD hQ
  have hA : ∀ q : Nat, s.heap.size ≤ q → A q := fun q h => by rw [← hAe]; exact Or.inr h
  have hS : va_S A s.heap s.heap [] := va_S.rf
  have hl := lv_entry ([.ref q_t, .ref q_p1, .int p2]) (n := 6) (Nat.le_of_ble_eq_true rfl)
  rw [lg_entry_eq]
  generalize (lg_sl ([.ref q_t, .ref q_p1, .int p2]) ++ List.replicate (6 - (lg_sl ([.ref q_t, .ref q_p1, .int p2])).length) Slot.unset).toArray = ls at hl ⊢
  have hl : lv_has ls 6 [(0, .ref q_t), (1, .ref q_p1), (2, .int p2)] := hl
  unfold S_X6_goesOn at hE
  refine lv_iconst (v := 0) hx hb dX6_goesOn_0 (by decide) ?_
  refine lv_istore_n (lv' := [(3, .int (0 : Int32)), (0, .ref q_t), (1, .ref q_p1), (2, .int p2)]) hx hb dX6_goesOn_1 rfl hl (by decide) rfl (fun ls hl => ?_)
  refine itr_ind (fun (x1 : Int32) => ∀ (H : Heap) (locs : List Loc) (ls : Array Slot), va_P G.1 vwCl [oX6 q_t t_length q_t_text t_size q_t_sign t_otherSize q_t_other q_t_before t_undoMany t_readSize q_t_read q_t_side q_t_tall q_t_endRow q_t_endColumn q_t_endSide q_t_gone t_lineRow t_lineColumn t_lineSide t_lineMany q_t_ways q_t_codes q_t_many, aI (G.2 3) q_t_gone 36 t_gone, aI (G.2 1) q_p1 36 p1] H → va_D A [oX6 q_t t_length q_t_text t_size q_t_sign t_otherSize q_t_other q_t_before t_undoMany t_readSize q_t_read q_t_side q_t_tall q_t_endRow q_t_endColumn q_t_endSide q_t_gone t_lineRow t_lineColumn t_lineSide t_lineMany q_t_ways q_t_codes q_t_many, aI (G.2 3) q_t_gone 36 t_gone, aI (G.2 1) q_p1 36 p1] → va_S A s.heap H locs → lv_has ls 6 [(0, .ref q_t), (1, .ref q_p1), (2, .int p2), (3, .int x1)] → W p l e (headSpec wsX6_goesOn ({ frames := 2, cells := 0, slots := 0, locals := 47 })).room s m ([.ref q_t, .ref q_p1, .int p2] : List Value).toArray below meth c H locs 0 0 Q (F0 m 2 ls [])) (fun x1 o_1 hE ih_1 hr_1 => ?_) _ _ hE _ _ ls hP hD hS (lv_sub hl [1, 2, 3, 0] rfl)
  obtain ⟨v3_1, ex9⟩ : ∃ z, z = x1 := ⟨_, rfl⟩
  subst ex9
  try dsimp only at hE
  intro H locs ls hP hD hS hl
  try dsimp only at hP hD hl ⊢
  refine lv_iload_n hx hb dX6_goesOn_2 rfl (lv_at hl 3 rfl) ?_
  refine lv_aload_n hx hb dX6_goesOn_3 rfl (lv_at hl 0 rfl) ?_
  refine va_get (D := G.1) (ci := 6) (v := .int t_lineSide) (C := RX6) (T := TX6) (N := 23) hx hb hts iX6 hown hK hP 0 rfl rfl 18 (by decide) fl_136 (fun _ h9 => h9) rfl dX6_goesOn_4 ?_
  refine lv_icmp_eq (tgt := 26) hx hb dX6_goesOn_7 (by decide) (fun c_7 => ?_) (fun c_7 => ?_)
  · replace hE := (if_pos c_7).symm.trans hE
    refine lv_iinc (v := v3_1 + (1 : Int32)) (lv' := [(3, .int (v3_1 + (1 : Int32))), (0, .ref q_t), (1, .ref q_p1), (2, .int p2)]) hx hb dX6_goesOn_26 hl (k := 3) rfl rfl (by decide) rfl (fun ls hl => ?_)
    refine lv_goto (tgt := 2) hx hb dX6_goesOn_29 (by decide) ?_
    have e_1 := Option.some.inj hE
    exact ih_1 _ e_1.symm _ _ ls hP hD hS (lv_sub hl [1, 2, 3, 0] rfl)
  · replace hE := (if_neg c_7).symm.trans hE
    refine lv_aload_n hx hb dX6_goesOn_10 rfl (lv_at hl 1 rfl) ?_
    refine lv_aload_n hx hb dX6_goesOn_11 rfl (lv_at hl 0 rfl) ?_
    refine va_get (D := G.1) (ci := 6) (v := .int t_lineRow) (C := RX6) (T := TX6) (N := 23) hx hb hts iX6 hown hK hP 0 rfl rfl 16 (by decide) fl_139 (fun _ h9 => h9) rfl dX6_goesOn_12 ?_
    refine lv_aload_n hx hb dX6_goesOn_15 rfl (lv_at hl 0 rfl) ?_
    refine va_get (D := G.1) (ci := 6) (v := .int t_lineColumn) (C := RX6) (T := TX6) (N := 23) hx hb hts iX6 hown hK hP 0 rfl rfl 17 (by decide) fl_142 (fun _ h9 => h9) rfl dX6_goesOn_16 ?_
    refine lv_iload_n hx hb dX6_goesOn_19 rfl (lv_at hl 3 rfl) ?_
    obtain ⟨y20, hC_20, hE⟩ := Option.bind_eq_some_iff.mp hE
    obtain ⟨r_20, ex9⟩ : ∃ z, z = y20 := ⟨_, rfl⟩
    subst ex9
    try dsimp only at hE
    refine vp_callSi (va_Run.run (va_runS (As := [.ref q_p1, .int t_lineRow, .int t_lineColumn, .int v3_1]) (rest := []) ⟨hx, hb, hml, hown, hts⟩ (c_X6_isDrawn (l := l) (G := G) (p2 := t_lineRow) (p3 := t_lineColumn) (p4 := v3_1) (q_p1 := q_p1) (p1 := p1) hC_20) (va_cwS 4 hts gX6_goesOn_X6_isDrawn rfl rfl rfl kd_X6_isDrawn ⟨Nat.le_of_ble_eq_true rfl, Nat.le_of_ble_eq_true rfl⟩) (pv_S hKW (hP.sub (ws' := [aI (G.2 1) q_p1 36 p1]) [2] rfl)) rfl rfl hl.1 rfl (lv_room (Nat.le_of_ble_eq_true rfl)) dX6_goesOn_20 ⟨Nat.zero_le _, Nat.zero_le _⟩)) (fun r9 hr9 => ?_)
    subst r9
    refine lv_if_ne (tgt := 32) hx hb dX6_goesOn_23 (by decide) (fun c_23 => ?_) (fun c_23 => ?_)
    · replace hE := (if_neg c_23).symm.trans hE
      refine lv_aload_n hx hb dX6_goesOn_32 rfl (lv_at hl 0 rfl) ?_
      refine va_get (D := G.1) (ci := 6) (v := .ref q_t_gone) (C := RX6) (T := TX6) (N := 23) hx hb hts iX6 hown hK hP 0 rfl rfl 15 (by decide) fl_40 (fun _ h9 => h9) rfl dX6_goesOn_33 ?_
      refine lv_bipush (v := 6) hx hb dX6_goesOn_36 (by decide) ?_
      refine lv_aload_n hx hb dX6_goesOn_38 rfl (lv_at hl 0 rfl) ?_
      refine va_get (D := G.1) (ci := 6) (v := .int t_lineRow) (C := RX6) (T := TX6) (N := 23) hx hb hts iX6 hown hK hP 0 rfl rfl 16 (by decide) fl_139 (fun _ h9 => h9) rfl dX6_goesOn_39 ?_
      refine lv_iconst (v := 1) hx hb dX6_goesOn_42 (by decide) ?_
      refine lv_isub hx hb dX6_goesOn_43 ?_
      refine lv_imul hx hb dX6_goesOn_44 ?_
      refine lv_aload_n hx hb dX6_goesOn_45 rfl (lv_at hl 0 rfl) ?_
      refine va_get (D := G.1) (ci := 6) (v := .int t_lineColumn) (C := RX6) (T := TX6) (N := 23) hx hb hts iX6 hown hK hP 0 rfl rfl 17 (by decide) fl_142 (fun _ h9 => h9) rfl dX6_goesOn_46 ?_
      refine lv_iadd hx hb dX6_goesOn_49 ?_
      refine lv_iconst (v := 1) hx hb dX6_goesOn_50 (by decide) ?_
      refine lv_isub hx hb dX6_goesOn_51 ?_
      refine lv_iconst (v := 1) hx hb dX6_goesOn_52 (by decide) ?_
      obtain ⟨hi_53, hE⟩ := ck_some hE
      refine va_zast hx hb hK hP hD hS 1 3 rfl rfl (inb_in hi_53) dX6_goesOn_53 (fun H locs hP hD hS => ?_)
      have hP : va_P G.1 vwCl [oX6 q_t t_length q_t_text t_size q_t_sign t_otherSize q_t_other q_t_before t_undoMany t_readSize q_t_read q_t_side q_t_tall q_t_endRow q_t_endColumn q_t_endSide q_t_gone t_lineRow t_lineColumn t_lineSide t_lineMany q_t_ways q_t_codes q_t_many, aI (G.2 3) q_t_gone 36 (upd t_gone ((((6 : Int32) * (t_lineRow - (1 : Int32))) + t_lineColumn) - (1 : Int32)).toNatClampNeg (vp_nar .boolean (1 : Int32))), aI (G.2 1) q_p1 36 p1] H := hP
      have hD : va_D A [oX6 q_t t_length q_t_text t_size q_t_sign t_otherSize q_t_other q_t_before t_undoMany t_readSize q_t_read q_t_side q_t_tall q_t_endRow q_t_endColumn q_t_endSide q_t_gone t_lineRow t_lineColumn t_lineSide t_lineMany q_t_ways q_t_codes q_t_many, aI (G.2 3) q_t_gone 36 (upd t_gone ((((6 : Int32) * (t_lineRow - (1 : Int32))) + t_lineColumn) - (1 : Int32)).toNatClampNeg (vp_nar .boolean (1 : Int32))), aI (G.2 1) q_p1 36 p1] := hD
      refine lv_aload_n hx hb dX6_goesOn_54 rfl (lv_at hl 0 rfl) ?_
      refine va_get (D := G.1) (ci := 6) (v := .int t_lineRow) (C := RX6) (T := TX6) (N := 23) hx hb hts iX6 hown hK hP 0 rfl rfl 16 (by decide) fl_139 (fun _ h9 => h9) rfl dX6_goesOn_55 ?_
      refine lv_iload_n hx hb dX6_goesOn_58 rfl (lv_at hl 3 rfl) ?_
      refine lv_iconst (v := 2) hx hb dX6_goesOn_59 (by decide) ?_
      obtain ⟨o_2, hEp, hk9, hr_2⟩ := jn_some hE
      have ih_2 : ∀ (x2 : Int32), o_2 = .inl x2 → ∀ (H : Heap) (locs : List Loc) (ls : Array Slot), va_P G.1 vwCl [oX6 q_t t_length q_t_text t_size q_t_sign t_otherSize q_t_other q_t_before t_undoMany t_readSize q_t_read q_t_side q_t_tall q_t_endRow q_t_endColumn q_t_endSide q_t_gone t_lineRow t_lineColumn t_lineSide t_lineMany q_t_ways q_t_codes q_t_many, aI (G.2 3) q_t_gone 36 (upd t_gone ((((6 : Int32) * (t_lineRow - (1 : Int32))) + t_lineColumn) - (1 : Int32)).toNatClampNeg (vp_nar .boolean (1 : Int32))), aI (G.2 1) q_p1 36 p1] H → va_D A [oX6 q_t t_length q_t_text t_size q_t_sign t_otherSize q_t_other q_t_before t_undoMany t_readSize q_t_read q_t_side q_t_tall q_t_endRow q_t_endColumn q_t_endSide q_t_gone t_lineRow t_lineColumn t_lineSide t_lineMany q_t_ways q_t_codes q_t_many, aI (G.2 3) q_t_gone 36 (upd t_gone ((((6 : Int32) * (t_lineRow - (1 : Int32))) + t_lineColumn) - (1 : Int32)).toNatClampNeg (vp_nar .boolean (1 : Int32))), aI (G.2 1) q_p1 36 p1] → va_S A s.heap H locs → lv_has ls 6 [(0, .ref q_t), (2, .int p2), (3, .int v3_1)] → W p l e (headSpec wsX6_goesOn ({ frames := 2, cells := 0, slots := 0, locals := 47 })).room s m ([.ref q_t, .ref q_p1, .int p2] : List Value).toArray below meth c H locs 0 0 Q (F0 m 76 ls [.int x2, .int t_lineRow]) := by
        intro x2 ho9
        have hE := hk9 _ ho9
        obtain ⟨k1_2, ex9⟩ : ∃ z, z = x2 := ⟨_, rfl⟩
        subst ex9
        try dsimp only at hE
        intro H locs ls hP hD hS hl
        try dsimp only at hP hD hl ⊢
        refine lv_iadd hx hb dX6_goesOn_76 ?_
        refine lv_istore (lv' := [(4, .int (t_lineRow + k1_2)), (0, .ref q_t), (2, .int p2), (3, .int v3_1)]) hx hb dX6_goesOn_77 hl (by decide) rfl (fun ls hl => ?_)
        refine lv_aload_n hx hb dX6_goesOn_79 rfl (lv_at hl 1 rfl) ?_
        refine va_get (D := G.1) (ci := 6) (v := .int t_lineColumn) (C := RX6) (T := TX6) (N := 23) hx hb hts iX6 hown hK hP 0 rfl rfl 17 (by decide) fl_142 (fun _ h9 => h9) rfl dX6_goesOn_80 ?_
        refine lv_iload_n hx hb dX6_goesOn_83 rfl (lv_at hl 3 rfl) ?_
        refine lv_iconst (v := 1) hx hb dX6_goesOn_84 (by decide) ?_
        obtain ⟨o_2, hEp, hk9, hr_2⟩ := jn_some hE
        have ih_2 : ∀ (x3 : Int32), o_2 = .inl x3 → ∀ (H : Heap) (locs : List Loc) (ls : Array Slot), va_P G.1 vwCl [oX6 q_t t_length q_t_text t_size q_t_sign t_otherSize q_t_other q_t_before t_undoMany t_readSize q_t_read q_t_side q_t_tall q_t_endRow q_t_endColumn q_t_endSide q_t_gone t_lineRow t_lineColumn t_lineSide t_lineMany q_t_ways q_t_codes q_t_many, aI (G.2 3) q_t_gone 36 (upd t_gone ((((6 : Int32) * (t_lineRow - (1 : Int32))) + t_lineColumn) - (1 : Int32)).toNatClampNeg (vp_nar .boolean (1 : Int32))), aI (G.2 1) q_p1 36 p1] H → va_D A [oX6 q_t t_length q_t_text t_size q_t_sign t_otherSize q_t_other q_t_before t_undoMany t_readSize q_t_read q_t_side q_t_tall q_t_endRow q_t_endColumn q_t_endSide q_t_gone t_lineRow t_lineColumn t_lineSide t_lineMany q_t_ways q_t_codes q_t_many, aI (G.2 3) q_t_gone 36 (upd t_gone ((((6 : Int32) * (t_lineRow - (1 : Int32))) + t_lineColumn) - (1 : Int32)).toNatClampNeg (vp_nar .boolean (1 : Int32))), aI (G.2 1) q_p1 36 p1] → va_S A s.heap H locs → lv_has ls 6 [(0, .ref q_t), (2, .int p2), (3, .int v3_1), (4, .int (t_lineRow + k1_2))] → W p l e (headSpec wsX6_goesOn ({ frames := 2, cells := 0, slots := 0, locals := 47 })).room s m ([.ref q_t, .ref q_p1, .int p2] : List Value).toArray below meth c H locs 0 0 Q (F0 m 102 ls [.int x3, .int t_lineColumn]) := by
          intro x3 ho9
          have hE := hk9 _ ho9
          obtain ⟨k1_3, ex9⟩ : ∃ z, z = x3 := ⟨_, rfl⟩
          subst ex9
          try dsimp only at hE
          intro H locs ls hP hD hS hl
          try dsimp only at hP hD hl ⊢
          refine lv_iadd hx hb dX6_goesOn_102 ?_
          refine lv_istore (lv' := [(5, .int (t_lineColumn + k1_3)), (0, .ref q_t), (2, .int p2), (3, .int v3_1), (4, .int (t_lineRow + k1_2))]) hx hb dX6_goesOn_103 hl (by decide) rfl (fun ls hl => ?_)
          refine lv_aload_n hx hb dX6_goesOn_105 rfl (lv_at hl 1 rfl) ?_
          refine lv_dup hx hb dX6_goesOn_106 rfl ?_
          refine va_get (D := G.1) (ci := 6) (v := .int t_lineMany) (C := RX6) (T := TX6) (N := 23) hx hb hts iX6 hown hK hP 0 rfl rfl 19 (by decide) fl_145 (fun _ h9 => h9) rfl dX6_goesOn_107 ?_
          refine lv_iconst (v := 1) hx hb dX6_goesOn_110 (by decide) ?_
          refine lv_iadd hx hb dX6_goesOn_111 ?_
          refine va_put (D := G.1) (ci := 6) (v := .int (t_lineMany + (1 : Int32))) (ty := .int) (C := RX6) (T := TX6) (N := 23) hx hb hts iX6 tyX6 tyX6_ok nmX6 hown hK hP hD hS 0 rfl rfl 19 (by decide) fl_145 (fun _ h9 => h9) rfl (by decide +kernel) rfl rfl (Nat.le_of_ble_eq_true rfl) dX6_goesOn_112 (fun H locs hP hD hS => ?_)
          have hP : va_P G.1 vwCl [oX6 q_t t_length q_t_text t_size q_t_sign t_otherSize q_t_other q_t_before t_undoMany t_readSize q_t_read q_t_side q_t_tall q_t_endRow q_t_endColumn q_t_endSide q_t_gone t_lineRow t_lineColumn t_lineSide (t_lineMany + (1 : Int32)) q_t_ways q_t_codes q_t_many, aI (G.2 3) q_t_gone 36 (upd t_gone ((((6 : Int32) * (t_lineRow - (1 : Int32))) + t_lineColumn) - (1 : Int32)).toNatClampNeg (vp_nar .boolean (1 : Int32))), aI (G.2 1) q_p1 36 p1] H := hP
          have hD : va_D A [oX6 q_t t_length q_t_text t_size q_t_sign t_otherSize q_t_other q_t_before t_undoMany t_readSize q_t_read q_t_side q_t_tall q_t_endRow q_t_endColumn q_t_endSide q_t_gone t_lineRow t_lineColumn t_lineSide (t_lineMany + (1 : Int32)) q_t_ways q_t_codes q_t_many, aI (G.2 3) q_t_gone 36 (upd t_gone ((((6 : Int32) * (t_lineRow - (1 : Int32))) + t_lineColumn) - (1 : Int32)).toNatClampNeg (vp_nar .boolean (1 : Int32))), aI (G.2 1) q_p1 36 p1] := hD
          refine lv_iload hx hb dX6_goesOn_115 (lv_at hl 4 rfl) ?_
          refine lv_i2l (v := (t_lineRow + k1_2).toInt64) hx hb dX6_goesOn_117 rfl ?_
          refine lv_lconst (v := 1) hx hb dX6_goesOn_118 (by decide) ?_
          refine lv_iload_n hx hb dX6_goesOn_119 rfl (lv_at hl 2 rfl) ?_
          refine lv_i2l (v := p2.toInt64) hx hb dX6_goesOn_120 rfl ?_
          obtain ⟨y121, hC_121, hE⟩ := Option.bind_eq_some_iff.mp hE
          obtain ⟨r_121, ex9⟩ : ∃ z, z = y121 := ⟨_, rfl⟩
          subst ex9
          try dsimp only at hE
          refine vp_callSi (va_Run.run (va_runS (As := [.long ((t_lineRow + k1_2).toInt64), .long (1 : Int64), .long p2.toInt64]) (rest := []) ⟨hx, hb, hml, hown, hts⟩ (c_X6_in (l := l) (G := G) (p1 := (t_lineRow + k1_2).toInt64) (p2 := (1 : Int64)) (p3 := p2.toInt64) hC_121) (va_cwS 3 hts gX6_goesOn_X6_in rfl rfl rfl kd_X6_in ⟨Nat.le_of_ble_eq_true rfl, Nat.le_of_ble_eq_true rfl⟩) (pv_S hKW (hP.sub (ws' := []) [] rfl)) rfl rfl hl.1 rfl (lv_room (Nat.le_of_ble_eq_true rfl)) dX6_goesOn_121 ⟨Nat.zero_le _, Nat.zero_le _⟩)) (fun r9 hr9 => ?_)
          subst r9
          obtain ⟨o_2, hEp, hk9, hr_2⟩ := jn_some hE
          have ih_2 : ∀ (x4 : Int32 × Int32 × Int32), o_2 = .inl x4 → ∀ (H : Heap) (locs : List Loc) (ls : Array Slot), va_P G.1 vwCl [oX6 q_t t_length q_t_text t_size q_t_sign t_otherSize q_t_other q_t_before t_undoMany t_readSize q_t_read q_t_side q_t_tall q_t_endRow q_t_endColumn q_t_endSide q_t_gone x4.1 x4.2.1 x4.2.2 (t_lineMany + (1 : Int32)) q_t_ways q_t_codes q_t_many, aI (G.2 3) q_t_gone 36 (upd t_gone ((((6 : Int32) * (t_lineRow - (1 : Int32))) + t_lineColumn) - (1 : Int32)).toNatClampNeg (vp_nar .boolean (1 : Int32))), aI (G.2 1) q_p1 36 p1] H → va_D A [oX6 q_t t_length q_t_text t_size q_t_sign t_otherSize q_t_other q_t_before t_undoMany t_readSize q_t_read q_t_side q_t_tall q_t_endRow q_t_endColumn q_t_endSide q_t_gone x4.1 x4.2.1 x4.2.2 (t_lineMany + (1 : Int32)) q_t_ways q_t_codes q_t_many, aI (G.2 3) q_t_gone 36 (upd t_gone ((((6 : Int32) * (t_lineRow - (1 : Int32))) + t_lineColumn) - (1 : Int32)).toNatClampNeg (vp_nar .boolean (1 : Int32))), aI (G.2 1) q_p1 36 p1] → va_S A s.heap H locs → lv_has ls 6 [(0, .ref q_t), (3, .int v3_1)] → W p l e (headSpec wsX6_goesOn ({ frames := 2, cells := 0, slots := 0, locals := 47 })).room s m ([.ref q_t, .ref q_p1, .int p2] : List Value).toArray below meth c H locs 0 0 Q (F0 m 139 ls []) := by
            intro x4 ho9
            have hE := hk9 _ ho9
            obtain ⟨w_t_lineRow_4, w_t_lineColumn_4, w_t_lineSide_4⟩ := x4
            try dsimp only at hE
            intro H locs ls hP hD hS hl
            try dsimp only at hP hD hl ⊢
            refine lv_aload_n hx hb dX6_goesOn_139 rfl (lv_at hl 0 rfl) ?_
            refine lv_iload_n hx hb dX6_goesOn_140 rfl (lv_at hl 1 rfl) ?_
            refine va_put (D := G.1) (ci := 6) (v := .int v3_1) (ty := .int) (C := RX6) (T := TX6) (N := 23) hx hb hts iX6 tyX6 tyX6_ok nmX6 hown hK hP hD hS 0 rfl rfl 18 (by decide) fl_136 (fun _ h9 => h9) rfl (by decide +kernel) rfl rfl (Nat.le_of_ble_eq_true rfl) dX6_goesOn_141 (fun H locs hP hD hS => ?_)
            have hP : va_P G.1 vwCl [oX6 q_t t_length q_t_text t_size q_t_sign t_otherSize q_t_other q_t_before t_undoMany t_readSize q_t_read q_t_side q_t_tall q_t_endRow q_t_endColumn q_t_endSide q_t_gone w_t_lineRow_4 w_t_lineColumn_4 v3_1 (t_lineMany + (1 : Int32)) q_t_ways q_t_codes q_t_many, aI (G.2 3) q_t_gone 36 (upd t_gone ((((6 : Int32) * (t_lineRow - (1 : Int32))) + t_lineColumn) - (1 : Int32)).toNatClampNeg (vp_nar .boolean (1 : Int32))), aI (G.2 1) q_p1 36 p1] H := hP
            have hD : va_D A [oX6 q_t t_length q_t_text t_size q_t_sign t_otherSize q_t_other q_t_before t_undoMany t_readSize q_t_read q_t_side q_t_tall q_t_endRow q_t_endColumn q_t_endSide q_t_gone w_t_lineRow_4 w_t_lineColumn_4 v3_1 (t_lineMany + (1 : Int32)) q_t_ways q_t_codes q_t_many, aI (G.2 3) q_t_gone 36 (upd t_gone ((((6 : Int32) * (t_lineRow - (1 : Int32))) + t_lineColumn) - (1 : Int32)).toNatClampNeg (vp_nar .boolean (1 : Int32))), aI (G.2 1) q_p1 36 p1] := hD
            refine lv_iconst (v := 0) hx hb dX6_goesOn_144 (by decide) ?_
            have e_1 := Option.some.inj hE
            have e_0 := hr_1 _ e_1.symm
            subst e_0
            rw [hQ]
            exact W.zret (v := (0 : Int32)) hx hb hr rfl (fun t ht _ => ⟨⟨_, (), rfl, rfl, by rw [ht]; exact hP, hD⟩, hS.F ht⟩) hS.2.2 dX6_goesOn_145
          clear hE hk9
          have hE := hEp
          clear hEp
          refine lv_if_eq (tgt := 139) hx hb dX6_goesOn_124 (by decide) (fun c_124 => ?_) (fun c_124 => ?_)
          · replace hE := (if_pos c_124).symm.trans hE
            have e_2 := Option.some.inj hE
            exact ih_2 _ e_2.symm _ _ ls hP hD hS (lv_sub hl [1, 3] rfl)
          · replace hE := (if_neg c_124).symm.trans hE
            refine lv_iload hx hb dX6_goesOn_127 (lv_at hl 0 rfl) ?_
            refine lv_i2l (v := (t_lineColumn + k1_3).toInt64) hx hb dX6_goesOn_129 rfl ?_
            refine lv_lconst (v := 1) hx hb dX6_goesOn_130 (by decide) ?_
            refine lv_iload_n hx hb dX6_goesOn_131 rfl (lv_at hl 2 rfl) ?_
            refine lv_i2l (v := p2.toInt64) hx hb dX6_goesOn_132 rfl ?_
            obtain ⟨y133, hC_133, hE⟩ := Option.bind_eq_some_iff.mp hE
            obtain ⟨r_133, ex9⟩ : ∃ z, z = y133 := ⟨_, rfl⟩
            subst ex9
            try dsimp only at hE
            refine vp_callSi (va_Run.run (va_runS (As := [.long ((t_lineColumn + k1_3).toInt64), .long (1 : Int64), .long p2.toInt64]) (rest := []) ⟨hx, hb, hml, hown, hts⟩ (c_X6_in (l := l) (G := G) (p1 := (t_lineColumn + k1_3).toInt64) (p2 := (1 : Int64)) (p3 := p2.toInt64) hC_133) (va_cwS 3 hts gX6_goesOn_X6_in rfl rfl rfl kd_X6_in ⟨Nat.le_of_ble_eq_true rfl, Nat.le_of_ble_eq_true rfl⟩) (pv_S hKW (hP.sub (ws' := []) [] rfl)) rfl rfl hl.1 rfl (lv_room (Nat.le_of_ble_eq_true rfl)) dX6_goesOn_133 ⟨Nat.zero_le _, Nat.zero_le _⟩)) (fun r9 hr9 => ?_)
            subst r9
            refine lv_if_ne (tgt := 146) hx hb dX6_goesOn_136 (by decide) (fun c_136 => ?_) (fun c_136 => ?_)
            · replace hE := (if_neg c_136).symm.trans hE
              refine lv_aload_n hx hb dX6_goesOn_146 rfl (lv_at hl 1 rfl) ?_
              refine lv_iload hx hb dX6_goesOn_147 (lv_at hl 4 rfl) ?_
              refine va_put (D := G.1) (ci := 6) (v := .int (t_lineRow + k1_2)) (ty := .int) (C := RX6) (T := TX6) (N := 23) hx hb hts iX6 tyX6 tyX6_ok nmX6 hown hK hP hD hS 0 rfl rfl 16 (by decide) fl_139 (fun _ h9 => h9) rfl (by decide +kernel) rfl rfl (Nat.le_of_ble_eq_true rfl) dX6_goesOn_149 (fun H locs hP hD hS => ?_)
              have hP : va_P G.1 vwCl [oX6 q_t t_length q_t_text t_size q_t_sign t_otherSize q_t_other q_t_before t_undoMany t_readSize q_t_read q_t_side q_t_tall q_t_endRow q_t_endColumn q_t_endSide q_t_gone (t_lineRow + k1_2) t_lineColumn t_lineSide (t_lineMany + (1 : Int32)) q_t_ways q_t_codes q_t_many, aI (G.2 3) q_t_gone 36 (upd t_gone ((((6 : Int32) * (t_lineRow - (1 : Int32))) + t_lineColumn) - (1 : Int32)).toNatClampNeg (vp_nar .boolean (1 : Int32))), aI (G.2 1) q_p1 36 p1] H := hP
              have hD : va_D A [oX6 q_t t_length q_t_text t_size q_t_sign t_otherSize q_t_other q_t_before t_undoMany t_readSize q_t_read q_t_side q_t_tall q_t_endRow q_t_endColumn q_t_endSide q_t_gone (t_lineRow + k1_2) t_lineColumn t_lineSide (t_lineMany + (1 : Int32)) q_t_ways q_t_codes q_t_many, aI (G.2 3) q_t_gone 36 (upd t_gone ((((6 : Int32) * (t_lineRow - (1 : Int32))) + t_lineColumn) - (1 : Int32)).toNatClampNeg (vp_nar .boolean (1 : Int32))), aI (G.2 1) q_p1 36 p1] := hD
              refine lv_aload_n hx hb dX6_goesOn_152 rfl (lv_at hl 1 rfl) ?_
              refine lv_iload hx hb dX6_goesOn_153 (lv_at hl 0 rfl) ?_
              refine va_put (D := G.1) (ci := 6) (v := .int (t_lineColumn + k1_3)) (ty := .int) (C := RX6) (T := TX6) (N := 23) hx hb hts iX6 tyX6 tyX6_ok nmX6 hown hK hP hD hS 0 rfl rfl 17 (by decide) fl_142 (fun _ h9 => h9) rfl (by decide +kernel) rfl rfl (Nat.le_of_ble_eq_true rfl) dX6_goesOn_155 (fun H locs hP hD hS => ?_)
              have hP : va_P G.1 vwCl [oX6 q_t t_length q_t_text t_size q_t_sign t_otherSize q_t_other q_t_before t_undoMany t_readSize q_t_read q_t_side q_t_tall q_t_endRow q_t_endColumn q_t_endSide q_t_gone (t_lineRow + k1_2) (t_lineColumn + k1_3) t_lineSide (t_lineMany + (1 : Int32)) q_t_ways q_t_codes q_t_many, aI (G.2 3) q_t_gone 36 (upd t_gone ((((6 : Int32) * (t_lineRow - (1 : Int32))) + t_lineColumn) - (1 : Int32)).toNatClampNeg (vp_nar .boolean (1 : Int32))), aI (G.2 1) q_p1 36 p1] H := hP
              have hD : va_D A [oX6 q_t t_length q_t_text t_size q_t_sign t_otherSize q_t_other q_t_before t_undoMany t_readSize q_t_read q_t_side q_t_tall q_t_endRow q_t_endColumn q_t_endSide q_t_gone (t_lineRow + k1_2) (t_lineColumn + k1_3) t_lineSide (t_lineMany + (1 : Int32)) q_t_ways q_t_codes q_t_many, aI (G.2 3) q_t_gone 36 (upd t_gone ((((6 : Int32) * (t_lineRow - (1 : Int32))) + t_lineColumn) - (1 : Int32)).toNatClampNeg (vp_nar .boolean (1 : Int32))), aI (G.2 1) q_p1 36 p1] := hD
              refine lv_aload_n hx hb dX6_goesOn_158 rfl (lv_at hl 1 rfl) ?_
              refine lv_iload_n hx hb dX6_goesOn_159 rfl (lv_at hl 3 rfl) ?_
              refine lv_iconst (v := 2) hx hb dX6_goesOn_160 (by decide) ?_
              refine lv_iadd hx hb dX6_goesOn_161 ?_
              refine lv_iconst (v := 4) hx hb dX6_goesOn_162 (by decide) ?_
              refine lv_irem hx hb dX6_goesOn_163 (by decide) ?_
              refine va_put (D := G.1) (ci := 6) (v := .int ((v3_1 + (2 : Int32)) - (v3_1 + (2 : Int32)) / (4 : Int32) * (4 : Int32))) (ty := .int) (C := RX6) (T := TX6) (N := 23) hx hb hts iX6 tyX6 tyX6_ok nmX6 hown hK hP hD hS 0 rfl rfl 18 (by decide) fl_136 (fun _ h9 => h9) rfl (by decide +kernel) rfl rfl (Nat.le_of_ble_eq_true rfl) dX6_goesOn_164 (fun H locs hP hD hS => ?_)
              have hP : va_P G.1 vwCl [oX6 q_t t_length q_t_text t_size q_t_sign t_otherSize q_t_other q_t_before t_undoMany t_readSize q_t_read q_t_side q_t_tall q_t_endRow q_t_endColumn q_t_endSide q_t_gone (t_lineRow + k1_2) (t_lineColumn + k1_3) ((v3_1 + (2 : Int32)) - (v3_1 + (2 : Int32)) / (4 : Int32) * (4 : Int32)) (t_lineMany + (1 : Int32)) q_t_ways q_t_codes q_t_many, aI (G.2 3) q_t_gone 36 (upd t_gone ((((6 : Int32) * (t_lineRow - (1 : Int32))) + t_lineColumn) - (1 : Int32)).toNatClampNeg (vp_nar .boolean (1 : Int32))), aI (G.2 1) q_p1 36 p1] H := hP
              have hD : va_D A [oX6 q_t t_length q_t_text t_size q_t_sign t_otherSize q_t_other q_t_before t_undoMany t_readSize q_t_read q_t_side q_t_tall q_t_endRow q_t_endColumn q_t_endSide q_t_gone (t_lineRow + k1_2) (t_lineColumn + k1_3) ((v3_1 + (2 : Int32)) - (v3_1 + (2 : Int32)) / (4 : Int32) * (4 : Int32)) (t_lineMany + (1 : Int32)) q_t_ways q_t_codes q_t_many, aI (G.2 3) q_t_gone 36 (upd t_gone ((((6 : Int32) * (t_lineRow - (1 : Int32))) + t_lineColumn) - (1 : Int32)).toNatClampNeg (vp_nar .boolean (1 : Int32))), aI (G.2 1) q_p1 36 p1] := hD
              refine lv_iconst (v := 1) hx hb dX6_goesOn_167 (by decide) ?_
              have e_2 := Option.some.inj hE
              have e_1 := hr_2 _ e_2.symm
              have e_0 := hr_1 _ e_1.symm
              subst e_0
              rw [hQ]
              exact W.zret (v := (1 : Int32)) hx hb hr rfl (fun t ht _ => ⟨⟨_, (), rfl, rfl, by rw [ht]; exact hP, hD⟩, hS.F ht⟩) hS.2.2 dX6_goesOn_168
            · replace hE := (if_pos c_136).symm.trans hE
              have e_2 := Option.some.inj hE
              exact ih_2 _ e_2.symm _ _ ls hP hD hS (lv_sub hl [1, 3] rfl)
        clear hE hk9
        have hE := hEp
        clear hEp
        refine lv_icmp_ne (tgt := 92) hx hb dX6_goesOn_85 (by decide) (fun c_85 => ?_) (fun c_85 => ?_)
        · replace hE := (if_neg c_85).symm.trans hE
          refine lv_iload_n hx hb dX6_goesOn_92 rfl (lv_at hl 3 rfl) ?_
          refine lv_iconst (v := 3) hx hb dX6_goesOn_93 (by decide) ?_
          refine lv_icmp_ne (tgt := 101) hx hb dX6_goesOn_94 (by decide) (fun c_94 => ?_) (fun c_94 => ?_)
          · replace hE := (if_neg c_94).symm.trans hE
            refine lv_iconst (v := 0) hx hb dX6_goesOn_101 (by decide) ?_
            have e_2 := Option.some.inj hE
            exact ih_2 _ e_2.symm _ _ ls hP hD hS (lv_sub hl [1, 2, 3, 0] rfl)
          · replace hE := (if_pos c_94).symm.trans hE
            refine lv_iconst (v := -1) hx hb dX6_goesOn_97 (by decide) ?_
            refine lv_goto (tgt := 102) hx hb dX6_goesOn_98 (by decide) ?_
            have e_2 := Option.some.inj hE
            exact ih_2 _ e_2.symm _ _ ls hP hD hS (lv_sub hl [1, 2, 3, 0] rfl)
        · replace hE := (if_pos c_85).symm.trans hE
          refine lv_iconst (v := 1) hx hb dX6_goesOn_88 (by decide) ?_
          refine lv_goto (tgt := 102) hx hb dX6_goesOn_89 (by decide) ?_
          have e_2 := Option.some.inj hE
          exact ih_2 _ e_2.symm _ _ ls hP hD hS (lv_sub hl [1, 2, 3, 0] rfl)
      clear hE hk9
      have hE := hEp
      clear hEp
      refine lv_icmp_ne (tgt := 67) hx hb dX6_goesOn_60 (by decide) (fun c_60 => ?_) (fun c_60 => ?_)
      · replace hE := (if_neg c_60).symm.trans hE
        refine lv_iload_n hx hb dX6_goesOn_67 rfl (lv_at hl 3 rfl) ?_
        refine lv_if_ne (tgt := 75) hx hb dX6_goesOn_68 (by decide) (fun c_68 => ?_) (fun c_68 => ?_)
        · replace hE := (if_neg c_68).symm.trans hE
          refine lv_iconst (v := 0) hx hb dX6_goesOn_75 (by decide) ?_
          have e_2 := Option.some.inj hE
          exact ih_2 _ e_2.symm _ _ ls hP hD hS (lv_sub hl [0, 2, 3] rfl)
        · replace hE := (if_pos c_68).symm.trans hE
          refine lv_iconst (v := -1) hx hb dX6_goesOn_71 (by decide) ?_
          refine lv_goto (tgt := 76) hx hb dX6_goesOn_72 (by decide) ?_
          have e_2 := Option.some.inj hE
          exact ih_2 _ e_2.symm _ _ ls hP hD hS (lv_sub hl [0, 2, 3] rfl)
      · replace hE := (if_pos c_60).symm.trans hE
        refine lv_iconst (v := 1) hx hb dX6_goesOn_63 (by decide) ?_
        refine lv_goto (tgt := 76) hx hb dX6_goesOn_64 (by decide) ?_
        have e_2 := Option.some.inj hE
        exact ih_2 _ e_2.symm _ _ ls hP hD hS (lv_sub hl [0, 2, 3] rfl)
    · replace hE := (if_pos c_23).symm.trans hE
      refine lv_iinc (v := v3_1 + (1 : Int32)) (lv' := [(3, .int (v3_1 + (1 : Int32))), (0, .ref q_t), (1, .ref q_p1), (2, .int p2)]) hx hb dX6_goesOn_26 hl (k := 3) rfl rfl (by decide) rfl (fun ls hl => ?_)
      refine lv_goto (tgt := 2) hx hb dX6_goesOn_29 (by decide) ?_
      have e_1 := Option.some.inj hE
      exact ih_1 _ e_1.symm _ _ ls hP hD hS (lv_sub hl [1, 2, 3, 0] rfl)
def S_X6_goes (p2 : Int32) (p3 : Int32) (t_endRow : Nat → Int32) (t_endColumn : Nat → Int32) (t_endSide : Nat → Int32) (t_gone : Nat → Int32) (p1 : Nat → Int32) : Option (Int32 × Int32 × Int32 × Int32 × Int32 × (Nat → Int32)) := ck (inb p3 12) (ck (inb p3 12) (ck (inb p3 12) (itr (fun (x1 : Int32 × Int32 × Int32 × Int32 × Int32 × (Nat → Int32)) => if x1.1 = 0 then itr (fun (x2 : Int32) => ck (inb x2 12) (if (t_endRow x2.toNatClampNeg) = x1.2.1 then ck (inb x2 12) (if (t_endColumn x2.toNatClampNeg) = x1.2.2.1 then ck (inb x2 12) (if (t_endSide x2.toNatClampNeg) = x1.2.2.2.1 then some (.inr (.inr (x2, x1.2.1, x1.2.2.1, x1.2.2.2.1, x1.2.2.2.2.1, x1.2.2.2.2.2))) else some (.inl (x2 + (1 : Int32)))) else some (.inl (x2 + (1 : Int32)))) else some (.inl (x2 + (1 : Int32))))) 10000 (0 : Int32) else (S_X6_goesOn p2 x1.2.1 x1.2.2.1 x1.2.2.2.1 x1.2.2.2.2.1 x1.2.2.2.2.2 p1).bind (fun (y46 : Int32 × Int32 × Int32 × Int32 × Int32 × (Nat → Int32)) => some (.inl (y46.1, y46.2.1, y46.2.2.1, y46.2.2.2.1, y46.2.2.2.2.1, y46.2.2.2.2.2)))) 10000 ((1 : Int32), t_endRow p3.toNatClampNeg, t_endColumn p3.toNatClampNeg, t_endSide p3.toNatClampNeg, (1 : Int32), t_gone))))
theorem kd_X6_goes : yX6_goes.cls = RX6 ∧ yX6_goes.cls ≠ "java/lang/invoke/MethodHandle" ∧ yX6_goes.cls ≠ "java/lang/invoke/VarHandle" ∧ (parseMethodDescriptor yX6_goes.desc).map (fun d => d.parameters.length) = some 3 := by decide +kernel
set_option maxHeartbeats 4000000 in
set_option maxRecDepth 100000 in
theorem c_X6_goes {l : Launch} {G : kG} (sz : Nat) {p2 : Int32} {p3 : Int32} {q_t : Nat} {t_length : Int32} {q_t_text : Nat} {t_size : Int32} {q_t_sign : Nat} {t_otherSize : Int32} {q_t_other : Nat} {q_t_before : Nat} {t_undoMany : Int32} {t_readSize : Int32} {q_t_read : Nat} {q_t_side : Nat} {q_t_tall : Nat} {q_t_endRow : Nat} {q_t_endColumn : Nat} {q_t_endSide : Nat} {q_t_gone : Nat} {t_lineRow : Int32} {t_lineColumn : Int32} {t_lineSide : Int32} {t_lineMany : Int32} {q_t_ways : Nat} {q_t_codes : Nat} {q_t_many : Nat} {t_endRow : Nat → Int32} {t_endColumn : Nat → Int32} {t_endSide : Nat → Int32} {t_gone : Nat → Int32} {q_p1 : Nat} {p1 : Nat → Int32} {res : Int32 × Int32 × Int32 × Int32 × Int32 × (Nat → Int32)} (hE : S_X6_goes p2 p3 t_endRow t_endColumn t_endSide t_gone p1 = some res) : Met l yX6_goes wsX6_goes ({ frames := 3, cells := 0, slots := 0, locals := 72 }) (va_Pc [.ref q_t, .ref q_p1, .int p2, .int p3] (fun U => U.heap.size = sz ∧ va_P G.1 vwCl [oX6 q_t t_length q_t_text t_size q_t_sign t_otherSize q_t_other q_t_before t_undoMany t_readSize q_t_read q_t_side q_t_tall q_t_endRow q_t_endColumn q_t_endSide q_t_gone t_lineRow t_lineColumn t_lineSide t_lineMany q_t_ways q_t_codes q_t_many, aI (G.2 1) q_t_endRow 12 t_endRow, aI (G.2 1) q_t_endColumn 12 t_endColumn, aI (G.2 1) q_t_endSide 12 t_endSide, aI (G.2 3) q_t_gone 36 t_gone, aI (G.2 1) q_p1 36 p1] U.heap ∧ kw G U ∧ va_D (fun _ => True) [oX6 q_t t_length q_t_text t_size q_t_sign t_otherSize q_t_other q_t_before t_undoMany t_readSize q_t_read q_t_side q_t_tall q_t_endRow q_t_endColumn q_t_endSide q_t_gone t_lineRow t_lineColumn t_lineSide t_lineMany q_t_ways q_t_codes q_t_many, aI (G.2 1) q_t_endRow 12 t_endRow, aI (G.2 1) q_t_endColumn 12 t_endColumn, aI (G.2 1) q_t_endSide 12 t_endSide, aI (G.2 3) q_t_gone 36 t_gone, aI (G.2 1) q_p1 36 p1])) (va_Qi (fun r (_ : Unit) => r = res.1) (fun _ t => va_P G.1 vwCl [oX6 q_t t_length q_t_text t_size q_t_sign t_otherSize q_t_other q_t_before t_undoMany t_readSize q_t_read q_t_side q_t_tall q_t_endRow q_t_endColumn q_t_endSide q_t_gone res.2.1 res.2.2.1 res.2.2.2.1 res.2.2.2.2.1 q_t_ways q_t_codes q_t_many, aI (G.2 1) q_t_endRow 12 t_endRow, aI (G.2 1) q_t_endColumn 12 t_endColumn, aI (G.2 1) q_t_endSide 12 t_endSide, aI (G.2 3) q_t_gone 36 res.2.2.2.2.2, aI (G.2 1) q_p1 36 p1] t.heap ∧ va_D (va_A [oX6 q_t t_length q_t_text t_size q_t_sign t_otherSize q_t_other q_t_before t_undoMany t_readSize q_t_read q_t_side q_t_tall q_t_endRow q_t_endColumn q_t_endSide q_t_gone t_lineRow t_lineColumn t_lineSide t_lineMany q_t_ways q_t_codes q_t_many, aI (G.2 1) q_t_endRow 12 t_endRow, aI (G.2 1) q_t_endColumn 12 t_endColumn, aI (G.2 1) q_t_endSide 12 t_endSide, aI (G.2 3) q_t_gone 36 t_gone, aI (G.2 1) q_p1 36 p1] sz) [oX6 q_t t_length q_t_text t_size q_t_sign t_otherSize q_t_other q_t_before t_undoMany t_readSize q_t_read q_t_side q_t_tall q_t_endRow q_t_endColumn q_t_endSide q_t_gone res.2.1 res.2.2.1 res.2.2.2.1 res.2.2.2.2.1 q_t_ways q_t_codes q_t_many, aI (G.2 1) q_t_endRow 12 t_endRow, aI (G.2 1) q_t_endColumn 12 t_endColumn, aI (G.2 1) q_t_endSide 12 t_endSide, aI (G.2 3) q_t_gone 36 res.2.2.2.2.2, aI (G.2 1) q_p1 36 p1]) (va_A [oX6 q_t t_length q_t_text t_size q_t_sign t_otherSize q_t_other q_t_before t_undoMany t_readSize q_t_read q_t_side q_t_tall q_t_endRow q_t_endColumn q_t_endSide q_t_gone t_lineRow t_lineColumn t_lineSide t_lineMany q_t_ways q_t_codes q_t_many, aI (G.2 1) q_t_endRow 12 t_endRow, aI (G.2 1) q_t_endColumn 12 t_endColumn, aI (G.2 1) q_t_endSide 12 t_endSide, aI (G.2 3) q_t_gone 36 t_gone, aI (G.2 1) q_p1 36 p1] sz)) 0 0 (va_A [oX6 q_t t_length q_t_text t_size q_t_sign t_otherSize q_t_other q_t_before t_undoMany t_readSize q_t_read q_t_side q_t_tall q_t_endRow q_t_endColumn q_t_endSide q_t_gone t_lineRow t_lineColumn t_lineSide t_lineMany q_t_ways q_t_codes q_t_many, aI (G.2 1) q_t_endRow 12 t_endRow, aI (G.2 1) q_t_endColumn 12 t_endColumn, aI (G.2 1) q_t_endSide 12 t_endSide, aI (G.2 3) q_t_gone 36 t_gone, aI (G.2 1) q_p1 36 p1] sz) := by
  refine Met.ofQ (cc := cX6_goes) (maxL := 6) (ret := (some .int)) (by decide) rfl ?_
  intro p e s m args below meth c s₁ Q hQ B hml hv
  obtain ⟨rfl, hsz, hP, hKW, hD0⟩ := hv
  have hK := hKW.1
  have hx := B.exec
  have hb := B.bytes
  have hr := B.returns
  have hts := atoms_spec (ws := wsX6_goes) B.pre
  have hown : s.vm.findClass RX6 = some m.cls := findClass_of_methodNamed B.named
  have hlocks := B.notSynchronized
  have iX6 : ∀ w ∈ u_ws RX6 TX6 23, w ∈ wsX6_goes := by decide +kernel
  have fl_31 := hts (.fieldLink RX6 31 "AlternateSignsModel" "endRow" "[I") (by decide +kernel)
  have fl_139 := hts (.fieldLink RX6 139 "AlternateSignsModel" "lineRow" "I") (by decide +kernel)
  have fl_34 := hts (.fieldLink RX6 34 "AlternateSignsModel" "endColumn" "[I") (by decide +kernel)
  have fl_142 := hts (.fieldLink RX6 142 "AlternateSignsModel" "lineColumn" "I") (by decide +kernel)
  have fl_37 := hts (.fieldLink RX6 37 "AlternateSignsModel" "endSide" "[I") (by decide +kernel)
  have fl_136 := hts (.fieldLink RX6 136 "AlternateSignsModel" "lineSide" "I") (by decide +kernel)
  have fl_145 := hts (.fieldLink RX6 145 "AlternateSignsModel" "lineMany" "I") (by decide +kernel)
  subst hsz
  have hD := hD0.self (sz := s.heap.size)
  generalize hAe : va_A [oX6 q_t t_length q_t_text t_size q_t_sign t_otherSize q_t_other q_t_before t_undoMany t_readSize q_t_read q_t_side q_t_tall q_t_endRow q_t_endColumn q_t_endSide q_t_gone t_lineRow t_lineColumn t_lineSide t_lineMany q_t_ways q_t_codes q_t_many, aI (G.2 1) q_t_endRow 12 t_endRow, aI (G.2 1) q_t_endColumn 12 t_endColumn, aI (G.2 1) q_t_endSide 12 t_endSide, aI (G.2 3) q_t_gone 36 t_gone, aI (G.2 1) q_p1 36 p1] s.heap.size = A at hD hQ
  have hA : ∀ q : Nat, s.heap.size ≤ q → A q := fun q h => by rw [← hAe]; exact Or.inr h
  have hS : va_S A s.heap s.heap [] := va_S.rf
  have hl := lv_entry ([.ref q_t, .ref q_p1, .int p2, .int p3]) (n := 6) (Nat.le_of_ble_eq_true rfl)
  rw [lg_entry_eq]
  generalize (lg_sl ([.ref q_t, .ref q_p1, .int p2, .int p3]) ++ List.replicate (6 - (lg_sl ([.ref q_t, .ref q_p1, .int p2, .int p3])).length) Slot.unset).toArray = ls at hl ⊢
  have hl : lv_has ls 6 [(0, .ref q_t), (1, .ref q_p1), (2, .int p2), (3, .int p3)] := hl
  unfold S_X6_goes at hE
  refine lv_aload_n hx hb dX6_goes_0 rfl (lv_at hl 0 rfl) ?_
  refine lv_aload_n hx hb dX6_goes_1 rfl (lv_at hl 0 rfl) ?_
  refine va_get (D := G.1) (ci := 6) (v := .ref q_t_endRow) (C := RX6) (T := TX6) (N := 23) hx hb hts iX6 hown hK hP 0 rfl rfl 12 (by decide) fl_31 (fun _ h9 => h9) rfl dX6_goes_2 ?_
  refine lv_iload_n hx hb dX6_goes_5 rfl (lv_at hl 3 rfl) ?_
  obtain ⟨hi_6, hE⟩ := ck_some hE
  refine va_iald hx hb hK hP 1 1 rfl rfl (inb_in hi_6) dX6_goes_6 ?_
  refine va_put (D := G.1) (ci := 6) (v := .int (t_endRow p3.toNatClampNeg)) (ty := .int) (C := RX6) (T := TX6) (N := 23) hx hb hts iX6 tyX6 tyX6_ok nmX6 hown hK hP hD hS 0 rfl rfl 16 (by decide) fl_139 (fun _ h9 => h9) rfl (by decide +kernel) rfl rfl (Nat.le_of_ble_eq_true rfl) dX6_goes_7 (fun H locs hP hD hS => ?_)
  have hP : va_P G.1 vwCl [oX6 q_t t_length q_t_text t_size q_t_sign t_otherSize q_t_other q_t_before t_undoMany t_readSize q_t_read q_t_side q_t_tall q_t_endRow q_t_endColumn q_t_endSide q_t_gone (t_endRow p3.toNatClampNeg) t_lineColumn t_lineSide t_lineMany q_t_ways q_t_codes q_t_many, aI (G.2 1) q_t_endRow 12 t_endRow, aI (G.2 1) q_t_endColumn 12 t_endColumn, aI (G.2 1) q_t_endSide 12 t_endSide, aI (G.2 3) q_t_gone 36 t_gone, aI (G.2 1) q_p1 36 p1] H := hP
  have hD : va_D A [oX6 q_t t_length q_t_text t_size q_t_sign t_otherSize q_t_other q_t_before t_undoMany t_readSize q_t_read q_t_side q_t_tall q_t_endRow q_t_endColumn q_t_endSide q_t_gone (t_endRow p3.toNatClampNeg) t_lineColumn t_lineSide t_lineMany q_t_ways q_t_codes q_t_many, aI (G.2 1) q_t_endRow 12 t_endRow, aI (G.2 1) q_t_endColumn 12 t_endColumn, aI (G.2 1) q_t_endSide 12 t_endSide, aI (G.2 3) q_t_gone 36 t_gone, aI (G.2 1) q_p1 36 p1] := hD
  refine lv_aload_n hx hb dX6_goes_10 rfl (lv_at hl 0 rfl) ?_
  refine lv_aload_n hx hb dX6_goes_11 rfl (lv_at hl 0 rfl) ?_
  refine va_get (D := G.1) (ci := 6) (v := .ref q_t_endColumn) (C := RX6) (T := TX6) (N := 23) hx hb hts iX6 hown hK hP 0 rfl rfl 13 (by decide) fl_34 (fun _ h9 => h9) rfl dX6_goes_12 ?_
  refine lv_iload_n hx hb dX6_goes_15 rfl (lv_at hl 3 rfl) ?_
  obtain ⟨hi_16, hE⟩ := ck_some hE
  refine va_iald hx hb hK hP 2 1 rfl rfl (inb_in hi_16) dX6_goes_16 ?_
  refine va_put (D := G.1) (ci := 6) (v := .int (t_endColumn p3.toNatClampNeg)) (ty := .int) (C := RX6) (T := TX6) (N := 23) hx hb hts iX6 tyX6 tyX6_ok nmX6 hown hK hP hD hS 0 rfl rfl 17 (by decide) fl_142 (fun _ h9 => h9) rfl (by decide +kernel) rfl rfl (Nat.le_of_ble_eq_true rfl) dX6_goes_17 (fun H locs hP hD hS => ?_)
  have hP : va_P G.1 vwCl [oX6 q_t t_length q_t_text t_size q_t_sign t_otherSize q_t_other q_t_before t_undoMany t_readSize q_t_read q_t_side q_t_tall q_t_endRow q_t_endColumn q_t_endSide q_t_gone (t_endRow p3.toNatClampNeg) (t_endColumn p3.toNatClampNeg) t_lineSide t_lineMany q_t_ways q_t_codes q_t_many, aI (G.2 1) q_t_endRow 12 t_endRow, aI (G.2 1) q_t_endColumn 12 t_endColumn, aI (G.2 1) q_t_endSide 12 t_endSide, aI (G.2 3) q_t_gone 36 t_gone, aI (G.2 1) q_p1 36 p1] H := hP
  have hD : va_D A [oX6 q_t t_length q_t_text t_size q_t_sign t_otherSize q_t_other q_t_before t_undoMany t_readSize q_t_read q_t_side q_t_tall q_t_endRow q_t_endColumn q_t_endSide q_t_gone (t_endRow p3.toNatClampNeg) (t_endColumn p3.toNatClampNeg) t_lineSide t_lineMany q_t_ways q_t_codes q_t_many, aI (G.2 1) q_t_endRow 12 t_endRow, aI (G.2 1) q_t_endColumn 12 t_endColumn, aI (G.2 1) q_t_endSide 12 t_endSide, aI (G.2 3) q_t_gone 36 t_gone, aI (G.2 1) q_p1 36 p1] := hD
  refine lv_aload_n hx hb dX6_goes_20 rfl (lv_at hl 0 rfl) ?_
  refine lv_aload_n hx hb dX6_goes_21 rfl (lv_at hl 0 rfl) ?_
  refine va_get (D := G.1) (ci := 6) (v := .ref q_t_endSide) (C := RX6) (T := TX6) (N := 23) hx hb hts iX6 hown hK hP 0 rfl rfl 14 (by decide) fl_37 (fun _ h9 => h9) rfl dX6_goes_22 ?_
  refine lv_iload_n hx hb dX6_goes_25 rfl (lv_at hl 3 rfl) ?_
  obtain ⟨hi_26, hE⟩ := ck_some hE
  refine va_iald hx hb hK hP 3 1 rfl rfl (inb_in hi_26) dX6_goes_26 ?_
  refine va_put (D := G.1) (ci := 6) (v := .int (t_endSide p3.toNatClampNeg)) (ty := .int) (C := RX6) (T := TX6) (N := 23) hx hb hts iX6 tyX6 tyX6_ok nmX6 hown hK hP hD hS 0 rfl rfl 18 (by decide) fl_136 (fun _ h9 => h9) rfl (by decide +kernel) rfl rfl (Nat.le_of_ble_eq_true rfl) dX6_goes_27 (fun H locs hP hD hS => ?_)
  have hP : va_P G.1 vwCl [oX6 q_t t_length q_t_text t_size q_t_sign t_otherSize q_t_other q_t_before t_undoMany t_readSize q_t_read q_t_side q_t_tall q_t_endRow q_t_endColumn q_t_endSide q_t_gone (t_endRow p3.toNatClampNeg) (t_endColumn p3.toNatClampNeg) (t_endSide p3.toNatClampNeg) t_lineMany q_t_ways q_t_codes q_t_many, aI (G.2 1) q_t_endRow 12 t_endRow, aI (G.2 1) q_t_endColumn 12 t_endColumn, aI (G.2 1) q_t_endSide 12 t_endSide, aI (G.2 3) q_t_gone 36 t_gone, aI (G.2 1) q_p1 36 p1] H := hP
  have hD : va_D A [oX6 q_t t_length q_t_text t_size q_t_sign t_otherSize q_t_other q_t_before t_undoMany t_readSize q_t_read q_t_side q_t_tall q_t_endRow q_t_endColumn q_t_endSide q_t_gone (t_endRow p3.toNatClampNeg) (t_endColumn p3.toNatClampNeg) (t_endSide p3.toNatClampNeg) t_lineMany q_t_ways q_t_codes q_t_many, aI (G.2 1) q_t_endRow 12 t_endRow, aI (G.2 1) q_t_endColumn 12 t_endColumn, aI (G.2 1) q_t_endSide 12 t_endSide, aI (G.2 3) q_t_gone 36 t_gone, aI (G.2 1) q_p1 36 p1] := hD
  refine lv_aload_n hx hb dX6_goes_30 rfl (lv_at hl 0 rfl) ?_
  refine lv_iconst (v := 1) hx hb dX6_goes_31 (by decide) ?_
  refine va_put (D := G.1) (ci := 6) (v := .int (1 : Int32)) (ty := .int) (C := RX6) (T := TX6) (N := 23) hx hb hts iX6 tyX6 tyX6_ok nmX6 hown hK hP hD hS 0 rfl rfl 19 (by decide) fl_145 (fun _ h9 => h9) rfl (by decide +kernel) rfl rfl (Nat.le_of_ble_eq_true rfl) dX6_goes_32 (fun H locs hP hD hS => ?_)
  have hP : va_P G.1 vwCl [oX6 q_t t_length q_t_text t_size q_t_sign t_otherSize q_t_other q_t_before t_undoMany t_readSize q_t_read q_t_side q_t_tall q_t_endRow q_t_endColumn q_t_endSide q_t_gone (t_endRow p3.toNatClampNeg) (t_endColumn p3.toNatClampNeg) (t_endSide p3.toNatClampNeg) (1 : Int32) q_t_ways q_t_codes q_t_many, aI (G.2 1) q_t_endRow 12 t_endRow, aI (G.2 1) q_t_endColumn 12 t_endColumn, aI (G.2 1) q_t_endSide 12 t_endSide, aI (G.2 3) q_t_gone 36 t_gone, aI (G.2 1) q_p1 36 p1] H := hP
  have hD : va_D A [oX6 q_t t_length q_t_text t_size q_t_sign t_otherSize q_t_other q_t_before t_undoMany t_readSize q_t_read q_t_side q_t_tall q_t_endRow q_t_endColumn q_t_endSide q_t_gone (t_endRow p3.toNatClampNeg) (t_endColumn p3.toNatClampNeg) (t_endSide p3.toNatClampNeg) (1 : Int32) q_t_ways q_t_codes q_t_many, aI (G.2 1) q_t_endRow 12 t_endRow, aI (G.2 1) q_t_endColumn 12 t_endColumn, aI (G.2 1) q_t_endSide 12 t_endSide, aI (G.2 3) q_t_gone 36 t_gone, aI (G.2 1) q_p1 36 p1] := hD
  refine lv_iconst (v := 1) hx hb dX6_goes_35 (by decide) ?_
  refine lv_istore (lv' := [(4, .int (1 : Int32)), (0, .ref q_t), (1, .ref q_p1), (2, .int p2), (3, .int p3)]) hx hb dX6_goes_36 hl (by decide) rfl (fun ls hl => ?_)
  refine itr_ind (fun (x1 : Int32 × Int32 × Int32 × Int32 × Int32 × (Nat → Int32)) => ∀ (H : Heap) (locs : List Loc) (ls : Array Slot), va_P G.1 vwCl [oX6 q_t t_length q_t_text t_size q_t_sign t_otherSize q_t_other q_t_before t_undoMany t_readSize q_t_read q_t_side q_t_tall q_t_endRow q_t_endColumn q_t_endSide q_t_gone x1.2.1 x1.2.2.1 x1.2.2.2.1 x1.2.2.2.2.1 q_t_ways q_t_codes q_t_many, aI (G.2 1) q_t_endRow 12 t_endRow, aI (G.2 1) q_t_endColumn 12 t_endColumn, aI (G.2 1) q_t_endSide 12 t_endSide, aI (G.2 3) q_t_gone 36 x1.2.2.2.2.2, aI (G.2 1) q_p1 36 p1] H → va_D A [oX6 q_t t_length q_t_text t_size q_t_sign t_otherSize q_t_other q_t_before t_undoMany t_readSize q_t_read q_t_side q_t_tall q_t_endRow q_t_endColumn q_t_endSide q_t_gone x1.2.1 x1.2.2.1 x1.2.2.2.1 x1.2.2.2.2.1 q_t_ways q_t_codes q_t_many, aI (G.2 1) q_t_endRow 12 t_endRow, aI (G.2 1) q_t_endColumn 12 t_endColumn, aI (G.2 1) q_t_endSide 12 t_endSide, aI (G.2 3) q_t_gone 36 x1.2.2.2.2.2, aI (G.2 1) q_p1 36 p1] → va_S A s.heap H locs → lv_has ls 6 [(0, .ref q_t), (1, .ref q_p1), (2, .int p2), (4, .int x1.1)] → W p l e (headSpec wsX6_goes ({ frames := 3, cells := 0, slots := 0, locals := 72 })).room s m ([.ref q_t, .ref q_p1, .int p2, .int p3] : List Value).toArray below meth c H locs 0 0 Q (F0 m 38 ls [])) (fun x1 o_1 hE ih_1 hr_1 => ?_) _ _ hE _ _ ls hP hD hS (lv_sub hl [1, 2, 3, 0] rfl)
  obtain ⟨v4_1, w_t_lineRow_1, w_t_lineColumn_1, w_t_lineSide_1, w_t_lineMany_1, w_t_gone_1⟩ := x1
  try dsimp only at hE
  intro H locs ls hP hD hS hl
  try dsimp only at hP hD hl ⊢
  refine lv_iload hx hb dX6_goes_38 (lv_at hl 3 rfl) ?_
  refine lv_if_eq (tgt := 54) hx hb dX6_goes_40 (by decide) (fun c_40 => ?_) (fun c_40 => ?_)
  · replace hE := (if_pos c_40).symm.trans hE
    refine lv_iconst (v := 0) hx hb dX6_goes_54 (by decide) ?_
    refine lv_istore (lv' := [(5, .int (0 : Int32)), (0, .ref q_t), (1, .ref q_p1), (2, .int p2), (4, .int v4_1)]) hx hb dX6_goes_55 hl (by decide) rfl (fun ls hl => ?_)
    refine itr_ind (fun (x2 : Int32) => ∀ (H : Heap) (locs : List Loc) (ls : Array Slot), va_P G.1 vwCl [oX6 q_t t_length q_t_text t_size q_t_sign t_otherSize q_t_other q_t_before t_undoMany t_readSize q_t_read q_t_side q_t_tall q_t_endRow q_t_endColumn q_t_endSide q_t_gone w_t_lineRow_1 w_t_lineColumn_1 w_t_lineSide_1 w_t_lineMany_1 q_t_ways q_t_codes q_t_many, aI (G.2 1) q_t_endRow 12 t_endRow, aI (G.2 1) q_t_endColumn 12 t_endColumn, aI (G.2 1) q_t_endSide 12 t_endSide, aI (G.2 3) q_t_gone 36 w_t_gone_1, aI (G.2 1) q_p1 36 p1] H → va_D A [oX6 q_t t_length q_t_text t_size q_t_sign t_otherSize q_t_other q_t_before t_undoMany t_readSize q_t_read q_t_side q_t_tall q_t_endRow q_t_endColumn q_t_endSide q_t_gone w_t_lineRow_1 w_t_lineColumn_1 w_t_lineSide_1 w_t_lineMany_1 q_t_ways q_t_codes q_t_many, aI (G.2 1) q_t_endRow 12 t_endRow, aI (G.2 1) q_t_endColumn 12 t_endColumn, aI (G.2 1) q_t_endSide 12 t_endSide, aI (G.2 3) q_t_gone 36 w_t_gone_1, aI (G.2 1) q_p1 36 p1] → va_S A s.heap H locs → lv_has ls 6 [(0, .ref q_t), (5, .int x2)] → W p l e (headSpec wsX6_goes ({ frames := 3, cells := 0, slots := 0, locals := 72 })).room s m ([.ref q_t, .ref q_p1, .int p2, .int p3] : List Value).toArray below meth c H locs 0 0 Q (F0 m 57 ls [])) (fun x2 o_2 hE ih_2 hr_2 => ?_) _ _ hE _ _ ls hP hD hS (lv_sub hl [1, 0] rfl)
    obtain ⟨v5_2, ex9⟩ : ∃ z, z = x2 := ⟨_, rfl⟩
    subst ex9
    try dsimp only at hE
    intro H locs ls hP hD hS hl
    try dsimp only at hP hD hl ⊢
    refine lv_aload_n hx hb dX6_goes_57 rfl (lv_at hl 0 rfl) ?_
    refine va_get (D := G.1) (ci := 6) (v := .ref q_t_endRow) (C := RX6) (T := TX6) (N := 23) hx hb hts iX6 hown hK hP 0 rfl rfl 12 (by decide) fl_31 (fun _ h9 => h9) rfl dX6_goes_58 ?_
    refine lv_iload hx hb dX6_goes_61 (lv_at hl 1 rfl) ?_
    obtain ⟨hi_63, hE⟩ := ck_some hE
    refine va_iald hx hb hK hP 1 1 rfl rfl (inb_in hi_63) dX6_goes_63 ?_
    refine lv_aload_n hx hb dX6_goes_64 rfl (lv_at hl 0 rfl) ?_
    refine va_get (D := G.1) (ci := 6) (v := .int w_t_lineRow_1) (C := RX6) (T := TX6) (N := 23) hx hb hts iX6 hown hK hP 0 rfl rfl 16 (by decide) fl_139 (fun _ h9 => h9) rfl dX6_goes_65 ?_
    refine lv_icmp_ne (tgt := 99) hx hb dX6_goes_68 (by decide) (fun c_68 => ?_) (fun c_68 => ?_)
    · replace hE := (if_neg c_68).symm.trans hE
      refine lv_iinc (v := v5_2 + (1 : Int32)) (lv' := [(5, .int (v5_2 + (1 : Int32))), (0, .ref q_t)]) hx hb dX6_goes_99 hl (k := 1) rfl rfl (by decide) rfl (fun ls hl => ?_)
      refine lv_goto (tgt := 57) hx hb dX6_goes_102 (by decide) ?_
      have e_2 := Option.some.inj hE
      exact ih_2 _ e_2.symm _ _ ls hP hD hS (lv_sub hl [1, 0] rfl)
    · replace hE := (if_pos c_68).symm.trans hE
      refine lv_aload_n hx hb dX6_goes_71 rfl (lv_at hl 0 rfl) ?_
      refine va_get (D := G.1) (ci := 6) (v := .ref q_t_endColumn) (C := RX6) (T := TX6) (N := 23) hx hb hts iX6 hown hK hP 0 rfl rfl 13 (by decide) fl_34 (fun _ h9 => h9) rfl dX6_goes_72 ?_
      refine lv_iload hx hb dX6_goes_75 (lv_at hl 1 rfl) ?_
      obtain ⟨hi_77, hE⟩ := ck_some hE
      refine va_iald hx hb hK hP 2 1 rfl rfl (inb_in hi_77) dX6_goes_77 ?_
      refine lv_aload_n hx hb dX6_goes_78 rfl (lv_at hl 0 rfl) ?_
      refine va_get (D := G.1) (ci := 6) (v := .int w_t_lineColumn_1) (C := RX6) (T := TX6) (N := 23) hx hb hts iX6 hown hK hP 0 rfl rfl 17 (by decide) fl_142 (fun _ h9 => h9) rfl dX6_goes_79 ?_
      refine lv_icmp_ne (tgt := 99) hx hb dX6_goes_82 (by decide) (fun c_82 => ?_) (fun c_82 => ?_)
      · replace hE := (if_neg c_82).symm.trans hE
        refine lv_iinc (v := v5_2 + (1 : Int32)) (lv' := [(5, .int (v5_2 + (1 : Int32))), (0, .ref q_t)]) hx hb dX6_goes_99 hl (k := 1) rfl rfl (by decide) rfl (fun ls hl => ?_)
        refine lv_goto (tgt := 57) hx hb dX6_goes_102 (by decide) ?_
        have e_2 := Option.some.inj hE
        exact ih_2 _ e_2.symm _ _ ls hP hD hS (lv_sub hl [1, 0] rfl)
      · replace hE := (if_pos c_82).symm.trans hE
        refine lv_aload_n hx hb dX6_goes_85 rfl (lv_at hl 0 rfl) ?_
        refine va_get (D := G.1) (ci := 6) (v := .ref q_t_endSide) (C := RX6) (T := TX6) (N := 23) hx hb hts iX6 hown hK hP 0 rfl rfl 14 (by decide) fl_37 (fun _ h9 => h9) rfl dX6_goes_86 ?_
        refine lv_iload hx hb dX6_goes_89 (lv_at hl 1 rfl) ?_
        obtain ⟨hi_91, hE⟩ := ck_some hE
        refine va_iald hx hb hK hP 3 1 rfl rfl (inb_in hi_91) dX6_goes_91 ?_
        refine lv_aload_n hx hb dX6_goes_92 rfl (lv_at hl 0 rfl) ?_
        refine va_get (D := G.1) (ci := 6) (v := .int w_t_lineSide_1) (C := RX6) (T := TX6) (N := 23) hx hb hts iX6 hown hK hP 0 rfl rfl 18 (by decide) fl_136 (fun _ h9 => h9) rfl dX6_goes_93 ?_
        refine lv_icmp_eq (tgt := 105) hx hb dX6_goes_96 (by decide) (fun c_96 => ?_) (fun c_96 => ?_)
        · replace hE := (if_pos c_96).symm.trans hE
          refine lv_iload hx hb dX6_goes_105 (lv_at hl 1 rfl) ?_
          have e_2 := Option.some.inj hE
          have e_1 := hr_2 _ e_2.symm
          have e_0 := hr_1 _ e_1.symm
          subst e_0
          rw [hQ]
          exact W.iret (v := v5_2) hx hb hr (fun t ht _ => ⟨⟨_, (), rfl, rfl, by rw [ht]; exact hP, hD⟩, hS.F ht⟩) hS.2.2 dX6_goes_107
        · replace hE := (if_neg c_96).symm.trans hE
          refine lv_iinc (v := v5_2 + (1 : Int32)) (lv' := [(5, .int (v5_2 + (1 : Int32))), (0, .ref q_t)]) hx hb dX6_goes_99 hl (k := 1) rfl rfl (by decide) rfl (fun ls hl => ?_)
          refine lv_goto (tgt := 57) hx hb dX6_goes_102 (by decide) ?_
          have e_2 := Option.some.inj hE
          exact ih_2 _ e_2.symm _ _ ls hP hD hS (lv_sub hl [1, 0] rfl)
  · replace hE := (if_neg c_40).symm.trans hE
    refine lv_aload_n hx hb dX6_goes_43 rfl (lv_at hl 0 rfl) ?_
    refine lv_aload_n hx hb dX6_goes_44 rfl (lv_at hl 1 rfl) ?_
    refine lv_iload_n hx hb dX6_goes_45 rfl (lv_at hl 2 rfl) ?_
    obtain ⟨y46, hC_46, hE⟩ := Option.bind_eq_some_iff.mp hE
    obtain ⟨r_46, m_46_0, m_46_1, m_46_2, m_46_3, m_46_4⟩ := y46
    try dsimp only at hE
    have hPc := hP.sub (ws' := [oX6 q_t t_length q_t_text t_size q_t_sign t_otherSize q_t_other q_t_before t_undoMany t_readSize q_t_read q_t_side q_t_tall q_t_endRow q_t_endColumn q_t_endSide q_t_gone w_t_lineRow_1 w_t_lineColumn_1 w_t_lineSide_1 w_t_lineMany_1 q_t_ways q_t_codes q_t_many, aI (G.2 3) q_t_gone 36 w_t_gone_1, aI (G.2 1) q_p1 36 p1]) [0, 4, 5] rfl
    have hDc := hD.sub (ws' := [oX6 q_t t_length q_t_text t_size q_t_sign t_otherSize q_t_other q_t_before t_undoMany t_readSize q_t_read q_t_side q_t_tall q_t_endRow q_t_endColumn q_t_endSide q_t_gone w_t_lineRow_1 w_t_lineColumn_1 w_t_lineSide_1 w_t_lineMany_1 q_t_ways q_t_codes q_t_many, aI (G.2 3) q_t_gone 36 w_t_gone_1, aI (G.2 1) q_p1 36 p1]) [0, 4, 5] (by decide) rfl
    have hFc := va_free (wc := [oX6 q_t t_length q_t_text t_size q_t_sign t_otherSize q_t_other q_t_before t_undoMany t_readSize q_t_read q_t_side q_t_tall q_t_endRow q_t_endColumn q_t_endSide q_t_gone w_t_lineRow_1 w_t_lineColumn_1 w_t_lineSide_1 w_t_lineMany_1 q_t_ways q_t_codes q_t_many, aI (G.2 3) q_t_gone 36 w_t_gone_1, aI (G.2 1) q_p1 36 p1]) hD hS hA [0, 4, 5] rfl
    refine va_calli (va_runV (As := [.ref q_p1, .int p2]) (rest := []) ⟨hx, hb, hml, hown, hts⟩ (c_X6_goesOn (l := l) (G := G) _ (p2 := p2) (q_t := q_t) (t_length := t_length) (q_t_text := q_t_text) (t_size := t_size) (q_t_sign := q_t_sign) (t_otherSize := t_otherSize) (q_t_other := q_t_other) (q_t_before := q_t_before) (t_undoMany := t_undoMany) (t_readSize := t_readSize) (q_t_read := q_t_read) (q_t_side := q_t_side) (q_t_tall := q_t_tall) (q_t_endRow := q_t_endRow) (q_t_endColumn := q_t_endColumn) (q_t_endSide := q_t_endSide) (q_t_gone := q_t_gone) (t_lineRow := w_t_lineRow_1) (t_lineColumn := w_t_lineColumn_1) (t_lineSide := w_t_lineSide_1) (t_lineMany := w_t_lineMany_1) (q_t_ways := q_t_ways) (q_t_codes := q_t_codes) (q_t_many := q_t_many) (t_gone := w_t_gone_1) (q_p1 := q_p1) (p1 := p1) hC_46) (cwV 2 hts gX6_goes_X6_goesOn rfl rfl rfl kd_X6_goesOn ⟨Nat.le_of_ble_eq_true rfl, Nat.le_of_ble_eq_true rfl⟩) (iv_V hKW hPc hDc (ci := 6) (q0 := 0) rfl rfl) rfl rfl hl.1 rfl (lv_room (Nat.le_of_ble_eq_true rfl)) dX6_goes_46 ⟨Nat.zero_le _, Nat.zero_le _⟩) hS (fun q _ h => hFc q h) hFc (fun r9 u9 t9 H1 locs ht9 hvm9 hw9 hB9 hz9 hk9 hS => ?_)
    subst r9
    obtain ⟨hP1, hD1⟩ := hB9
    rw [ht9] at hP1
    obtain ⟨hP, hD⟩ := va_join (wr := [aI (G.2 1) q_t_endRow 12 t_endRow, aI (G.2 1) q_t_endColumn 12 t_endColumn, aI (G.2 1) q_t_endSide 12 t_endSide]) (w1 := [oX6 q_t t_length q_t_text t_size q_t_sign t_otherSize q_t_other q_t_before t_undoMany t_readSize q_t_read q_t_side q_t_tall q_t_endRow q_t_endColumn q_t_endSide q_t_gone m_46_0 m_46_1 m_46_2 m_46_3 q_t_ways q_t_codes q_t_many, aI (G.2 3) q_t_gone 36 m_46_4, aI (G.2 1) q_p1 36 p1]) hP hD [0, 4, 5] [1, 2, 3] rfl rfl (by decide) (by decide) hk9 hFc hP1 hD1
    have hP := hP.sub (ws' := [oX6 q_t t_length q_t_text t_size q_t_sign t_otherSize q_t_other q_t_before t_undoMany t_readSize q_t_read q_t_side q_t_tall q_t_endRow q_t_endColumn q_t_endSide q_t_gone m_46_0 m_46_1 m_46_2 m_46_3 q_t_ways q_t_codes q_t_many, aI (G.2 1) q_t_endRow 12 t_endRow, aI (G.2 1) q_t_endColumn 12 t_endColumn, aI (G.2 1) q_t_endSide 12 t_endSide, aI (G.2 3) q_t_gone 36 m_46_4, aI (G.2 1) q_p1 36 p1]) [3, 0, 1, 2, 4, 5] rfl
    have hD := hD.sub (ws' := [oX6 q_t t_length q_t_text t_size q_t_sign t_otherSize q_t_other q_t_before t_undoMany t_readSize q_t_read q_t_side q_t_tall q_t_endRow q_t_endColumn q_t_endSide q_t_gone m_46_0 m_46_1 m_46_2 m_46_3 q_t_ways q_t_codes q_t_many, aI (G.2 1) q_t_endRow 12 t_endRow, aI (G.2 1) q_t_endColumn 12 t_endColumn, aI (G.2 1) q_t_endSide 12 t_endSide, aI (G.2 3) q_t_gone 36 m_46_4, aI (G.2 1) q_p1 36 p1]) [3, 0, 1, 2, 4, 5] (by decide) rfl
    clear hPc hDc hFc hP1 hD1 hk9 hz9 hvm9
    refine lv_istore (lv' := [(4, .int r_46), (0, .ref q_t), (1, .ref q_p1), (2, .int p2)]) hx hb dX6_goes_49 hl (by decide) rfl (fun ls hl => ?_)
    refine lv_goto (tgt := 38) hx hb dX6_goes_51 (by decide) ?_
    have e_1 := Option.some.inj hE
    exact ih_1 _ e_1.symm _ _ ls hP hD hS (lv_sub hl [1, 2, 3, 0] rfl)
def S_X6_isEnd (p1 : Int32) (t_size : Int32) : Option Int32 := (S_X6_in p1.toInt64 (0 : Int64) ((((2 : Int32) * t_size) - (1 : Int32)).toInt64)).bind (fun (y12 : Int32) => ck (y12 &&& 1 == y12) (some y12))
theorem kd_X6_isEnd : yX6_isEnd.cls = RX6 ∧ yX6_isEnd.cls ≠ "java/lang/invoke/MethodHandle" ∧ yX6_isEnd.cls ≠ "java/lang/invoke/VarHandle" ∧ (parseMethodDescriptor yX6_isEnd.desc).map (fun d => d.parameters.length) = some 1 := by decide +kernel
set_option maxHeartbeats 4000000 in
set_option maxRecDepth 100000 in
theorem c_X6_isEnd {l : Launch} {G : kG} {p1 : Int32} {q_t : Nat} {t_length : Int32} {q_t_text : Nat} {t_size : Int32} {q_t_sign : Nat} {t_otherSize : Int32} {q_t_other : Nat} {q_t_before : Nat} {t_undoMany : Int32} {t_readSize : Int32} {q_t_read : Nat} {q_t_side : Nat} {q_t_tall : Nat} {q_t_endRow : Nat} {q_t_endColumn : Nat} {q_t_endSide : Nat} {q_t_gone : Nat} {t_lineRow : Int32} {t_lineColumn : Int32} {t_lineSide : Int32} {t_lineMany : Int32} {q_t_ways : Nat} {q_t_codes : Nat} {q_t_many : Nat} {res : Int32} (hE : S_X6_isEnd p1 t_size = some res) : Met l yX6_isEnd wsX6_isEnd ({ frames := 1, cells := 0, slots := 0, locals := 25 }) (va_Pc [.ref q_t, .int p1] (fun U => va_P G.1 vwCl [oX6 q_t t_length q_t_text t_size q_t_sign t_otherSize q_t_other q_t_before t_undoMany t_readSize q_t_read q_t_side q_t_tall q_t_endRow q_t_endColumn q_t_endSide q_t_gone t_lineRow t_lineColumn t_lineSide t_lineMany q_t_ways q_t_codes q_t_many] U.heap ∧ kw G U)) (vp_Si (fun r => r = res)) 0 0 (fun _ => False) := by
  refine Met.ofQ (cc := cX6_isEnd) (maxL := 2) (ret := (some .boolean)) (by decide) rfl ?_
  intro p e s m args below meth c s₁ Q hQ B hml hv
  obtain ⟨rfl, hP, hKW⟩ := hv
  have hK := hKW.1
  have hx := B.exec
  have hb := B.bytes
  have hr := B.returns
  have hts := atoms_spec (ws := wsX6_isEnd) B.pre
  have hown : s.vm.findClass RX6 = some m.cls := findClass_of_methodNamed B.named
  have hlocks := B.notSynchronized
  have iX6 : ∀ w ∈ u_ws RX6 TX6 23, w ∈ wsX6_isEnd := by decide +kernel
  have fl_54 := hts (.fieldLink RX6 54 "AlternateSignsModel" "size" "I") (by decide +kernel)
  have hl := lv_entry ([.ref q_t, .int p1]) (n := 2) (Nat.le_of_ble_eq_true rfl)
  rw [lg_entry_eq]
  generalize (lg_sl ([.ref q_t, .int p1]) ++ List.replicate (2 - (lg_sl ([.ref q_t, .int p1])).length) Slot.unset).toArray = ls at hl ⊢
  have hl : lv_has ls 2 [(0, .ref q_t), (1, .int p1)] := hl
  unfold S_X6_isEnd at hE
  refine lv_iload_n hx hb dX6_isEnd_0 rfl (lv_at hl 1 rfl) ?_
  refine lv_i2l (v := p1.toInt64) hx hb dX6_isEnd_1 rfl ?_
  refine lv_lconst (v := 0) hx hb dX6_isEnd_2 (by decide) ?_
  refine lv_iconst (v := 2) hx hb dX6_isEnd_3 (by decide) ?_
  refine lv_aload_n hx hb dX6_isEnd_4 rfl (lv_at hl 0 rfl) ?_
  refine va_get (D := G.1) (ci := 6) (v := .int t_size) (C := RX6) (T := TX6) (N := 23) hx hb hts iX6 hown hK hP 0 rfl rfl 2 (by decide) fl_54 (fun _ h9 => h9) rfl dX6_isEnd_5 ?_
  refine lv_imul hx hb dX6_isEnd_8 ?_
  refine lv_iconst (v := 1) hx hb dX6_isEnd_9 (by decide) ?_
  refine lv_isub hx hb dX6_isEnd_10 ?_
  refine lv_i2l (v := (((2 : Int32) * t_size) - (1 : Int32)).toInt64) hx hb dX6_isEnd_11 rfl ?_
  obtain ⟨y12, hC_12, hE⟩ := Option.bind_eq_some_iff.mp hE
  obtain ⟨r_12, ex9⟩ : ∃ z, z = y12 := ⟨_, rfl⟩
  subst ex9
  try dsimp only at hE
  refine vp_callSi (va_Run.run (va_runS (As := [.long p1.toInt64, .long (0 : Int64), .long ((((2 : Int32) * t_size) - (1 : Int32)).toInt64)]) (rest := []) ⟨hx, hb, hml, hown, hts⟩ (c_X6_in (l := l) (G := G) (p1 := p1.toInt64) (p2 := (0 : Int64)) (p3 := (((2 : Int32) * t_size) - (1 : Int32)).toInt64) hC_12) (va_cwS 3 hts gX6_isEnd_X6_in rfl rfl rfl kd_X6_in ⟨Nat.le_of_ble_eq_true rfl, Nat.le_of_ble_eq_true rfl⟩) (pv_S hKW (hP.sub (ws' := []) [] rfl)) rfl rfl hl.1 rfl (lv_room (Nat.le_of_ble_eq_true rfl)) dX6_isEnd_12 ⟨Nat.zero_le _, Nat.zero_le _⟩)) (fun r9 hr9 => ?_)
  subst r9
  obtain ⟨hbo, hE⟩ := ck_some hE
  have e_0 := Option.some.inj hE
  rw [hQ]
  exact W.zret (v := r_12) hx hb hr (nar_b hbo) (fun t ht _ => ⟨_, rfl, e_0, ht⟩) (fun q h => by cases h) dX6_isEnd_15
def S_X6_partner (p1 : Int32) (t_size : Int32) (t_lineRow : Int32) (t_lineColumn : Int32) (t_lineSide : Int32) (t_lineMany : Int32) (t_sign : Nat → Int32) (t_endRow : Nat → Int32) (t_endColumn : Nat → Int32) (t_endSide : Nat → Int32) (t_gone : Nat → Int32) : Option (Int32 × Int32 × Int32 × Int32 × Int32 × (Nat → Int32) × (Nat → Int32) × (Nat → Int32) × (Nat → Int32)) := (S_X6_isEnd p1 t_size).bind (fun (y2 : Int32) => if y2 = 0 then some ((-1 : Int32), t_lineRow, t_lineColumn, t_lineSide, t_lineMany, t_endRow, t_endColumn, t_endSide, t_gone) else (S_X6_findEnds t_size t_endRow t_endColumn t_endSide t_sign).bind (fun (y19 : (Nat → Int32) × (Nat → Int32) × (Nat → Int32)) => (S_X6_goes t_size p1 y19.1 y19.2.1 y19.2.2 t_gone t_sign).bind (fun (y32 : Int32 × Int32 × Int32 × Int32 × Int32 × (Nat → Int32)) => some (y32.1, y32.2.1, y32.2.2.1, y32.2.2.2.1, y32.2.2.2.2.1, y19.1, y19.2.1, y19.2.2, y32.2.2.2.2.2))))
theorem kd_X6_partner : yX6_partner.cls = RX6 ∧ yX6_partner.cls ≠ "java/lang/invoke/MethodHandle" ∧ yX6_partner.cls ≠ "java/lang/invoke/VarHandle" ∧ (parseMethodDescriptor yX6_partner.desc).map (fun d => d.parameters.length) = some 1 := by decide +kernel
set_option maxHeartbeats 4000000 in
set_option maxRecDepth 100000 in
theorem c_X6_partner {l : Launch} {G : kG} (sz : Nat) {p1 : Int32} {q_t : Nat} {t_length : Int32} {q_t_text : Nat} {t_size : Int32} {q_t_sign : Nat} {t_otherSize : Int32} {q_t_other : Nat} {q_t_before : Nat} {t_undoMany : Int32} {t_readSize : Int32} {q_t_read : Nat} {q_t_side : Nat} {q_t_tall : Nat} {q_t_endRow : Nat} {q_t_endColumn : Nat} {q_t_endSide : Nat} {q_t_gone : Nat} {t_lineRow : Int32} {t_lineColumn : Int32} {t_lineSide : Int32} {t_lineMany : Int32} {q_t_ways : Nat} {q_t_codes : Nat} {q_t_many : Nat} {t_sign : Nat → Int32} {t_endRow : Nat → Int32} {t_endColumn : Nat → Int32} {t_endSide : Nat → Int32} {t_gone : Nat → Int32} {res : Int32 × Int32 × Int32 × Int32 × Int32 × (Nat → Int32) × (Nat → Int32) × (Nat → Int32) × (Nat → Int32)} (hE : S_X6_partner p1 t_size t_lineRow t_lineColumn t_lineSide t_lineMany t_sign t_endRow t_endColumn t_endSide t_gone = some res) : Met l yX6_partner wsX6_partner ({ frames := 4, cells := 0, slots := 0, locals := 97 }) (va_Pc [.ref q_t, .int p1] (fun U => U.heap.size = sz ∧ va_P G.1 vwCl [oX6 q_t t_length q_t_text t_size q_t_sign t_otherSize q_t_other q_t_before t_undoMany t_readSize q_t_read q_t_side q_t_tall q_t_endRow q_t_endColumn q_t_endSide q_t_gone t_lineRow t_lineColumn t_lineSide t_lineMany q_t_ways q_t_codes q_t_many, aI (G.2 1) q_t_sign 36 t_sign, aI (G.2 1) q_t_endRow 12 t_endRow, aI (G.2 1) q_t_endColumn 12 t_endColumn, aI (G.2 1) q_t_endSide 12 t_endSide, aI (G.2 3) q_t_gone 36 t_gone] U.heap ∧ kw G U ∧ va_D (fun _ => True) [oX6 q_t t_length q_t_text t_size q_t_sign t_otherSize q_t_other q_t_before t_undoMany t_readSize q_t_read q_t_side q_t_tall q_t_endRow q_t_endColumn q_t_endSide q_t_gone t_lineRow t_lineColumn t_lineSide t_lineMany q_t_ways q_t_codes q_t_many, aI (G.2 1) q_t_sign 36 t_sign, aI (G.2 1) q_t_endRow 12 t_endRow, aI (G.2 1) q_t_endColumn 12 t_endColumn, aI (G.2 1) q_t_endSide 12 t_endSide, aI (G.2 3) q_t_gone 36 t_gone])) (va_Qi (fun r (_ : Unit) => r = res.1) (fun _ t => va_P G.1 vwCl [oX6 q_t t_length q_t_text t_size q_t_sign t_otherSize q_t_other q_t_before t_undoMany t_readSize q_t_read q_t_side q_t_tall q_t_endRow q_t_endColumn q_t_endSide q_t_gone res.2.1 res.2.2.1 res.2.2.2.1 res.2.2.2.2.1 q_t_ways q_t_codes q_t_many, aI (G.2 1) q_t_sign 36 t_sign, aI (G.2 1) q_t_endRow 12 res.2.2.2.2.2.1, aI (G.2 1) q_t_endColumn 12 res.2.2.2.2.2.2.1, aI (G.2 1) q_t_endSide 12 res.2.2.2.2.2.2.2.1, aI (G.2 3) q_t_gone 36 res.2.2.2.2.2.2.2.2] t.heap ∧ va_D (va_A [oX6 q_t t_length q_t_text t_size q_t_sign t_otherSize q_t_other q_t_before t_undoMany t_readSize q_t_read q_t_side q_t_tall q_t_endRow q_t_endColumn q_t_endSide q_t_gone t_lineRow t_lineColumn t_lineSide t_lineMany q_t_ways q_t_codes q_t_many, aI (G.2 1) q_t_sign 36 t_sign, aI (G.2 1) q_t_endRow 12 t_endRow, aI (G.2 1) q_t_endColumn 12 t_endColumn, aI (G.2 1) q_t_endSide 12 t_endSide, aI (G.2 3) q_t_gone 36 t_gone] sz) [oX6 q_t t_length q_t_text t_size q_t_sign t_otherSize q_t_other q_t_before t_undoMany t_readSize q_t_read q_t_side q_t_tall q_t_endRow q_t_endColumn q_t_endSide q_t_gone res.2.1 res.2.2.1 res.2.2.2.1 res.2.2.2.2.1 q_t_ways q_t_codes q_t_many, aI (G.2 1) q_t_sign 36 t_sign, aI (G.2 1) q_t_endRow 12 res.2.2.2.2.2.1, aI (G.2 1) q_t_endColumn 12 res.2.2.2.2.2.2.1, aI (G.2 1) q_t_endSide 12 res.2.2.2.2.2.2.2.1, aI (G.2 3) q_t_gone 36 res.2.2.2.2.2.2.2.2]) (va_A [oX6 q_t t_length q_t_text t_size q_t_sign t_otherSize q_t_other q_t_before t_undoMany t_readSize q_t_read q_t_side q_t_tall q_t_endRow q_t_endColumn q_t_endSide q_t_gone t_lineRow t_lineColumn t_lineSide t_lineMany q_t_ways q_t_codes q_t_many, aI (G.2 1) q_t_sign 36 t_sign, aI (G.2 1) q_t_endRow 12 t_endRow, aI (G.2 1) q_t_endColumn 12 t_endColumn, aI (G.2 1) q_t_endSide 12 t_endSide, aI (G.2 3) q_t_gone 36 t_gone] sz)) 0 0 (va_A [oX6 q_t t_length q_t_text t_size q_t_sign t_otherSize q_t_other q_t_before t_undoMany t_readSize q_t_read q_t_side q_t_tall q_t_endRow q_t_endColumn q_t_endSide q_t_gone t_lineRow t_lineColumn t_lineSide t_lineMany q_t_ways q_t_codes q_t_many, aI (G.2 1) q_t_sign 36 t_sign, aI (G.2 1) q_t_endRow 12 t_endRow, aI (G.2 1) q_t_endColumn 12 t_endColumn, aI (G.2 1) q_t_endSide 12 t_endSide, aI (G.2 3) q_t_gone 36 t_gone] sz) := by
  refine Met.ofQ (cc := cX6_partner) (maxL := 2) (ret := (some .int)) (by decide) rfl ?_
  intro p e s m args below meth c s₁ Q hQ B hml hv
  obtain ⟨rfl, hsz, hP, hKW, hD0⟩ := hv
  have hK := hKW.1
  have hx := B.exec
  have hb := B.bytes
  have hr := B.returns
  have hts := atoms_spec (ws := wsX6_partner) B.pre
  have hown : s.vm.findClass RX6 = some m.cls := findClass_of_methodNamed B.named
  have hlocks := B.notSynchronized
  have iX6 : ∀ w ∈ u_ws RX6 TX6 23, w ∈ wsX6_partner := by decide +kernel
  have fl_13 := hts (.fieldLink RX6 13 "AlternateSignsModel" "sign" "[I") (by decide +kernel)
  have fl_54 := hts (.fieldLink RX6 54 "AlternateSignsModel" "size" "I") (by decide +kernel)
  subst hsz
  have hD := hD0.self (sz := s.heap.size)
  generalize hAe : va_A [oX6 q_t t_length q_t_text t_size q_t_sign t_otherSize q_t_other q_t_before t_undoMany t_readSize q_t_read q_t_side q_t_tall q_t_endRow q_t_endColumn q_t_endSide q_t_gone t_lineRow t_lineColumn t_lineSide t_lineMany q_t_ways q_t_codes q_t_many, aI (G.2 1) q_t_sign 36 t_sign, aI (G.2 1) q_t_endRow 12 t_endRow, aI (G.2 1) q_t_endColumn 12 t_endColumn, aI (G.2 1) q_t_endSide 12 t_endSide, aI (G.2 3) q_t_gone 36 t_gone] s.heap.size = A at hD hQ
  have hA : ∀ q : Nat, s.heap.size ≤ q → A q := fun q h => by rw [← hAe]; exact Or.inr h
  have hS : va_S A s.heap s.heap [] := va_S.rf
  have hl := lv_entry ([.ref q_t, .int p1]) (n := 2) (Nat.le_of_ble_eq_true rfl)
  rw [lg_entry_eq]
  generalize (lg_sl ([.ref q_t, .int p1]) ++ List.replicate (2 - (lg_sl ([.ref q_t, .int p1])).length) Slot.unset).toArray = ls at hl ⊢
  have hl : lv_has ls 2 [(0, .ref q_t), (1, .int p1)] := hl
  unfold S_X6_partner at hE
  refine lv_aload_n hx hb dX6_partner_0 rfl (lv_at hl 0 rfl) ?_
  refine lv_iload_n hx hb dX6_partner_1 rfl (lv_at hl 1 rfl) ?_
  obtain ⟨y2, hC_2, hE⟩ := Option.bind_eq_some_iff.mp hE
  obtain ⟨r_2, ex9⟩ : ∃ z, z = y2 := ⟨_, rfl⟩
  subst ex9
  try dsimp only at hE
  refine vp_callSi (va_Run.run (va_runV (As := [.int p1]) (rest := []) ⟨hx, hb, hml, hown, hts⟩ (c_X6_isEnd (l := l) (G := G) (p1 := p1) (q_t := q_t) (t_length := t_length) (q_t_text := q_t_text) (t_size := t_size) (q_t_sign := q_t_sign) (t_otherSize := t_otherSize) (q_t_other := q_t_other) (q_t_before := q_t_before) (t_undoMany := t_undoMany) (t_readSize := t_readSize) (q_t_read := q_t_read) (q_t_side := q_t_side) (q_t_tall := q_t_tall) (q_t_endRow := q_t_endRow) (q_t_endColumn := q_t_endColumn) (q_t_endSide := q_t_endSide) (q_t_gone := q_t_gone) (t_lineRow := t_lineRow) (t_lineColumn := t_lineColumn) (t_lineSide := t_lineSide) (t_lineMany := t_lineMany) (q_t_ways := q_t_ways) (q_t_codes := q_t_codes) (q_t_many := q_t_many) hC_2) (cwV 1 hts gX6_partner_X6_isEnd rfl rfl rfl kd_X6_isEnd ⟨Nat.le_of_ble_eq_true rfl, Nat.le_of_ble_eq_true rfl⟩) (pv_V hKW (hP.sub (ws' := [oX6 q_t t_length q_t_text t_size q_t_sign t_otherSize q_t_other q_t_before t_undoMany t_readSize q_t_read q_t_side q_t_tall q_t_endRow q_t_endColumn q_t_endSide q_t_gone t_lineRow t_lineColumn t_lineSide t_lineMany q_t_ways q_t_codes q_t_many]) [0] rfl) (ci := 6) (q0 := 0) rfl rfl) rfl rfl hl.1 rfl (lv_room (Nat.le_of_ble_eq_true rfl)) dX6_partner_2 ⟨Nat.zero_le _, Nat.zero_le _⟩)) (fun r9 hr9 => ?_)
  subst r9
  refine lv_if_ne (tgt := 10) hx hb dX6_partner_5 (by decide) (fun c_5 => ?_) (fun c_5 => ?_)
  · replace hE := (if_neg c_5).symm.trans hE
    refine lv_aload_n hx hb dX6_partner_10 rfl (lv_at hl 0 rfl) ?_
    refine lv_aload_n hx hb dX6_partner_11 rfl (lv_at hl 0 rfl) ?_
    refine va_get (D := G.1) (ci := 6) (v := .ref q_t_sign) (C := RX6) (T := TX6) (N := 23) hx hb hts iX6 hown hK hP 0 rfl rfl 3 (by decide) fl_13 (fun _ h9 => h9) rfl dX6_partner_12 ?_
    refine lv_aload_n hx hb dX6_partner_15 rfl (lv_at hl 0 rfl) ?_
    refine va_get (D := G.1) (ci := 6) (v := .int t_size) (C := RX6) (T := TX6) (N := 23) hx hb hts iX6 hown hK hP 0 rfl rfl 2 (by decide) fl_54 (fun _ h9 => h9) rfl dX6_partner_16 ?_
    obtain ⟨y19, hC_19, hE⟩ := Option.bind_eq_some_iff.mp hE
    obtain ⟨m_19_0, m_19_1, m_19_2⟩ := y19
    try dsimp only at hE
    have hPc := hP.sub (ws' := [oX6 q_t t_length q_t_text t_size q_t_sign t_otherSize q_t_other q_t_before t_undoMany t_readSize q_t_read q_t_side q_t_tall q_t_endRow q_t_endColumn q_t_endSide q_t_gone t_lineRow t_lineColumn t_lineSide t_lineMany q_t_ways q_t_codes q_t_many, aI (G.2 1) q_t_endRow 12 t_endRow, aI (G.2 1) q_t_endColumn 12 t_endColumn, aI (G.2 1) q_t_endSide 12 t_endSide, aI (G.2 1) q_t_sign 36 t_sign]) [0, 2, 3, 4, 1] rfl
    have hDc := hD.sub (ws' := [oX6 q_t t_length q_t_text t_size q_t_sign t_otherSize q_t_other q_t_before t_undoMany t_readSize q_t_read q_t_side q_t_tall q_t_endRow q_t_endColumn q_t_endSide q_t_gone t_lineRow t_lineColumn t_lineSide t_lineMany q_t_ways q_t_codes q_t_many, aI (G.2 1) q_t_endRow 12 t_endRow, aI (G.2 1) q_t_endColumn 12 t_endColumn, aI (G.2 1) q_t_endSide 12 t_endSide, aI (G.2 1) q_t_sign 36 t_sign]) [0, 2, 3, 4, 1] (by decide) rfl
    have hFc := va_free (wc := [oX6 q_t t_length q_t_text t_size q_t_sign t_otherSize q_t_other q_t_before t_undoMany t_readSize q_t_read q_t_side q_t_tall q_t_endRow q_t_endColumn q_t_endSide q_t_gone t_lineRow t_lineColumn t_lineSide t_lineMany q_t_ways q_t_codes q_t_many, aI (G.2 1) q_t_endRow 12 t_endRow, aI (G.2 1) q_t_endColumn 12 t_endColumn, aI (G.2 1) q_t_endSide 12 t_endSide, aI (G.2 1) q_t_sign 36 t_sign]) hD hS hA [0, 2, 3, 4, 1] rfl
    refine va_callv (va_runV (As := [.ref q_t_sign, .int t_size]) (rest := []) ⟨hx, hb, hml, hown, hts⟩ (c_X6_findEnds (l := l) (G := G) _ (p2 := t_size) (q_t := q_t) (t_length := t_length) (q_t_text := q_t_text) (t_size := t_size) (q_t_sign := q_t_sign) (t_otherSize := t_otherSize) (q_t_other := q_t_other) (q_t_before := q_t_before) (t_undoMany := t_undoMany) (t_readSize := t_readSize) (q_t_read := q_t_read) (q_t_side := q_t_side) (q_t_tall := q_t_tall) (q_t_endRow := q_t_endRow) (q_t_endColumn := q_t_endColumn) (q_t_endSide := q_t_endSide) (q_t_gone := q_t_gone) (t_lineRow := t_lineRow) (t_lineColumn := t_lineColumn) (t_lineSide := t_lineSide) (t_lineMany := t_lineMany) (q_t_ways := q_t_ways) (q_t_codes := q_t_codes) (q_t_many := q_t_many) (t_endRow := t_endRow) (t_endColumn := t_endColumn) (t_endSide := t_endSide) (q_p1 := q_t_sign) (p1 := t_sign) hC_19) (cwV 2 hts gX6_partner_X6_findEnds rfl rfl rfl kd_X6_findEnds ⟨Nat.le_of_ble_eq_true rfl, Nat.le_of_ble_eq_true rfl⟩) (iv_V hKW hPc hDc (ci := 6) (q0 := 0) rfl rfl) rfl rfl hl.1 rfl (lv_room (Nat.le_of_ble_eq_true rfl)) dX6_partner_19 ⟨Nat.zero_le _, Nat.zero_le _⟩) hS (fun q _ h => hFc q h) hFc (fun u9 t9 H1 locs ht9 hvm9 hw9 hB9 hz9 hk9 hS => ?_)
    obtain ⟨hP1, hD1⟩ := hB9
    rw [ht9] at hP1
    obtain ⟨hP, hD⟩ := va_join (wr := [aI (G.2 3) q_t_gone 36 t_gone]) (w1 := [oX6 q_t t_length q_t_text t_size q_t_sign t_otherSize q_t_other q_t_before t_undoMany t_readSize q_t_read q_t_side q_t_tall q_t_endRow q_t_endColumn q_t_endSide q_t_gone t_lineRow t_lineColumn t_lineSide t_lineMany q_t_ways q_t_codes q_t_many, aI (G.2 1) q_t_endRow 12 m_19_0, aI (G.2 1) q_t_endColumn 12 m_19_1, aI (G.2 1) q_t_endSide 12 m_19_2, aI (G.2 1) q_t_sign 36 t_sign]) hP hD [0, 2, 3, 4, 1] [5] rfl rfl (by decide) (by decide) hk9 hFc hP1 hD1
    have hP := hP.sub (ws' := [oX6 q_t t_length q_t_text t_size q_t_sign t_otherSize q_t_other q_t_before t_undoMany t_readSize q_t_read q_t_side q_t_tall q_t_endRow q_t_endColumn q_t_endSide q_t_gone t_lineRow t_lineColumn t_lineSide t_lineMany q_t_ways q_t_codes q_t_many, aI (G.2 1) q_t_sign 36 t_sign, aI (G.2 1) q_t_endRow 12 m_19_0, aI (G.2 1) q_t_endColumn 12 m_19_1, aI (G.2 1) q_t_endSide 12 m_19_2, aI (G.2 3) q_t_gone 36 t_gone]) [1, 5, 2, 3, 4, 0] rfl
    have hD := hD.sub (ws' := [oX6 q_t t_length q_t_text t_size q_t_sign t_otherSize q_t_other q_t_before t_undoMany t_readSize q_t_read q_t_side q_t_tall q_t_endRow q_t_endColumn q_t_endSide q_t_gone t_lineRow t_lineColumn t_lineSide t_lineMany q_t_ways q_t_codes q_t_many, aI (G.2 1) q_t_sign 36 t_sign, aI (G.2 1) q_t_endRow 12 m_19_0, aI (G.2 1) q_t_endColumn 12 m_19_1, aI (G.2 1) q_t_endSide 12 m_19_2, aI (G.2 3) q_t_gone 36 t_gone]) [1, 5, 2, 3, 4, 0] (by decide) rfl
    clear hPc hDc hFc hP1 hD1 hk9 hz9 hvm9
    refine lv_aload_n hx hb dX6_partner_22 rfl (lv_at hl 0 rfl) ?_
    refine lv_aload_n hx hb dX6_partner_23 rfl (lv_at hl 0 rfl) ?_
    refine va_get (D := G.1) (ci := 6) (v := .ref q_t_sign) (C := RX6) (T := TX6) (N := 23) hx hb hts iX6 hown hK hP 0 rfl rfl 3 (by decide) fl_13 (fun _ h9 => h9) rfl dX6_partner_24 ?_
    refine lv_aload_n hx hb dX6_partner_27 rfl (lv_at hl 0 rfl) ?_
    refine va_get (D := G.1) (ci := 6) (v := .int t_size) (C := RX6) (T := TX6) (N := 23) hx hb hts iX6 hown hK hP 0 rfl rfl 2 (by decide) fl_54 (fun _ h9 => h9) rfl dX6_partner_28 ?_
    refine lv_iload_n hx hb dX6_partner_31 rfl (lv_at hl 1 rfl) ?_
    obtain ⟨y32, hC_32, hE⟩ := Option.bind_eq_some_iff.mp hE
    obtain ⟨r_32, m_32_0, m_32_1, m_32_2, m_32_3, m_32_4⟩ := y32
    try dsimp only at hE
    have hPc := hP.sub (ws' := [oX6 q_t t_length q_t_text t_size q_t_sign t_otherSize q_t_other q_t_before t_undoMany t_readSize q_t_read q_t_side q_t_tall q_t_endRow q_t_endColumn q_t_endSide q_t_gone t_lineRow t_lineColumn t_lineSide t_lineMany q_t_ways q_t_codes q_t_many, aI (G.2 1) q_t_endRow 12 m_19_0, aI (G.2 1) q_t_endColumn 12 m_19_1, aI (G.2 1) q_t_endSide 12 m_19_2, aI (G.2 3) q_t_gone 36 t_gone, aI (G.2 1) q_t_sign 36 t_sign]) [0, 2, 3, 4, 5, 1] rfl
    have hDc := hD.sub (ws' := [oX6 q_t t_length q_t_text t_size q_t_sign t_otherSize q_t_other q_t_before t_undoMany t_readSize q_t_read q_t_side q_t_tall q_t_endRow q_t_endColumn q_t_endSide q_t_gone t_lineRow t_lineColumn t_lineSide t_lineMany q_t_ways q_t_codes q_t_many, aI (G.2 1) q_t_endRow 12 m_19_0, aI (G.2 1) q_t_endColumn 12 m_19_1, aI (G.2 1) q_t_endSide 12 m_19_2, aI (G.2 3) q_t_gone 36 t_gone, aI (G.2 1) q_t_sign 36 t_sign]) [0, 2, 3, 4, 5, 1] (by decide) rfl
    have hFc := va_free (wc := [oX6 q_t t_length q_t_text t_size q_t_sign t_otherSize q_t_other q_t_before t_undoMany t_readSize q_t_read q_t_side q_t_tall q_t_endRow q_t_endColumn q_t_endSide q_t_gone t_lineRow t_lineColumn t_lineSide t_lineMany q_t_ways q_t_codes q_t_many, aI (G.2 1) q_t_endRow 12 m_19_0, aI (G.2 1) q_t_endColumn 12 m_19_1, aI (G.2 1) q_t_endSide 12 m_19_2, aI (G.2 3) q_t_gone 36 t_gone, aI (G.2 1) q_t_sign 36 t_sign]) hD hS hA [0, 2, 3, 4, 5, 1] rfl
    refine va_calli (va_runV (As := [.ref q_t_sign, .int t_size, .int p1]) (rest := []) ⟨hx, hb, hml, hown, hts⟩ (c_X6_goes (l := l) (G := G) _ (p2 := t_size) (p3 := p1) (q_t := q_t) (t_length := t_length) (q_t_text := q_t_text) (t_size := t_size) (q_t_sign := q_t_sign) (t_otherSize := t_otherSize) (q_t_other := q_t_other) (q_t_before := q_t_before) (t_undoMany := t_undoMany) (t_readSize := t_readSize) (q_t_read := q_t_read) (q_t_side := q_t_side) (q_t_tall := q_t_tall) (q_t_endRow := q_t_endRow) (q_t_endColumn := q_t_endColumn) (q_t_endSide := q_t_endSide) (q_t_gone := q_t_gone) (t_lineRow := t_lineRow) (t_lineColumn := t_lineColumn) (t_lineSide := t_lineSide) (t_lineMany := t_lineMany) (q_t_ways := q_t_ways) (q_t_codes := q_t_codes) (q_t_many := q_t_many) (t_endRow := m_19_0) (t_endColumn := m_19_1) (t_endSide := m_19_2) (t_gone := t_gone) (q_p1 := q_t_sign) (p1 := t_sign) hC_32) (cwV 3 hts gX6_partner_X6_goes rfl rfl rfl kd_X6_goes ⟨Nat.le_of_ble_eq_true rfl, Nat.le_of_ble_eq_true rfl⟩) (iv_V hKW hPc hDc (ci := 6) (q0 := 0) rfl rfl) rfl rfl hl.1 rfl (lv_room (Nat.le_of_ble_eq_true rfl)) dX6_partner_32 ⟨Nat.zero_le _, Nat.zero_le _⟩) hS (fun q _ h => hFc q h) hFc (fun r9 u9 t9 H1 locs ht9 hvm9 hw9 hB9 hz9 hk9 hS => ?_)
    subst r9
    obtain ⟨hP1, hD1⟩ := hB9
    rw [ht9] at hP1
    obtain ⟨hP, hD⟩ := va_join (wr := []) (w1 := [oX6 q_t t_length q_t_text t_size q_t_sign t_otherSize q_t_other q_t_before t_undoMany t_readSize q_t_read q_t_side q_t_tall q_t_endRow q_t_endColumn q_t_endSide q_t_gone m_32_0 m_32_1 m_32_2 m_32_3 q_t_ways q_t_codes q_t_many, aI (G.2 1) q_t_endRow 12 m_19_0, aI (G.2 1) q_t_endColumn 12 m_19_1, aI (G.2 1) q_t_endSide 12 m_19_2, aI (G.2 3) q_t_gone 36 m_32_4, aI (G.2 1) q_t_sign 36 t_sign]) hP hD [0, 2, 3, 4, 5, 1] [] rfl rfl (by decide) (by decide) hk9 hFc hP1 hD1
    have hP := hP.sub (ws' := [oX6 q_t t_length q_t_text t_size q_t_sign t_otherSize q_t_other q_t_before t_undoMany t_readSize q_t_read q_t_side q_t_tall q_t_endRow q_t_endColumn q_t_endSide q_t_gone m_32_0 m_32_1 m_32_2 m_32_3 q_t_ways q_t_codes q_t_many, aI (G.2 1) q_t_sign 36 t_sign, aI (G.2 1) q_t_endRow 12 m_19_0, aI (G.2 1) q_t_endColumn 12 m_19_1, aI (G.2 1) q_t_endSide 12 m_19_2, aI (G.2 3) q_t_gone 36 m_32_4]) [0, 5, 1, 2, 3, 4] rfl
    have hD := hD.sub (ws' := [oX6 q_t t_length q_t_text t_size q_t_sign t_otherSize q_t_other q_t_before t_undoMany t_readSize q_t_read q_t_side q_t_tall q_t_endRow q_t_endColumn q_t_endSide q_t_gone m_32_0 m_32_1 m_32_2 m_32_3 q_t_ways q_t_codes q_t_many, aI (G.2 1) q_t_sign 36 t_sign, aI (G.2 1) q_t_endRow 12 m_19_0, aI (G.2 1) q_t_endColumn 12 m_19_1, aI (G.2 1) q_t_endSide 12 m_19_2, aI (G.2 3) q_t_gone 36 m_32_4]) [0, 5, 1, 2, 3, 4] (by decide) rfl
    clear hPc hDc hFc hP1 hD1 hk9 hz9 hvm9
    have e_0 := Option.some.inj hE
    subst e_0
    rw [hQ]
    exact W.iret (v := r_32) hx hb hr (fun t ht _ => ⟨⟨_, (), rfl, rfl, by rw [ht]; exact hP, hD⟩, hS.F ht⟩) hS.2.2 dX6_partner_35
  · replace hE := (if_pos c_5).symm.trans hE
    refine lv_iconst (v := -1) hx hb dX6_partner_8 (by decide) ?_
    have e_0 := Option.some.inj hE
    subst e_0
    rw [hQ]
    exact W.iret (v := (-1 : Int32)) hx hb hr (fun t ht _ => ⟨⟨_, (), rfl, rfl, by rw [ht]; exact hP, hD⟩, hS.F ht⟩) hS.2.2 dX6_partner_9
def S_X6_line (p1 : Int32) (t_size : Int32) (t_lineRow : Int32) (t_lineColumn : Int32) (t_lineSide : Int32) (t_lineMany : Int32) (t_sign : Nat → Int32) (t_endRow : Nat → Int32) (t_endColumn : Nat → Int32) (t_endSide : Nat → Int32) (t_gone : Nat → Int32) : Option (Int32 × Int32 × Int32 × Int32 × Int32 × (Nat → Int32) × (Nat → Int32) × (Nat → Int32) × (Nat → Int32)) := (S_X6_isEnd p1 t_size).bind (fun (y2 : Int32) => if y2 = 0 then some ((-1 : Int32), t_lineRow, t_lineColumn, t_lineSide, t_lineMany, t_endRow, t_endColumn, t_endSide, t_gone) else (S_X6_findEnds t_size t_endRow t_endColumn t_endSide t_sign).bind (fun (y19 : (Nat → Int32) × (Nat → Int32) × (Nat → Int32)) => (S_X6_goes t_size p1 y19.1 y19.2.1 y19.2.2 t_gone t_sign).bind (fun (y32 : Int32 × Int32 × Int32 × Int32 × Int32 × (Nat → Int32)) => some (y32.2.2.2.2.1, y32.2.1, y32.2.2.1, y32.2.2.2.1, y32.2.2.2.2.1, y19.1, y19.2.1, y19.2.2, y32.2.2.2.2.2))))
theorem kd_X6_line : yX6_line.cls = RX6 ∧ yX6_line.cls ≠ "java/lang/invoke/MethodHandle" ∧ yX6_line.cls ≠ "java/lang/invoke/VarHandle" ∧ (parseMethodDescriptor yX6_line.desc).map (fun d => d.parameters.length) = some 1 := by decide +kernel
set_option maxHeartbeats 4000000 in
set_option maxRecDepth 100000 in
theorem c_X6_line {l : Launch} {G : kG} (sz : Nat) {p1 : Int32} {q_t : Nat} {t_length : Int32} {q_t_text : Nat} {t_size : Int32} {q_t_sign : Nat} {t_otherSize : Int32} {q_t_other : Nat} {q_t_before : Nat} {t_undoMany : Int32} {t_readSize : Int32} {q_t_read : Nat} {q_t_side : Nat} {q_t_tall : Nat} {q_t_endRow : Nat} {q_t_endColumn : Nat} {q_t_endSide : Nat} {q_t_gone : Nat} {t_lineRow : Int32} {t_lineColumn : Int32} {t_lineSide : Int32} {t_lineMany : Int32} {q_t_ways : Nat} {q_t_codes : Nat} {q_t_many : Nat} {t_sign : Nat → Int32} {t_endRow : Nat → Int32} {t_endColumn : Nat → Int32} {t_endSide : Nat → Int32} {t_gone : Nat → Int32} {res : Int32 × Int32 × Int32 × Int32 × Int32 × (Nat → Int32) × (Nat → Int32) × (Nat → Int32) × (Nat → Int32)} (hE : S_X6_line p1 t_size t_lineRow t_lineColumn t_lineSide t_lineMany t_sign t_endRow t_endColumn t_endSide t_gone = some res) : Met l yX6_line wsX6_line ({ frames := 4, cells := 0, slots := 0, locals := 97 }) (va_Pc [.ref q_t, .int p1] (fun U => U.heap.size = sz ∧ va_P G.1 vwCl [oX6 q_t t_length q_t_text t_size q_t_sign t_otherSize q_t_other q_t_before t_undoMany t_readSize q_t_read q_t_side q_t_tall q_t_endRow q_t_endColumn q_t_endSide q_t_gone t_lineRow t_lineColumn t_lineSide t_lineMany q_t_ways q_t_codes q_t_many, aI (G.2 1) q_t_sign 36 t_sign, aI (G.2 1) q_t_endRow 12 t_endRow, aI (G.2 1) q_t_endColumn 12 t_endColumn, aI (G.2 1) q_t_endSide 12 t_endSide, aI (G.2 3) q_t_gone 36 t_gone] U.heap ∧ kw G U ∧ va_D (fun _ => True) [oX6 q_t t_length q_t_text t_size q_t_sign t_otherSize q_t_other q_t_before t_undoMany t_readSize q_t_read q_t_side q_t_tall q_t_endRow q_t_endColumn q_t_endSide q_t_gone t_lineRow t_lineColumn t_lineSide t_lineMany q_t_ways q_t_codes q_t_many, aI (G.2 1) q_t_sign 36 t_sign, aI (G.2 1) q_t_endRow 12 t_endRow, aI (G.2 1) q_t_endColumn 12 t_endColumn, aI (G.2 1) q_t_endSide 12 t_endSide, aI (G.2 3) q_t_gone 36 t_gone])) (va_Qi (fun r (_ : Unit) => r = res.1) (fun _ t => va_P G.1 vwCl [oX6 q_t t_length q_t_text t_size q_t_sign t_otherSize q_t_other q_t_before t_undoMany t_readSize q_t_read q_t_side q_t_tall q_t_endRow q_t_endColumn q_t_endSide q_t_gone res.2.1 res.2.2.1 res.2.2.2.1 res.2.2.2.2.1 q_t_ways q_t_codes q_t_many, aI (G.2 1) q_t_sign 36 t_sign, aI (G.2 1) q_t_endRow 12 res.2.2.2.2.2.1, aI (G.2 1) q_t_endColumn 12 res.2.2.2.2.2.2.1, aI (G.2 1) q_t_endSide 12 res.2.2.2.2.2.2.2.1, aI (G.2 3) q_t_gone 36 res.2.2.2.2.2.2.2.2] t.heap ∧ va_D (va_A [oX6 q_t t_length q_t_text t_size q_t_sign t_otherSize q_t_other q_t_before t_undoMany t_readSize q_t_read q_t_side q_t_tall q_t_endRow q_t_endColumn q_t_endSide q_t_gone t_lineRow t_lineColumn t_lineSide t_lineMany q_t_ways q_t_codes q_t_many, aI (G.2 1) q_t_sign 36 t_sign, aI (G.2 1) q_t_endRow 12 t_endRow, aI (G.2 1) q_t_endColumn 12 t_endColumn, aI (G.2 1) q_t_endSide 12 t_endSide, aI (G.2 3) q_t_gone 36 t_gone] sz) [oX6 q_t t_length q_t_text t_size q_t_sign t_otherSize q_t_other q_t_before t_undoMany t_readSize q_t_read q_t_side q_t_tall q_t_endRow q_t_endColumn q_t_endSide q_t_gone res.2.1 res.2.2.1 res.2.2.2.1 res.2.2.2.2.1 q_t_ways q_t_codes q_t_many, aI (G.2 1) q_t_sign 36 t_sign, aI (G.2 1) q_t_endRow 12 res.2.2.2.2.2.1, aI (G.2 1) q_t_endColumn 12 res.2.2.2.2.2.2.1, aI (G.2 1) q_t_endSide 12 res.2.2.2.2.2.2.2.1, aI (G.2 3) q_t_gone 36 res.2.2.2.2.2.2.2.2]) (va_A [oX6 q_t t_length q_t_text t_size q_t_sign t_otherSize q_t_other q_t_before t_undoMany t_readSize q_t_read q_t_side q_t_tall q_t_endRow q_t_endColumn q_t_endSide q_t_gone t_lineRow t_lineColumn t_lineSide t_lineMany q_t_ways q_t_codes q_t_many, aI (G.2 1) q_t_sign 36 t_sign, aI (G.2 1) q_t_endRow 12 t_endRow, aI (G.2 1) q_t_endColumn 12 t_endColumn, aI (G.2 1) q_t_endSide 12 t_endSide, aI (G.2 3) q_t_gone 36 t_gone] sz)) 0 0 (va_A [oX6 q_t t_length q_t_text t_size q_t_sign t_otherSize q_t_other q_t_before t_undoMany t_readSize q_t_read q_t_side q_t_tall q_t_endRow q_t_endColumn q_t_endSide q_t_gone t_lineRow t_lineColumn t_lineSide t_lineMany q_t_ways q_t_codes q_t_many, aI (G.2 1) q_t_sign 36 t_sign, aI (G.2 1) q_t_endRow 12 t_endRow, aI (G.2 1) q_t_endColumn 12 t_endColumn, aI (G.2 1) q_t_endSide 12 t_endSide, aI (G.2 3) q_t_gone 36 t_gone] sz) := by
  refine Met.ofQ (cc := cX6_line) (maxL := 2) (ret := (some .int)) (by decide) rfl ?_
  intro p e s m args below meth c s₁ Q hQ B hml hv
  obtain ⟨rfl, hsz, hP, hKW, hD0⟩ := hv
  have hK := hKW.1
  have hx := B.exec
  have hb := B.bytes
  have hr := B.returns
  have hts := atoms_spec (ws := wsX6_line) B.pre
  have hown : s.vm.findClass RX6 = some m.cls := findClass_of_methodNamed B.named
  have hlocks := B.notSynchronized
  have iX6 : ∀ w ∈ u_ws RX6 TX6 23, w ∈ wsX6_line := by decide +kernel
  have fl_13 := hts (.fieldLink RX6 13 "AlternateSignsModel" "sign" "[I") (by decide +kernel)
  have fl_54 := hts (.fieldLink RX6 54 "AlternateSignsModel" "size" "I") (by decide +kernel)
  have fl_145 := hts (.fieldLink RX6 145 "AlternateSignsModel" "lineMany" "I") (by decide +kernel)
  subst hsz
  have hD := hD0.self (sz := s.heap.size)
  generalize hAe : va_A [oX6 q_t t_length q_t_text t_size q_t_sign t_otherSize q_t_other q_t_before t_undoMany t_readSize q_t_read q_t_side q_t_tall q_t_endRow q_t_endColumn q_t_endSide q_t_gone t_lineRow t_lineColumn t_lineSide t_lineMany q_t_ways q_t_codes q_t_many, aI (G.2 1) q_t_sign 36 t_sign, aI (G.2 1) q_t_endRow 12 t_endRow, aI (G.2 1) q_t_endColumn 12 t_endColumn, aI (G.2 1) q_t_endSide 12 t_endSide, aI (G.2 3) q_t_gone 36 t_gone] s.heap.size = A at hD hQ
  have hA : ∀ q : Nat, s.heap.size ≤ q → A q := fun q h => by rw [← hAe]; exact Or.inr h
  have hS : va_S A s.heap s.heap [] := va_S.rf
  have hl := lv_entry ([.ref q_t, .int p1]) (n := 2) (Nat.le_of_ble_eq_true rfl)
  rw [lg_entry_eq]
  generalize (lg_sl ([.ref q_t, .int p1]) ++ List.replicate (2 - (lg_sl ([.ref q_t, .int p1])).length) Slot.unset).toArray = ls at hl ⊢
  have hl : lv_has ls 2 [(0, .ref q_t), (1, .int p1)] := hl
  unfold S_X6_line at hE
  refine lv_aload_n hx hb dX6_line_0 rfl (lv_at hl 0 rfl) ?_
  refine lv_iload_n hx hb dX6_line_1 rfl (lv_at hl 1 rfl) ?_
  obtain ⟨y2, hC_2, hE⟩ := Option.bind_eq_some_iff.mp hE
  obtain ⟨r_2, ex9⟩ : ∃ z, z = y2 := ⟨_, rfl⟩
  subst ex9
  try dsimp only at hE
  refine vp_callSi (va_Run.run (va_runV (As := [.int p1]) (rest := []) ⟨hx, hb, hml, hown, hts⟩ (c_X6_isEnd (l := l) (G := G) (p1 := p1) (q_t := q_t) (t_length := t_length) (q_t_text := q_t_text) (t_size := t_size) (q_t_sign := q_t_sign) (t_otherSize := t_otherSize) (q_t_other := q_t_other) (q_t_before := q_t_before) (t_undoMany := t_undoMany) (t_readSize := t_readSize) (q_t_read := q_t_read) (q_t_side := q_t_side) (q_t_tall := q_t_tall) (q_t_endRow := q_t_endRow) (q_t_endColumn := q_t_endColumn) (q_t_endSide := q_t_endSide) (q_t_gone := q_t_gone) (t_lineRow := t_lineRow) (t_lineColumn := t_lineColumn) (t_lineSide := t_lineSide) (t_lineMany := t_lineMany) (q_t_ways := q_t_ways) (q_t_codes := q_t_codes) (q_t_many := q_t_many) hC_2) (cwV 1 hts gX6_line_X6_isEnd rfl rfl rfl kd_X6_isEnd ⟨Nat.le_of_ble_eq_true rfl, Nat.le_of_ble_eq_true rfl⟩) (pv_V hKW (hP.sub (ws' := [oX6 q_t t_length q_t_text t_size q_t_sign t_otherSize q_t_other q_t_before t_undoMany t_readSize q_t_read q_t_side q_t_tall q_t_endRow q_t_endColumn q_t_endSide q_t_gone t_lineRow t_lineColumn t_lineSide t_lineMany q_t_ways q_t_codes q_t_many]) [0] rfl) (ci := 6) (q0 := 0) rfl rfl) rfl rfl hl.1 rfl (lv_room (Nat.le_of_ble_eq_true rfl)) dX6_line_2 ⟨Nat.zero_le _, Nat.zero_le _⟩)) (fun r9 hr9 => ?_)
  subst r9
  refine lv_if_ne (tgt := 10) hx hb dX6_line_5 (by decide) (fun c_5 => ?_) (fun c_5 => ?_)
  · replace hE := (if_neg c_5).symm.trans hE
    refine lv_aload_n hx hb dX6_line_10 rfl (lv_at hl 0 rfl) ?_
    refine lv_aload_n hx hb dX6_line_11 rfl (lv_at hl 0 rfl) ?_
    refine va_get (D := G.1) (ci := 6) (v := .ref q_t_sign) (C := RX6) (T := TX6) (N := 23) hx hb hts iX6 hown hK hP 0 rfl rfl 3 (by decide) fl_13 (fun _ h9 => h9) rfl dX6_line_12 ?_
    refine lv_aload_n hx hb dX6_line_15 rfl (lv_at hl 0 rfl) ?_
    refine va_get (D := G.1) (ci := 6) (v := .int t_size) (C := RX6) (T := TX6) (N := 23) hx hb hts iX6 hown hK hP 0 rfl rfl 2 (by decide) fl_54 (fun _ h9 => h9) rfl dX6_line_16 ?_
    obtain ⟨y19, hC_19, hE⟩ := Option.bind_eq_some_iff.mp hE
    obtain ⟨m_19_0, m_19_1, m_19_2⟩ := y19
    try dsimp only at hE
    have hPc := hP.sub (ws' := [oX6 q_t t_length q_t_text t_size q_t_sign t_otherSize q_t_other q_t_before t_undoMany t_readSize q_t_read q_t_side q_t_tall q_t_endRow q_t_endColumn q_t_endSide q_t_gone t_lineRow t_lineColumn t_lineSide t_lineMany q_t_ways q_t_codes q_t_many, aI (G.2 1) q_t_endRow 12 t_endRow, aI (G.2 1) q_t_endColumn 12 t_endColumn, aI (G.2 1) q_t_endSide 12 t_endSide, aI (G.2 1) q_t_sign 36 t_sign]) [0, 2, 3, 4, 1] rfl
    have hDc := hD.sub (ws' := [oX6 q_t t_length q_t_text t_size q_t_sign t_otherSize q_t_other q_t_before t_undoMany t_readSize q_t_read q_t_side q_t_tall q_t_endRow q_t_endColumn q_t_endSide q_t_gone t_lineRow t_lineColumn t_lineSide t_lineMany q_t_ways q_t_codes q_t_many, aI (G.2 1) q_t_endRow 12 t_endRow, aI (G.2 1) q_t_endColumn 12 t_endColumn, aI (G.2 1) q_t_endSide 12 t_endSide, aI (G.2 1) q_t_sign 36 t_sign]) [0, 2, 3, 4, 1] (by decide) rfl
    have hFc := va_free (wc := [oX6 q_t t_length q_t_text t_size q_t_sign t_otherSize q_t_other q_t_before t_undoMany t_readSize q_t_read q_t_side q_t_tall q_t_endRow q_t_endColumn q_t_endSide q_t_gone t_lineRow t_lineColumn t_lineSide t_lineMany q_t_ways q_t_codes q_t_many, aI (G.2 1) q_t_endRow 12 t_endRow, aI (G.2 1) q_t_endColumn 12 t_endColumn, aI (G.2 1) q_t_endSide 12 t_endSide, aI (G.2 1) q_t_sign 36 t_sign]) hD hS hA [0, 2, 3, 4, 1] rfl
    refine va_callv (va_runV (As := [.ref q_t_sign, .int t_size]) (rest := []) ⟨hx, hb, hml, hown, hts⟩ (c_X6_findEnds (l := l) (G := G) _ (p2 := t_size) (q_t := q_t) (t_length := t_length) (q_t_text := q_t_text) (t_size := t_size) (q_t_sign := q_t_sign) (t_otherSize := t_otherSize) (q_t_other := q_t_other) (q_t_before := q_t_before) (t_undoMany := t_undoMany) (t_readSize := t_readSize) (q_t_read := q_t_read) (q_t_side := q_t_side) (q_t_tall := q_t_tall) (q_t_endRow := q_t_endRow) (q_t_endColumn := q_t_endColumn) (q_t_endSide := q_t_endSide) (q_t_gone := q_t_gone) (t_lineRow := t_lineRow) (t_lineColumn := t_lineColumn) (t_lineSide := t_lineSide) (t_lineMany := t_lineMany) (q_t_ways := q_t_ways) (q_t_codes := q_t_codes) (q_t_many := q_t_many) (t_endRow := t_endRow) (t_endColumn := t_endColumn) (t_endSide := t_endSide) (q_p1 := q_t_sign) (p1 := t_sign) hC_19) (cwV 2 hts gX6_line_X6_findEnds rfl rfl rfl kd_X6_findEnds ⟨Nat.le_of_ble_eq_true rfl, Nat.le_of_ble_eq_true rfl⟩) (iv_V hKW hPc hDc (ci := 6) (q0 := 0) rfl rfl) rfl rfl hl.1 rfl (lv_room (Nat.le_of_ble_eq_true rfl)) dX6_line_19 ⟨Nat.zero_le _, Nat.zero_le _⟩) hS (fun q _ h => hFc q h) hFc (fun u9 t9 H1 locs ht9 hvm9 hw9 hB9 hz9 hk9 hS => ?_)
    obtain ⟨hP1, hD1⟩ := hB9
    rw [ht9] at hP1
    obtain ⟨hP, hD⟩ := va_join (wr := [aI (G.2 3) q_t_gone 36 t_gone]) (w1 := [oX6 q_t t_length q_t_text t_size q_t_sign t_otherSize q_t_other q_t_before t_undoMany t_readSize q_t_read q_t_side q_t_tall q_t_endRow q_t_endColumn q_t_endSide q_t_gone t_lineRow t_lineColumn t_lineSide t_lineMany q_t_ways q_t_codes q_t_many, aI (G.2 1) q_t_endRow 12 m_19_0, aI (G.2 1) q_t_endColumn 12 m_19_1, aI (G.2 1) q_t_endSide 12 m_19_2, aI (G.2 1) q_t_sign 36 t_sign]) hP hD [0, 2, 3, 4, 1] [5] rfl rfl (by decide) (by decide) hk9 hFc hP1 hD1
    have hP := hP.sub (ws' := [oX6 q_t t_length q_t_text t_size q_t_sign t_otherSize q_t_other q_t_before t_undoMany t_readSize q_t_read q_t_side q_t_tall q_t_endRow q_t_endColumn q_t_endSide q_t_gone t_lineRow t_lineColumn t_lineSide t_lineMany q_t_ways q_t_codes q_t_many, aI (G.2 1) q_t_sign 36 t_sign, aI (G.2 1) q_t_endRow 12 m_19_0, aI (G.2 1) q_t_endColumn 12 m_19_1, aI (G.2 1) q_t_endSide 12 m_19_2, aI (G.2 3) q_t_gone 36 t_gone]) [1, 5, 2, 3, 4, 0] rfl
    have hD := hD.sub (ws' := [oX6 q_t t_length q_t_text t_size q_t_sign t_otherSize q_t_other q_t_before t_undoMany t_readSize q_t_read q_t_side q_t_tall q_t_endRow q_t_endColumn q_t_endSide q_t_gone t_lineRow t_lineColumn t_lineSide t_lineMany q_t_ways q_t_codes q_t_many, aI (G.2 1) q_t_sign 36 t_sign, aI (G.2 1) q_t_endRow 12 m_19_0, aI (G.2 1) q_t_endColumn 12 m_19_1, aI (G.2 1) q_t_endSide 12 m_19_2, aI (G.2 3) q_t_gone 36 t_gone]) [1, 5, 2, 3, 4, 0] (by decide) rfl
    clear hPc hDc hFc hP1 hD1 hk9 hz9 hvm9
    refine lv_aload_n hx hb dX6_line_22 rfl (lv_at hl 0 rfl) ?_
    refine lv_aload_n hx hb dX6_line_23 rfl (lv_at hl 0 rfl) ?_
    refine va_get (D := G.1) (ci := 6) (v := .ref q_t_sign) (C := RX6) (T := TX6) (N := 23) hx hb hts iX6 hown hK hP 0 rfl rfl 3 (by decide) fl_13 (fun _ h9 => h9) rfl dX6_line_24 ?_
    refine lv_aload_n hx hb dX6_line_27 rfl (lv_at hl 0 rfl) ?_
    refine va_get (D := G.1) (ci := 6) (v := .int t_size) (C := RX6) (T := TX6) (N := 23) hx hb hts iX6 hown hK hP 0 rfl rfl 2 (by decide) fl_54 (fun _ h9 => h9) rfl dX6_line_28 ?_
    refine lv_iload_n hx hb dX6_line_31 rfl (lv_at hl 1 rfl) ?_
    obtain ⟨y32, hC_32, hE⟩ := Option.bind_eq_some_iff.mp hE
    obtain ⟨r_32, m_32_0, m_32_1, m_32_2, m_32_3, m_32_4⟩ := y32
    try dsimp only at hE
    have hPc := hP.sub (ws' := [oX6 q_t t_length q_t_text t_size q_t_sign t_otherSize q_t_other q_t_before t_undoMany t_readSize q_t_read q_t_side q_t_tall q_t_endRow q_t_endColumn q_t_endSide q_t_gone t_lineRow t_lineColumn t_lineSide t_lineMany q_t_ways q_t_codes q_t_many, aI (G.2 1) q_t_endRow 12 m_19_0, aI (G.2 1) q_t_endColumn 12 m_19_1, aI (G.2 1) q_t_endSide 12 m_19_2, aI (G.2 3) q_t_gone 36 t_gone, aI (G.2 1) q_t_sign 36 t_sign]) [0, 2, 3, 4, 5, 1] rfl
    have hDc := hD.sub (ws' := [oX6 q_t t_length q_t_text t_size q_t_sign t_otherSize q_t_other q_t_before t_undoMany t_readSize q_t_read q_t_side q_t_tall q_t_endRow q_t_endColumn q_t_endSide q_t_gone t_lineRow t_lineColumn t_lineSide t_lineMany q_t_ways q_t_codes q_t_many, aI (G.2 1) q_t_endRow 12 m_19_0, aI (G.2 1) q_t_endColumn 12 m_19_1, aI (G.2 1) q_t_endSide 12 m_19_2, aI (G.2 3) q_t_gone 36 t_gone, aI (G.2 1) q_t_sign 36 t_sign]) [0, 2, 3, 4, 5, 1] (by decide) rfl
    have hFc := va_free (wc := [oX6 q_t t_length q_t_text t_size q_t_sign t_otherSize q_t_other q_t_before t_undoMany t_readSize q_t_read q_t_side q_t_tall q_t_endRow q_t_endColumn q_t_endSide q_t_gone t_lineRow t_lineColumn t_lineSide t_lineMany q_t_ways q_t_codes q_t_many, aI (G.2 1) q_t_endRow 12 m_19_0, aI (G.2 1) q_t_endColumn 12 m_19_1, aI (G.2 1) q_t_endSide 12 m_19_2, aI (G.2 3) q_t_gone 36 t_gone, aI (G.2 1) q_t_sign 36 t_sign]) hD hS hA [0, 2, 3, 4, 5, 1] rfl
    refine va_calli (va_runV (As := [.ref q_t_sign, .int t_size, .int p1]) (rest := []) ⟨hx, hb, hml, hown, hts⟩ (c_X6_goes (l := l) (G := G) _ (p2 := t_size) (p3 := p1) (q_t := q_t) (t_length := t_length) (q_t_text := q_t_text) (t_size := t_size) (q_t_sign := q_t_sign) (t_otherSize := t_otherSize) (q_t_other := q_t_other) (q_t_before := q_t_before) (t_undoMany := t_undoMany) (t_readSize := t_readSize) (q_t_read := q_t_read) (q_t_side := q_t_side) (q_t_tall := q_t_tall) (q_t_endRow := q_t_endRow) (q_t_endColumn := q_t_endColumn) (q_t_endSide := q_t_endSide) (q_t_gone := q_t_gone) (t_lineRow := t_lineRow) (t_lineColumn := t_lineColumn) (t_lineSide := t_lineSide) (t_lineMany := t_lineMany) (q_t_ways := q_t_ways) (q_t_codes := q_t_codes) (q_t_many := q_t_many) (t_endRow := m_19_0) (t_endColumn := m_19_1) (t_endSide := m_19_2) (t_gone := t_gone) (q_p1 := q_t_sign) (p1 := t_sign) hC_32) (cwV 3 hts gX6_line_X6_goes rfl rfl rfl kd_X6_goes ⟨Nat.le_of_ble_eq_true rfl, Nat.le_of_ble_eq_true rfl⟩) (iv_V hKW hPc hDc (ci := 6) (q0 := 0) rfl rfl) rfl rfl hl.1 rfl (lv_room (Nat.le_of_ble_eq_true rfl)) dX6_line_32 ⟨Nat.zero_le _, Nat.zero_le _⟩) hS (fun q _ h => hFc q h) hFc (fun r9 u9 t9 H1 locs ht9 hvm9 hw9 hB9 hz9 hk9 hS => ?_)
    subst r9
    obtain ⟨hP1, hD1⟩ := hB9
    rw [ht9] at hP1
    obtain ⟨hP, hD⟩ := va_join (wr := []) (w1 := [oX6 q_t t_length q_t_text t_size q_t_sign t_otherSize q_t_other q_t_before t_undoMany t_readSize q_t_read q_t_side q_t_tall q_t_endRow q_t_endColumn q_t_endSide q_t_gone m_32_0 m_32_1 m_32_2 m_32_3 q_t_ways q_t_codes q_t_many, aI (G.2 1) q_t_endRow 12 m_19_0, aI (G.2 1) q_t_endColumn 12 m_19_1, aI (G.2 1) q_t_endSide 12 m_19_2, aI (G.2 3) q_t_gone 36 m_32_4, aI (G.2 1) q_t_sign 36 t_sign]) hP hD [0, 2, 3, 4, 5, 1] [] rfl rfl (by decide) (by decide) hk9 hFc hP1 hD1
    have hP := hP.sub (ws' := [oX6 q_t t_length q_t_text t_size q_t_sign t_otherSize q_t_other q_t_before t_undoMany t_readSize q_t_read q_t_side q_t_tall q_t_endRow q_t_endColumn q_t_endSide q_t_gone m_32_0 m_32_1 m_32_2 m_32_3 q_t_ways q_t_codes q_t_many, aI (G.2 1) q_t_sign 36 t_sign, aI (G.2 1) q_t_endRow 12 m_19_0, aI (G.2 1) q_t_endColumn 12 m_19_1, aI (G.2 1) q_t_endSide 12 m_19_2, aI (G.2 3) q_t_gone 36 m_32_4]) [0, 5, 1, 2, 3, 4] rfl
    have hD := hD.sub (ws' := [oX6 q_t t_length q_t_text t_size q_t_sign t_otherSize q_t_other q_t_before t_undoMany t_readSize q_t_read q_t_side q_t_tall q_t_endRow q_t_endColumn q_t_endSide q_t_gone m_32_0 m_32_1 m_32_2 m_32_3 q_t_ways q_t_codes q_t_many, aI (G.2 1) q_t_sign 36 t_sign, aI (G.2 1) q_t_endRow 12 m_19_0, aI (G.2 1) q_t_endColumn 12 m_19_1, aI (G.2 1) q_t_endSide 12 m_19_2, aI (G.2 3) q_t_gone 36 m_32_4]) [0, 5, 1, 2, 3, 4] (by decide) rfl
    clear hPc hDc hFc hP1 hD1 hk9 hz9 hvm9
    refine lv_pop hx hb dX6_line_35 rfl ?_
    refine lv_aload_n hx hb dX6_line_36 rfl (lv_at hl 0 rfl) ?_
    refine va_get (D := G.1) (ci := 6) (v := .int m_32_3) (C := RX6) (T := TX6) (N := 23) hx hb hts iX6 hown hK hP 0 rfl rfl 19 (by decide) fl_145 (fun _ h9 => h9) rfl dX6_line_37 ?_
    have e_0 := Option.some.inj hE
    subst e_0
    rw [hQ]
    exact W.iret (v := m_32_3) hx hb hr (fun t ht _ => ⟨⟨_, (), rfl, rfl, by rw [ht]; exact hP, hD⟩, hS.F ht⟩) hS.2.2 dX6_line_40
  · replace hE := (if_pos c_5).symm.trans hE
    refine lv_iconst (v := -1) hx hb dX6_line_8 (by decide) ?_
    have e_0 := Option.some.inj hE
    subst e_0
    rw [hQ]
    exact W.iret (v := (-1 : Int32)) hx hb hr (fun t ht _ => ⟨⟨_, (), rfl, rfl, by rw [ht]; exact hP, hD⟩, hS.F ht⟩) hS.2.2 dX6_line_9
def S_X6_drawn (t_size : Int32) (t_sign : Nat → Int32) : Option Int32 := itr (fun (x1 : Int32 × Int32) => if t_size < x1.2 then some (.inr x1.1) else itr (fun (x2 : Int32 × Int32) => if t_size < x2.2 then some (.inr (.inl (x2.1, x1.2 + (1 : Int32)))) else (S_X6_isAcross x1.2 x2.2 t_sign).bind (fun (y29 : Int32) => jn (if y29 = 0 then some (.inl (0 : Int32)) else some (.inl (1 : Int32))) (fun (x3 : Int32) => (S_X6_isDown x2.2 x1.2 t_sign).bind (fun (y46 : Int32) => if y46 = 0 then some (.inl (x2.1 + (x3 + (0 : Int32)), x2.2 + (1 : Int32))) else some (.inl (x2.1 + (x3 + (1 : Int32)), x2.2 + (1 : Int32))))))) 10000 (x1.1, (0 : Int32))) 10000 ((0 : Int32), (1 : Int32))
theorem kd_X6_drawn : yX6_drawn.cls = RX6 ∧ yX6_drawn.cls ≠ "java/lang/invoke/MethodHandle" ∧ yX6_drawn.cls ≠ "java/lang/invoke/VarHandle" ∧ (parseMethodDescriptor yX6_drawn.desc).map (fun d => d.parameters.length) = some 0 := by decide +kernel
set_option maxHeartbeats 4000000 in
set_option maxRecDepth 100000 in
theorem c_X6_drawn {l : Launch} {G : kG} {q_t : Nat} {t_length : Int32} {q_t_text : Nat} {t_size : Int32} {q_t_sign : Nat} {t_otherSize : Int32} {q_t_other : Nat} {q_t_before : Nat} {t_undoMany : Int32} {t_readSize : Int32} {q_t_read : Nat} {q_t_side : Nat} {q_t_tall : Nat} {q_t_endRow : Nat} {q_t_endColumn : Nat} {q_t_endSide : Nat} {q_t_gone : Nat} {t_lineRow : Int32} {t_lineColumn : Int32} {t_lineSide : Int32} {t_lineMany : Int32} {q_t_ways : Nat} {q_t_codes : Nat} {q_t_many : Nat} {t_sign : Nat → Int32} {res : Int32} (hE : S_X6_drawn t_size t_sign = some res) : Met l yX6_drawn wsX6_drawn ({ frames := 1, cells := 0, slots := 0, locals := 24 }) (va_Pc [.ref q_t] (fun U => va_P G.1 vwCl [oX6 q_t t_length q_t_text t_size q_t_sign t_otherSize q_t_other q_t_before t_undoMany t_readSize q_t_read q_t_side q_t_tall q_t_endRow q_t_endColumn q_t_endSide q_t_gone t_lineRow t_lineColumn t_lineSide t_lineMany q_t_ways q_t_codes q_t_many, aI (G.2 1) q_t_sign 36 t_sign] U.heap ∧ kw G U)) (vp_Si (fun r => r = res)) 0 0 (fun _ => False) := by
  refine Met.ofQ (cc := cX6_drawn) (maxL := 4) (ret := (some .int)) (by decide) rfl ?_
  intro p e s m args below meth c s₁ Q hQ B hml hv
  obtain ⟨rfl, hP, hKW⟩ := hv
  have hK := hKW.1
  have hx := B.exec
  have hb := B.bytes
  have hr := B.returns
  have hts := atoms_spec (ws := wsX6_drawn) B.pre
  have hown : s.vm.findClass RX6 = some m.cls := findClass_of_methodNamed B.named
  have hlocks := B.notSynchronized
  have iX6 : ∀ w ∈ u_ws RX6 TX6 23, w ∈ wsX6_drawn := by decide +kernel
  have fl_54 := hts (.fieldLink RX6 54 "AlternateSignsModel" "size" "I") (by decide +kernel)
  have fl_13 := hts (.fieldLink RX6 13 "AlternateSignsModel" "sign" "[I") (by decide +kernel)
  have hl := lv_entry ([.ref q_t]) (n := 4) (Nat.le_of_ble_eq_true rfl)
  rw [lg_entry_eq]
  generalize (lg_sl ([.ref q_t]) ++ List.replicate (4 - (lg_sl ([.ref q_t])).length) Slot.unset).toArray = ls at hl ⊢
  have hl : lv_has ls 4 [(0, .ref q_t)] := hl
  unfold S_X6_drawn at hE
  refine lv_iconst (v := 0) hx hb dX6_drawn_0 (by decide) ?_
  refine lv_istore_n (lv' := [(1, .int (0 : Int32)), (0, .ref q_t)]) hx hb dX6_drawn_1 rfl hl (by decide) rfl (fun ls hl => ?_)
  refine lv_iconst (v := 1) hx hb dX6_drawn_2 (by decide) ?_
  refine lv_istore_n (lv' := [(2, .int (1 : Int32)), (1, .int (0 : Int32)), (0, .ref q_t)]) hx hb dX6_drawn_3 rfl hl (by decide) rfl (fun ls hl => ?_)
  refine itr_ind (fun (x1 : Int32 × Int32) => ∀ (ls : Array Slot), lv_has ls 4 [(0, .ref q_t), (1, .int x1.1), (2, .int x1.2)] → W p l e (headSpec wsX6_drawn ({ frames := 1, cells := 0, slots := 0, locals := 24 })).room s m ([.ref q_t] : List Value).toArray below meth c s.heap [] 0 0 Q (F0 m 4 ls [])) (fun x1 o_1 hE ih_1 hr_1 => ?_) _ _ hE ls (lv_sub hl [2, 1, 0] rfl)
  obtain ⟨v1_1, v2_1⟩ := x1
  try dsimp only at hE
  intro ls hl
  try dsimp only at hl ⊢
  refine lv_iload_n hx hb dX6_drawn_4 rfl (lv_at hl 2 rfl) ?_
  refine lv_aload_n hx hb dX6_drawn_5 rfl (lv_at hl 0 rfl) ?_
  refine va_get (D := G.1) (ci := 6) (v := .int t_size) (C := RX6) (T := TX6) (N := 23) hx hb hts iX6 hown hK hP 0 rfl rfl 2 (by decide) fl_54 (fun _ h9 => h9) rfl dX6_drawn_6 ?_
  refine lv_icmp_gt (tgt := 72) hx hb dX6_drawn_9 (by decide) (fun c_9 => ?_) (fun c_9 => ?_)
  · replace hE := (if_pos c_9).symm.trans hE
    refine lv_iload_n hx hb dX6_drawn_72 rfl (lv_at hl 1 rfl) ?_
    have e_1 := Option.some.inj hE
    have e_0 := hr_1 _ e_1.symm
    rw [hQ]
    exact W.iret (v := v1_1) hx hb hr (fun t ht _ => ⟨_, rfl, e_0, ht⟩) (fun q h => by cases h) dX6_drawn_73
  · replace hE := (if_neg c_9).symm.trans hE
    refine lv_iconst (v := 0) hx hb dX6_drawn_12 (by decide) ?_
    refine lv_istore_n (lv' := [(3, .int (0 : Int32)), (0, .ref q_t), (1, .int v1_1), (2, .int v2_1)]) hx hb dX6_drawn_13 rfl hl (by decide) rfl (fun ls hl => ?_)
    refine itr_ind (fun (x2 : Int32 × Int32) => ∀ (ls : Array Slot), lv_has ls 4 [(0, .ref q_t), (1, .int x2.1), (2, .int v2_1), (3, .int x2.2)] → W p l e (headSpec wsX6_drawn ({ frames := 1, cells := 0, slots := 0, locals := 24 })).room s m ([.ref q_t] : List Value).toArray below meth c s.heap [] 0 0 Q (F0 m 14 ls [])) (fun x2 o_2 hE ih_2 hr_2 => ?_) _ _ hE ls (lv_sub hl [1, 2, 3, 0] rfl)
    obtain ⟨v1_2, v3_2⟩ := x2
    try dsimp only at hE
    intro ls hl
    try dsimp only at hl ⊢
    refine lv_iload_n hx hb dX6_drawn_14 rfl (lv_at hl 3 rfl) ?_
    refine lv_aload_n hx hb dX6_drawn_15 rfl (lv_at hl 0 rfl) ?_
    refine va_get (D := G.1) (ci := 6) (v := .int t_size) (C := RX6) (T := TX6) (N := 23) hx hb hts iX6 hown hK hP 0 rfl rfl 2 (by decide) fl_54 (fun _ h9 => h9) rfl dX6_drawn_16 ?_
    refine lv_icmp_gt (tgt := 66) hx hb dX6_drawn_19 (by decide) (fun c_19 => ?_) (fun c_19 => ?_)
    · replace hE := (if_pos c_19).symm.trans hE
      refine lv_iinc (v := v2_1 + (1 : Int32)) (lv' := [(2, .int (v2_1 + (1 : Int32))), (0, .ref q_t), (1, .int v1_2), (3, .int v3_2)]) hx hb dX6_drawn_66 hl (k := 2) rfl rfl (by decide) rfl (fun ls hl => ?_)
      refine lv_goto (tgt := 4) hx hb dX6_drawn_69 (by decide) ?_
      have e_2 := Option.some.inj hE
      have e_1 := hr_2 _ e_2.symm
      exact ih_1 _ e_1.symm ls (lv_sub hl [1, 2, 0] rfl)
    · replace hE := (if_neg c_19).symm.trans hE
      refine lv_iload_n hx hb dX6_drawn_22 rfl (lv_at hl 1 rfl) ?_
      refine lv_aload_n hx hb dX6_drawn_23 rfl (lv_at hl 0 rfl) ?_
      refine va_get (D := G.1) (ci := 6) (v := .ref q_t_sign) (C := RX6) (T := TX6) (N := 23) hx hb hts iX6 hown hK hP 0 rfl rfl 3 (by decide) fl_13 (fun _ h9 => h9) rfl dX6_drawn_24 ?_
      refine lv_iload_n hx hb dX6_drawn_27 rfl (lv_at hl 2 rfl) ?_
      refine lv_iload_n hx hb dX6_drawn_28 rfl (lv_at hl 3 rfl) ?_
      obtain ⟨y29, hC_29, hE⟩ := Option.bind_eq_some_iff.mp hE
      obtain ⟨r_29, ex9⟩ : ∃ z, z = y29 := ⟨_, rfl⟩
      subst ex9
      try dsimp only at hE
      refine vp_callSi (va_Run.run (va_runS (As := [.ref q_t_sign, .int v2_1, .int v3_2]) (rest := [.int v1_2]) ⟨hx, hb, hml, hown, hts⟩ (c_X6_isAcross (l := l) (G := G) (p2 := v2_1) (p3 := v3_2) (q_p1 := q_t_sign) (p1 := t_sign) hC_29) (va_cwS 3 hts gX6_drawn_X6_isAcross rfl rfl rfl kd_X6_isAcross ⟨Nat.le_of_ble_eq_true rfl, Nat.le_of_ble_eq_true rfl⟩) (pv_S hKW (hP.sub (ws' := [aI (G.2 1) q_t_sign 36 t_sign]) [1] rfl)) rfl rfl hl.1 rfl (lv_room (Nat.le_of_ble_eq_true rfl)) dX6_drawn_29 ⟨Nat.zero_le _, Nat.zero_le _⟩)) (fun r9 hr9 => ?_)
      subst r9
      obtain ⟨o_3, hEp, hk9, hr_3⟩ := jn_some hE
      have ih_3 : ∀ (x3 : Int32), o_3 = .inl x3 → ∀ (ls : Array Slot), lv_has ls 4 [(0, .ref q_t), (2, .int v2_1), (3, .int v3_2)] → W p l e (headSpec wsX6_drawn ({ frames := 1, cells := 0, slots := 0, locals := 24 })).room s m ([.ref q_t] : List Value).toArray below meth c s.heap [] 0 0 Q (F0 m 40 ls [.int x3, .int v1_2]) := by
        intro x3 ho9
        have hE := hk9 _ ho9
        obtain ⟨k1_3, ex9⟩ : ∃ z, z = x3 := ⟨_, rfl⟩
        subst ex9
        try dsimp only at hE
        intro ls hl
        try dsimp only at hl ⊢
        refine lv_aload_n hx hb dX6_drawn_40 rfl (lv_at hl 0 rfl) ?_
        refine va_get (D := G.1) (ci := 6) (v := .ref q_t_sign) (C := RX6) (T := TX6) (N := 23) hx hb hts iX6 hown hK hP 0 rfl rfl 3 (by decide) fl_13 (fun _ h9 => h9) rfl dX6_drawn_41 ?_
        refine lv_iload_n hx hb dX6_drawn_44 rfl (lv_at hl 2 rfl) ?_
        refine lv_iload_n hx hb dX6_drawn_45 rfl (lv_at hl 1 rfl) ?_
        obtain ⟨y46, hC_46, hE⟩ := Option.bind_eq_some_iff.mp hE
        obtain ⟨r_46, ex9⟩ : ∃ z, z = y46 := ⟨_, rfl⟩
        subst ex9
        try dsimp only at hE
        refine vp_callSi (va_Run.run (va_runS (As := [.ref q_t_sign, .int v3_2, .int v2_1]) (rest := [.int k1_3, .int v1_2]) ⟨hx, hb, hml, hown, hts⟩ (c_X6_isDown (l := l) (G := G) (p2 := v3_2) (p3 := v2_1) (q_p1 := q_t_sign) (p1 := t_sign) hC_46) (va_cwS 3 hts gX6_drawn_X6_isDown rfl rfl rfl kd_X6_isDown ⟨Nat.le_of_ble_eq_true rfl, Nat.le_of_ble_eq_true rfl⟩) (pv_S hKW (hP.sub (ws' := [aI (G.2 1) q_t_sign 36 t_sign]) [1] rfl)) rfl rfl hl.1 rfl (lv_room (Nat.le_of_ble_eq_true rfl)) dX6_drawn_46 ⟨Nat.zero_le _, Nat.zero_le _⟩)) (fun r9 hr9 => ?_)
        subst r9
        refine lv_if_eq (tgt := 56) hx hb dX6_drawn_49 (by decide) (fun c_49 => ?_) (fun c_49 => ?_)
        · replace hE := (if_pos c_49).symm.trans hE
          refine lv_iconst (v := 0) hx hb dX6_drawn_56 (by decide) ?_
          refine lv_iadd hx hb dX6_drawn_57 ?_
          refine lv_iadd hx hb dX6_drawn_58 ?_
          refine lv_istore_n (lv' := [(1, .int (v1_2 + (k1_3 + (0 : Int32)))), (0, .ref q_t), (2, .int v2_1), (3, .int v3_2)]) hx hb dX6_drawn_59 rfl hl (by decide) rfl (fun ls hl => ?_)
          refine lv_iinc (v := v3_2 + (1 : Int32)) (lv' := [(3, .int (v3_2 + (1 : Int32))), (1, .int (v1_2 + (k1_3 + (0 : Int32)))), (0, .ref q_t), (2, .int v2_1)]) hx hb dX6_drawn_60 hl (k := 3) rfl rfl (by decide) rfl (fun ls hl => ?_)
          refine lv_goto (tgt := 14) hx hb dX6_drawn_63 (by decide) ?_
          have e_2 := Option.some.inj hE
          exact ih_2 _ e_2.symm ls (lv_sub hl [2, 1, 3, 0] rfl)
        · replace hE := (if_neg c_49).symm.trans hE
          refine lv_iconst (v := 1) hx hb dX6_drawn_52 (by decide) ?_
          refine lv_goto (tgt := 57) hx hb dX6_drawn_53 (by decide) ?_
          refine lv_iadd hx hb dX6_drawn_57 ?_
          refine lv_iadd hx hb dX6_drawn_58 ?_
          refine lv_istore_n (lv' := [(1, .int (v1_2 + (k1_3 + (1 : Int32)))), (0, .ref q_t), (2, .int v2_1), (3, .int v3_2)]) hx hb dX6_drawn_59 rfl hl (by decide) rfl (fun ls hl => ?_)
          refine lv_iinc (v := v3_2 + (1 : Int32)) (lv' := [(3, .int (v3_2 + (1 : Int32))), (1, .int (v1_2 + (k1_3 + (1 : Int32)))), (0, .ref q_t), (2, .int v2_1)]) hx hb dX6_drawn_60 hl (k := 3) rfl rfl (by decide) rfl (fun ls hl => ?_)
          refine lv_goto (tgt := 14) hx hb dX6_drawn_63 (by decide) ?_
          have e_2 := Option.some.inj hE
          exact ih_2 _ e_2.symm ls (lv_sub hl [2, 1, 3, 0] rfl)
      clear hE hk9
      have hE := hEp
      clear hEp
      refine lv_if_eq (tgt := 39) hx hb dX6_drawn_32 (by decide) (fun c_32 => ?_) (fun c_32 => ?_)
      · replace hE := (if_pos c_32).symm.trans hE
        refine lv_iconst (v := 0) hx hb dX6_drawn_39 (by decide) ?_
        have e_3 := Option.some.inj hE
        exact ih_3 _ e_3.symm ls (lv_sub hl [0, 2, 3] rfl)
      · replace hE := (if_neg c_32).symm.trans hE
        refine lv_iconst (v := 1) hx hb dX6_drawn_35 (by decide) ?_
        refine lv_goto (tgt := 40) hx hb dX6_drawn_36 (by decide) ?_
        have e_3 := Option.some.inj hE
        exact ih_3 _ e_3.symm ls (lv_sub hl [0, 2, 3] rfl)
def S_X6_ring (p1 : Int32) (p2 : Int32) (t_size : Int32) (t_sign : Nat → Int32) (t_gone : Nat → Int32) : Option (Int32 × Int32 × Int32 × Int32 × Int32 × (Nat → Int32)) := itr (fun (x1 : Int32) => (S_X6_isDrawn p1 p2 x1 t_sign).bind (fun (y25 : Int32) => if y25 = 0 then some (.inl (x1 + (1 : Int32))) else itr (fun (x2 : Int32 × Int32 × Int32 × Int32 × Int32 × (Nat → Int32)) => if x2.1 = 0 then some (.inr (.inr (x2.2.2.2.2.1, x2.2.1, x2.2.2.1, x2.2.2.2.1, x2.2.2.2.2.1, x2.2.2.2.2.2))) else (S_X6_goesOn t_size x2.2.1 x2.2.2.1 x2.2.2.2.1 x2.2.2.2.2.1 x2.2.2.2.2.2 t_sign).bind (fun (y64 : Int32 × Int32 × Int32 × Int32 × Int32 × (Nat → Int32)) => if y64.2.1 = p1 then if y64.2.2.1 = p2 then some (.inl ((0 : Int32), y64.2.1, y64.2.2.1, y64.2.2.2.1, y64.2.2.2.2.1, y64.2.2.2.2.2)) else some (.inl ((1 : Int32), y64.2.1, y64.2.2.1, y64.2.2.2.1, y64.2.2.2.2.1, y64.2.2.2.2.2)) else some (.inl ((1 : Int32), y64.2.1, y64.2.2.1, y64.2.2.2.1, y64.2.2.2.2.1, y64.2.2.2.2.2)))) 10000 ((1 : Int32), p1, p2, x1, (0 : Int32), t_gone))) 10000 (0 : Int32)
theorem kd_X6_ring : yX6_ring.cls = RX6 ∧ yX6_ring.cls ≠ "java/lang/invoke/MethodHandle" ∧ yX6_ring.cls ≠ "java/lang/invoke/VarHandle" ∧ (parseMethodDescriptor yX6_ring.desc).map (fun d => d.parameters.length) = some 2 := by decide +kernel
set_option maxHeartbeats 4000000 in
set_option maxRecDepth 100000 in
theorem c_X6_ring {l : Launch} {G : kG} (sz : Nat) {p1 : Int32} {p2 : Int32} {q_t : Nat} {t_length : Int32} {q_t_text : Nat} {t_size : Int32} {q_t_sign : Nat} {t_otherSize : Int32} {q_t_other : Nat} {q_t_before : Nat} {t_undoMany : Int32} {t_readSize : Int32} {q_t_read : Nat} {q_t_side : Nat} {q_t_tall : Nat} {q_t_endRow : Nat} {q_t_endColumn : Nat} {q_t_endSide : Nat} {q_t_gone : Nat} {t_lineRow : Int32} {t_lineColumn : Int32} {t_lineSide : Int32} {t_lineMany : Int32} {q_t_ways : Nat} {q_t_codes : Nat} {q_t_many : Nat} {t_sign : Nat → Int32} {t_gone : Nat → Int32} {res : Int32 × Int32 × Int32 × Int32 × Int32 × (Nat → Int32)} (hE : S_X6_ring p1 p2 t_size t_sign t_gone = some res) : Met l yX6_ring wsX6_ring ({ frames := 3, cells := 0, slots := 0, locals := 72 }) (va_Pc [.ref q_t, .int p1, .int p2] (fun U => U.heap.size = sz ∧ va_P G.1 vwCl [oX6 q_t t_length q_t_text t_size q_t_sign t_otherSize q_t_other q_t_before t_undoMany t_readSize q_t_read q_t_side q_t_tall q_t_endRow q_t_endColumn q_t_endSide q_t_gone t_lineRow t_lineColumn t_lineSide t_lineMany q_t_ways q_t_codes q_t_many, aI (G.2 1) q_t_sign 36 t_sign, aI (G.2 3) q_t_gone 36 t_gone] U.heap ∧ kw G U ∧ va_D (fun _ => True) [oX6 q_t t_length q_t_text t_size q_t_sign t_otherSize q_t_other q_t_before t_undoMany t_readSize q_t_read q_t_side q_t_tall q_t_endRow q_t_endColumn q_t_endSide q_t_gone t_lineRow t_lineColumn t_lineSide t_lineMany q_t_ways q_t_codes q_t_many, aI (G.2 1) q_t_sign 36 t_sign, aI (G.2 3) q_t_gone 36 t_gone])) (va_Qi (fun r (_ : Unit) => r = res.1) (fun _ t => va_P G.1 vwCl [oX6 q_t t_length q_t_text t_size q_t_sign t_otherSize q_t_other q_t_before t_undoMany t_readSize q_t_read q_t_side q_t_tall q_t_endRow q_t_endColumn q_t_endSide q_t_gone res.2.1 res.2.2.1 res.2.2.2.1 res.2.2.2.2.1 q_t_ways q_t_codes q_t_many, aI (G.2 1) q_t_sign 36 t_sign, aI (G.2 3) q_t_gone 36 res.2.2.2.2.2] t.heap ∧ va_D (va_A [oX6 q_t t_length q_t_text t_size q_t_sign t_otherSize q_t_other q_t_before t_undoMany t_readSize q_t_read q_t_side q_t_tall q_t_endRow q_t_endColumn q_t_endSide q_t_gone t_lineRow t_lineColumn t_lineSide t_lineMany q_t_ways q_t_codes q_t_many, aI (G.2 1) q_t_sign 36 t_sign, aI (G.2 3) q_t_gone 36 t_gone] sz) [oX6 q_t t_length q_t_text t_size q_t_sign t_otherSize q_t_other q_t_before t_undoMany t_readSize q_t_read q_t_side q_t_tall q_t_endRow q_t_endColumn q_t_endSide q_t_gone res.2.1 res.2.2.1 res.2.2.2.1 res.2.2.2.2.1 q_t_ways q_t_codes q_t_many, aI (G.2 1) q_t_sign 36 t_sign, aI (G.2 3) q_t_gone 36 res.2.2.2.2.2]) (va_A [oX6 q_t t_length q_t_text t_size q_t_sign t_otherSize q_t_other q_t_before t_undoMany t_readSize q_t_read q_t_side q_t_tall q_t_endRow q_t_endColumn q_t_endSide q_t_gone t_lineRow t_lineColumn t_lineSide t_lineMany q_t_ways q_t_codes q_t_many, aI (G.2 1) q_t_sign 36 t_sign, aI (G.2 3) q_t_gone 36 t_gone] sz)) 0 0 (va_A [oX6 q_t t_length q_t_text t_size q_t_sign t_otherSize q_t_other q_t_before t_undoMany t_readSize q_t_read q_t_side q_t_tall q_t_endRow q_t_endColumn q_t_endSide q_t_gone t_lineRow t_lineColumn t_lineSide t_lineMany q_t_ways q_t_codes q_t_many, aI (G.2 1) q_t_sign 36 t_sign, aI (G.2 3) q_t_gone 36 t_gone] sz) := by
  refine Met.ofQ (cc := cX6_ring) (maxL := 4) (ret := (some .int)) (by decide) rfl ?_
  intro p e s m args below meth c s₁ Q hQ B hml hv
  obtain ⟨rfl, hsz, hP, hKW, hD0⟩ := hv
  have hK := hKW.1
  have hx := B.exec
  have hb := B.bytes
  have hr := B.returns
  have hts := atoms_spec (ws := wsX6_ring) B.pre
  have hown : s.vm.findClass RX6 = some m.cls := findClass_of_methodNamed B.named
  have hlocks := B.notSynchronized
  have iX6 : ∀ w ∈ u_ws RX6 TX6 23, w ∈ wsX6_ring := by decide +kernel
  have fl_139 := hts (.fieldLink RX6 139 "AlternateSignsModel" "lineRow" "I") (by decide +kernel)
  have fl_142 := hts (.fieldLink RX6 142 "AlternateSignsModel" "lineColumn" "I") (by decide +kernel)
  have fl_136 := hts (.fieldLink RX6 136 "AlternateSignsModel" "lineSide" "I") (by decide +kernel)
  have fl_13 := hts (.fieldLink RX6 13 "AlternateSignsModel" "sign" "[I") (by decide +kernel)
  have fl_145 := hts (.fieldLink RX6 145 "AlternateSignsModel" "lineMany" "I") (by decide +kernel)
  have fl_54 := hts (.fieldLink RX6 54 "AlternateSignsModel" "size" "I") (by decide +kernel)
  subst hsz
  have hD := hD0.self (sz := s.heap.size)
  generalize hAe : va_A [oX6 q_t t_length q_t_text t_size q_t_sign t_otherSize q_t_other q_t_before t_undoMany t_readSize q_t_read q_t_side q_t_tall q_t_endRow q_t_endColumn q_t_endSide q_t_gone t_lineRow t_lineColumn t_lineSide t_lineMany q_t_ways q_t_codes q_t_many, aI (G.2 1) q_t_sign 36 t_sign, aI (G.2 3) q_t_gone 36 t_gone] s.heap.size = A at hD hQ
  have hA : ∀ q : Nat, s.heap.size ≤ q → A q := fun q h => by rw [← hAe]; exact Or.inr h
  have hS : va_S A s.heap s.heap [] := va_S.rf
  have hl := lv_entry ([.ref q_t, .int p1, .int p2]) (n := 4) (Nat.le_of_ble_eq_true rfl)
  rw [lg_entry_eq]
  generalize (lg_sl ([.ref q_t, .int p1, .int p2]) ++ List.replicate (4 - (lg_sl ([.ref q_t, .int p1, .int p2])).length) Slot.unset).toArray = ls at hl ⊢
  have hl : lv_has ls 4 [(0, .ref q_t), (1, .int p1), (2, .int p2)] := hl
  unfold S_X6_ring at hE
  refine lv_aload_n hx hb dX6_ring_0 rfl (lv_at hl 0 rfl) ?_
  refine lv_iload_n hx hb dX6_ring_1 rfl (lv_at hl 1 rfl) ?_
  refine va_put (D := G.1) (ci := 6) (v := .int p1) (ty := .int) (C := RX6) (T := TX6) (N := 23) hx hb hts iX6 tyX6 tyX6_ok nmX6 hown hK hP hD hS 0 rfl rfl 16 (by decide) fl_139 (fun _ h9 => h9) rfl (by decide +kernel) rfl rfl (Nat.le_of_ble_eq_true rfl) dX6_ring_2 (fun H locs hP hD hS => ?_)
  have hP : va_P G.1 vwCl [oX6 q_t t_length q_t_text t_size q_t_sign t_otherSize q_t_other q_t_before t_undoMany t_readSize q_t_read q_t_side q_t_tall q_t_endRow q_t_endColumn q_t_endSide q_t_gone p1 t_lineColumn t_lineSide t_lineMany q_t_ways q_t_codes q_t_many, aI (G.2 1) q_t_sign 36 t_sign, aI (G.2 3) q_t_gone 36 t_gone] H := hP
  have hD : va_D A [oX6 q_t t_length q_t_text t_size q_t_sign t_otherSize q_t_other q_t_before t_undoMany t_readSize q_t_read q_t_side q_t_tall q_t_endRow q_t_endColumn q_t_endSide q_t_gone p1 t_lineColumn t_lineSide t_lineMany q_t_ways q_t_codes q_t_many, aI (G.2 1) q_t_sign 36 t_sign, aI (G.2 3) q_t_gone 36 t_gone] := hD
  refine lv_aload_n hx hb dX6_ring_5 rfl (lv_at hl 0 rfl) ?_
  refine lv_iload_n hx hb dX6_ring_6 rfl (lv_at hl 2 rfl) ?_
  refine va_put (D := G.1) (ci := 6) (v := .int p2) (ty := .int) (C := RX6) (T := TX6) (N := 23) hx hb hts iX6 tyX6 tyX6_ok nmX6 hown hK hP hD hS 0 rfl rfl 17 (by decide) fl_142 (fun _ h9 => h9) rfl (by decide +kernel) rfl rfl (Nat.le_of_ble_eq_true rfl) dX6_ring_7 (fun H locs hP hD hS => ?_)
  have hP : va_P G.1 vwCl [oX6 q_t t_length q_t_text t_size q_t_sign t_otherSize q_t_other q_t_before t_undoMany t_readSize q_t_read q_t_side q_t_tall q_t_endRow q_t_endColumn q_t_endSide q_t_gone p1 p2 t_lineSide t_lineMany q_t_ways q_t_codes q_t_many, aI (G.2 1) q_t_sign 36 t_sign, aI (G.2 3) q_t_gone 36 t_gone] H := hP
  have hD : va_D A [oX6 q_t t_length q_t_text t_size q_t_sign t_otherSize q_t_other q_t_before t_undoMany t_readSize q_t_read q_t_side q_t_tall q_t_endRow q_t_endColumn q_t_endSide q_t_gone p1 p2 t_lineSide t_lineMany q_t_ways q_t_codes q_t_many, aI (G.2 1) q_t_sign 36 t_sign, aI (G.2 3) q_t_gone 36 t_gone] := hD
  refine lv_aload_n hx hb dX6_ring_10 rfl (lv_at hl 0 rfl) ?_
  refine lv_iconst (v := 0) hx hb dX6_ring_11 (by decide) ?_
  refine va_put (D := G.1) (ci := 6) (v := .int (0 : Int32)) (ty := .int) (C := RX6) (T := TX6) (N := 23) hx hb hts iX6 tyX6 tyX6_ok nmX6 hown hK hP hD hS 0 rfl rfl 18 (by decide) fl_136 (fun _ h9 => h9) rfl (by decide +kernel) rfl rfl (Nat.le_of_ble_eq_true rfl) dX6_ring_12 (fun H locs hP hD hS => ?_)
  have hP : va_P G.1 vwCl [oX6 q_t t_length q_t_text t_size q_t_sign t_otherSize q_t_other q_t_before t_undoMany t_readSize q_t_read q_t_side q_t_tall q_t_endRow q_t_endColumn q_t_endSide q_t_gone p1 p2 (0 : Int32) t_lineMany q_t_ways q_t_codes q_t_many, aI (G.2 1) q_t_sign 36 t_sign, aI (G.2 3) q_t_gone 36 t_gone] H := hP
  have hD : va_D A [oX6 q_t t_length q_t_text t_size q_t_sign t_otherSize q_t_other q_t_before t_undoMany t_readSize q_t_read q_t_side q_t_tall q_t_endRow q_t_endColumn q_t_endSide q_t_gone p1 p2 (0 : Int32) t_lineMany q_t_ways q_t_codes q_t_many, aI (G.2 1) q_t_sign 36 t_sign, aI (G.2 3) q_t_gone 36 t_gone] := hD
  refine itr_ind (fun (x1 : Int32) => ∀ (H : Heap) (locs : List Loc) (ls : Array Slot), va_P G.1 vwCl [oX6 q_t t_length q_t_text t_size q_t_sign t_otherSize q_t_other q_t_before t_undoMany t_readSize q_t_read q_t_side q_t_tall q_t_endRow q_t_endColumn q_t_endSide q_t_gone p1 p2 x1 t_lineMany q_t_ways q_t_codes q_t_many, aI (G.2 1) q_t_sign 36 t_sign, aI (G.2 3) q_t_gone 36 t_gone] H → va_D A [oX6 q_t t_length q_t_text t_size q_t_sign t_otherSize q_t_other q_t_before t_undoMany t_readSize q_t_read q_t_side q_t_tall q_t_endRow q_t_endColumn q_t_endSide q_t_gone p1 p2 x1 t_lineMany q_t_ways q_t_codes q_t_many, aI (G.2 1) q_t_sign 36 t_sign, aI (G.2 3) q_t_gone 36 t_gone] → va_S A s.heap H locs → lv_has ls 4 [(0, .ref q_t), (1, .int p1), (2, .int p2)] → W p l e (headSpec wsX6_ring ({ frames := 3, cells := 0, slots := 0, locals := 72 })).room s m ([.ref q_t, .int p1, .int p2] : List Value).toArray below meth c H locs 0 0 Q (F0 m 15 ls [])) (fun x1 o_1 hE ih_1 hr_1 => ?_) _ _ hE _ _ ls hP hD hS (lv_sub hl [0, 1, 2] rfl)
  obtain ⟨w_t_lineSide_1, ex9⟩ : ∃ z, z = x1 := ⟨_, rfl⟩
  subst ex9
  try dsimp only at hE
  intro H locs ls hP hD hS hl
  try dsimp only at hP hD hl ⊢
  refine lv_aload_n hx hb dX6_ring_15 rfl (lv_at hl 0 rfl) ?_
  refine va_get (D := G.1) (ci := 6) (v := .ref q_t_sign) (C := RX6) (T := TX6) (N := 23) hx hb hts iX6 hown hK hP 0 rfl rfl 3 (by decide) fl_13 (fun _ h9 => h9) rfl dX6_ring_16 ?_
  refine lv_iload_n hx hb dX6_ring_19 rfl (lv_at hl 1 rfl) ?_
  refine lv_iload_n hx hb dX6_ring_20 rfl (lv_at hl 2 rfl) ?_
  refine lv_aload_n hx hb dX6_ring_21 rfl (lv_at hl 0 rfl) ?_
  refine va_get (D := G.1) (ci := 6) (v := .int w_t_lineSide_1) (C := RX6) (T := TX6) (N := 23) hx hb hts iX6 hown hK hP 0 rfl rfl 18 (by decide) fl_136 (fun _ h9 => h9) rfl dX6_ring_22 ?_
  obtain ⟨y25, hC_25, hE⟩ := Option.bind_eq_some_iff.mp hE
  obtain ⟨r_25, ex9⟩ : ∃ z, z = y25 := ⟨_, rfl⟩
  subst ex9
  try dsimp only at hE
  refine vp_callSi (va_Run.run (va_runS (As := [.ref q_t_sign, .int p1, .int p2, .int w_t_lineSide_1]) (rest := []) ⟨hx, hb, hml, hown, hts⟩ (c_X6_isDrawn (l := l) (G := G) (p2 := p1) (p3 := p2) (p4 := w_t_lineSide_1) (q_p1 := q_t_sign) (p1 := t_sign) hC_25) (va_cwS 4 hts gX6_ring_X6_isDrawn rfl rfl rfl kd_X6_isDrawn ⟨Nat.le_of_ble_eq_true rfl, Nat.le_of_ble_eq_true rfl⟩) (pv_S hKW (hP.sub (ws' := [aI (G.2 1) q_t_sign 36 t_sign]) [1] rfl)) rfl rfl hl.1 rfl (lv_room (Nat.le_of_ble_eq_true rfl)) dX6_ring_25 ⟨Nat.zero_le _, Nat.zero_le _⟩)) (fun r9 hr9 => ?_)
  subst r9
  refine lv_if_ne (tgt := 44) hx hb dX6_ring_28 (by decide) (fun c_28 => ?_) (fun c_28 => ?_)
  · replace hE := (if_neg c_28).symm.trans hE
    refine lv_aload_n hx hb dX6_ring_44 rfl (lv_at hl 0 rfl) ?_
    refine lv_iconst (v := 0) hx hb dX6_ring_45 (by decide) ?_
    refine va_put (D := G.1) (ci := 6) (v := .int (0 : Int32)) (ty := .int) (C := RX6) (T := TX6) (N := 23) hx hb hts iX6 tyX6 tyX6_ok nmX6 hown hK hP hD hS 0 rfl rfl 19 (by decide) fl_145 (fun _ h9 => h9) rfl (by decide +kernel) rfl rfl (Nat.le_of_ble_eq_true rfl) dX6_ring_46 (fun H locs hP hD hS => ?_)
    have hP : va_P G.1 vwCl [oX6 q_t t_length q_t_text t_size q_t_sign t_otherSize q_t_other q_t_before t_undoMany t_readSize q_t_read q_t_side q_t_tall q_t_endRow q_t_endColumn q_t_endSide q_t_gone p1 p2 w_t_lineSide_1 (0 : Int32) q_t_ways q_t_codes q_t_many, aI (G.2 1) q_t_sign 36 t_sign, aI (G.2 3) q_t_gone 36 t_gone] H := hP
    have hD : va_D A [oX6 q_t t_length q_t_text t_size q_t_sign t_otherSize q_t_other q_t_before t_undoMany t_readSize q_t_read q_t_side q_t_tall q_t_endRow q_t_endColumn q_t_endSide q_t_gone p1 p2 w_t_lineSide_1 (0 : Int32) q_t_ways q_t_codes q_t_many, aI (G.2 1) q_t_sign 36 t_sign, aI (G.2 3) q_t_gone 36 t_gone] := hD
    refine lv_iconst (v := 1) hx hb dX6_ring_49 (by decide) ?_
    refine lv_istore_n (lv' := [(3, .int (1 : Int32)), (0, .ref q_t), (1, .int p1), (2, .int p2)]) hx hb dX6_ring_50 rfl hl (by decide) rfl (fun ls hl => ?_)
    refine itr_ind (fun (x2 : Int32 × Int32 × Int32 × Int32 × Int32 × (Nat → Int32)) => ∀ (H : Heap) (locs : List Loc) (ls : Array Slot), va_P G.1 vwCl [oX6 q_t t_length q_t_text t_size q_t_sign t_otherSize q_t_other q_t_before t_undoMany t_readSize q_t_read q_t_side q_t_tall q_t_endRow q_t_endColumn q_t_endSide q_t_gone x2.2.1 x2.2.2.1 x2.2.2.2.1 x2.2.2.2.2.1 q_t_ways q_t_codes q_t_many, aI (G.2 1) q_t_sign 36 t_sign, aI (G.2 3) q_t_gone 36 x2.2.2.2.2.2] H → va_D A [oX6 q_t t_length q_t_text t_size q_t_sign t_otherSize q_t_other q_t_before t_undoMany t_readSize q_t_read q_t_side q_t_tall q_t_endRow q_t_endColumn q_t_endSide q_t_gone x2.2.1 x2.2.2.1 x2.2.2.2.1 x2.2.2.2.2.1 q_t_ways q_t_codes q_t_many, aI (G.2 1) q_t_sign 36 t_sign, aI (G.2 3) q_t_gone 36 x2.2.2.2.2.2] → va_S A s.heap H locs → lv_has ls 4 [(0, .ref q_t), (1, .int p1), (2, .int p2), (3, .int x2.1)] → W p l e (headSpec wsX6_ring ({ frames := 3, cells := 0, slots := 0, locals := 72 })).room s m ([.ref q_t, .int p1, .int p2] : List Value).toArray below meth c H locs 0 0 Q (F0 m 51 ls [])) (fun x2 o_2 hE ih_2 hr_2 => ?_) _ _ hE _ _ ls hP hD hS (lv_sub hl [1, 2, 3, 0] rfl)
    obtain ⟨v3_2, w_t_lineRow_2, w_t_lineColumn_2, w_t_lineSide_2, w_t_lineMany_2, w_t_gone_2⟩ := x2
    try dsimp only at hE
    intro H locs ls hP hD hS hl
    try dsimp only at hP hD hl ⊢
    refine lv_iload_n hx hb dX6_ring_51 rfl (lv_at hl 3 rfl) ?_
    refine lv_if_eq (tgt := 93) hx hb dX6_ring_52 (by decide) (fun c_52 => ?_) (fun c_52 => ?_)
    · replace hE := (if_pos c_52).symm.trans hE
      refine lv_aload_n hx hb dX6_ring_93 rfl (lv_at hl 0 rfl) ?_
      refine va_get (D := G.1) (ci := 6) (v := .int w_t_lineMany_2) (C := RX6) (T := TX6) (N := 23) hx hb hts iX6 hown hK hP 0 rfl rfl 19 (by decide) fl_145 (fun _ h9 => h9) rfl dX6_ring_94 ?_
      have e_2 := Option.some.inj hE
      have e_1 := hr_2 _ e_2.symm
      have e_0 := hr_1 _ e_1.symm
      subst e_0
      rw [hQ]
      exact W.iret (v := w_t_lineMany_2) hx hb hr (fun t ht _ => ⟨⟨_, (), rfl, rfl, by rw [ht]; exact hP, hD⟩, hS.F ht⟩) hS.2.2 dX6_ring_97
    · replace hE := (if_neg c_52).symm.trans hE
      refine lv_aload_n hx hb dX6_ring_55 rfl (lv_at hl 0 rfl) ?_
      refine lv_aload_n hx hb dX6_ring_56 rfl (lv_at hl 0 rfl) ?_
      refine va_get (D := G.1) (ci := 6) (v := .ref q_t_sign) (C := RX6) (T := TX6) (N := 23) hx hb hts iX6 hown hK hP 0 rfl rfl 3 (by decide) fl_13 (fun _ h9 => h9) rfl dX6_ring_57 ?_
      refine lv_aload_n hx hb dX6_ring_60 rfl (lv_at hl 0 rfl) ?_
      refine va_get (D := G.1) (ci := 6) (v := .int t_size) (C := RX6) (T := TX6) (N := 23) hx hb hts iX6 hown hK hP 0 rfl rfl 2 (by decide) fl_54 (fun _ h9 => h9) rfl dX6_ring_61 ?_
      obtain ⟨y64, hC_64, hE⟩ := Option.bind_eq_some_iff.mp hE
      obtain ⟨r_64, m_64_0, m_64_1, m_64_2, m_64_3, m_64_4⟩ := y64
      try dsimp only at hE
      have hPc := hP.sub (ws' := [oX6 q_t t_length q_t_text t_size q_t_sign t_otherSize q_t_other q_t_before t_undoMany t_readSize q_t_read q_t_side q_t_tall q_t_endRow q_t_endColumn q_t_endSide q_t_gone w_t_lineRow_2 w_t_lineColumn_2 w_t_lineSide_2 w_t_lineMany_2 q_t_ways q_t_codes q_t_many, aI (G.2 3) q_t_gone 36 w_t_gone_2, aI (G.2 1) q_t_sign 36 t_sign]) [0, 2, 1] rfl
      have hDc := hD.sub (ws' := [oX6 q_t t_length q_t_text t_size q_t_sign t_otherSize q_t_other q_t_before t_undoMany t_readSize q_t_read q_t_side q_t_tall q_t_endRow q_t_endColumn q_t_endSide q_t_gone w_t_lineRow_2 w_t_lineColumn_2 w_t_lineSide_2 w_t_lineMany_2 q_t_ways q_t_codes q_t_many, aI (G.2 3) q_t_gone 36 w_t_gone_2, aI (G.2 1) q_t_sign 36 t_sign]) [0, 2, 1] (by decide) rfl
      have hFc := va_free (wc := [oX6 q_t t_length q_t_text t_size q_t_sign t_otherSize q_t_other q_t_before t_undoMany t_readSize q_t_read q_t_side q_t_tall q_t_endRow q_t_endColumn q_t_endSide q_t_gone w_t_lineRow_2 w_t_lineColumn_2 w_t_lineSide_2 w_t_lineMany_2 q_t_ways q_t_codes q_t_many, aI (G.2 3) q_t_gone 36 w_t_gone_2, aI (G.2 1) q_t_sign 36 t_sign]) hD hS hA [0, 2, 1] rfl
      refine va_calli (va_runV (As := [.ref q_t_sign, .int t_size]) (rest := []) ⟨hx, hb, hml, hown, hts⟩ (c_X6_goesOn (l := l) (G := G) _ (p2 := t_size) (q_t := q_t) (t_length := t_length) (q_t_text := q_t_text) (t_size := t_size) (q_t_sign := q_t_sign) (t_otherSize := t_otherSize) (q_t_other := q_t_other) (q_t_before := q_t_before) (t_undoMany := t_undoMany) (t_readSize := t_readSize) (q_t_read := q_t_read) (q_t_side := q_t_side) (q_t_tall := q_t_tall) (q_t_endRow := q_t_endRow) (q_t_endColumn := q_t_endColumn) (q_t_endSide := q_t_endSide) (q_t_gone := q_t_gone) (t_lineRow := w_t_lineRow_2) (t_lineColumn := w_t_lineColumn_2) (t_lineSide := w_t_lineSide_2) (t_lineMany := w_t_lineMany_2) (q_t_ways := q_t_ways) (q_t_codes := q_t_codes) (q_t_many := q_t_many) (t_gone := w_t_gone_2) (q_p1 := q_t_sign) (p1 := t_sign) hC_64) (cwV 2 hts gX6_ring_X6_goesOn rfl rfl rfl kd_X6_goesOn ⟨Nat.le_of_ble_eq_true rfl, Nat.le_of_ble_eq_true rfl⟩) (iv_V hKW hPc hDc (ci := 6) (q0 := 0) rfl rfl) rfl rfl hl.1 rfl (lv_room (Nat.le_of_ble_eq_true rfl)) dX6_ring_64 ⟨Nat.zero_le _, Nat.zero_le _⟩) hS (fun q _ h => hFc q h) hFc (fun r9 u9 t9 H1 locs ht9 hvm9 hw9 hB9 hz9 hk9 hS => ?_)
      subst r9
      obtain ⟨hP1, hD1⟩ := hB9
      rw [ht9] at hP1
      obtain ⟨hP, hD⟩ := va_join (wr := []) (w1 := [oX6 q_t t_length q_t_text t_size q_t_sign t_otherSize q_t_other q_t_before t_undoMany t_readSize q_t_read q_t_side q_t_tall q_t_endRow q_t_endColumn q_t_endSide q_t_gone m_64_0 m_64_1 m_64_2 m_64_3 q_t_ways q_t_codes q_t_many, aI (G.2 3) q_t_gone 36 m_64_4, aI (G.2 1) q_t_sign 36 t_sign]) hP hD [0, 2, 1] [] rfl rfl (by decide) (by decide) hk9 hFc hP1 hD1
      have hP := hP.sub (ws' := [oX6 q_t t_length q_t_text t_size q_t_sign t_otherSize q_t_other q_t_before t_undoMany t_readSize q_t_read q_t_side q_t_tall q_t_endRow q_t_endColumn q_t_endSide q_t_gone m_64_0 m_64_1 m_64_2 m_64_3 q_t_ways q_t_codes q_t_many, aI (G.2 1) q_t_sign 36 t_sign, aI (G.2 3) q_t_gone 36 m_64_4]) [0, 2, 1] rfl
      have hD := hD.sub (ws' := [oX6 q_t t_length q_t_text t_size q_t_sign t_otherSize q_t_other q_t_before t_undoMany t_readSize q_t_read q_t_side q_t_tall q_t_endRow q_t_endColumn q_t_endSide q_t_gone m_64_0 m_64_1 m_64_2 m_64_3 q_t_ways q_t_codes q_t_many, aI (G.2 1) q_t_sign 36 t_sign, aI (G.2 3) q_t_gone 36 m_64_4]) [0, 2, 1] (by decide) rfl
      clear hPc hDc hFc hP1 hD1 hk9 hz9 hvm9
      refine lv_pop hx hb dX6_ring_67 rfl ?_
      refine lv_aload_n hx hb dX6_ring_68 rfl (lv_at hl 0 rfl) ?_
      refine va_get (D := G.1) (ci := 6) (v := .int m_64_0) (C := RX6) (T := TX6) (N := 23) hx hb hts iX6 hown hK hP 0 rfl rfl 16 (by decide) fl_139 (fun _ h9 => h9) rfl dX6_ring_69 ?_
      refine lv_iload_n hx hb dX6_ring_72 rfl (lv_at hl 1 rfl) ?_
      refine lv_icmp_ne (tgt := 84) hx hb dX6_ring_73 (by decide) (fun c_73 => ?_) (fun c_73 => ?_)
      · replace hE := (if_neg c_73).symm.trans hE
        refine lv_iconst (v := 1) hx hb dX6_ring_84 (by decide) ?_
        refine lv_goto (tgt := 89) hx hb dX6_ring_85 (by decide) ?_
        refine lv_istore_n (lv' := [(3, .int (1 : Int32)), (0, .ref q_t), (1, .int p1), (2, .int p2)]) hx hb dX6_ring_89 rfl hl (by decide) rfl (fun ls hl => ?_)
        refine lv_goto (tgt := 51) hx hb dX6_ring_90 (by decide) ?_
        have e_2 := Option.some.inj hE
        exact ih_2 _ e_2.symm _ _ ls hP hD hS (lv_sub hl [1, 2, 3, 0] rfl)
      · replace hE := (if_pos c_73).symm.trans hE
        refine lv_aload_n hx hb dX6_ring_76 rfl (lv_at hl 0 rfl) ?_
        refine va_get (D := G.1) (ci := 6) (v := .int m_64_1) (C := RX6) (T := TX6) (N := 23) hx hb hts iX6 hown hK hP 0 rfl rfl 17 (by decide) fl_142 (fun _ h9 => h9) rfl dX6_ring_77 ?_
        refine lv_iload_n hx hb dX6_ring_80 rfl (lv_at hl 2 rfl) ?_
        refine lv_icmp_eq (tgt := 88) hx hb dX6_ring_81 (by decide) (fun c_81 => ?_) (fun c_81 => ?_)
        · replace hE := (if_pos c_81).symm.trans hE
          refine lv_iconst (v := 0) hx hb dX6_ring_88 (by decide) ?_
          refine lv_istore_n (lv' := [(3, .int (0 : Int32)), (0, .ref q_t), (1, .int p1), (2, .int p2)]) hx hb dX6_ring_89 rfl hl (by decide) rfl (fun ls hl => ?_)
          refine lv_goto (tgt := 51) hx hb dX6_ring_90 (by decide) ?_
          have e_2 := Option.some.inj hE
          exact ih_2 _ e_2.symm _ _ ls hP hD hS (lv_sub hl [1, 2, 3, 0] rfl)
        · replace hE := (if_neg c_81).symm.trans hE
          refine lv_iconst (v := 1) hx hb dX6_ring_84 (by decide) ?_
          refine lv_goto (tgt := 89) hx hb dX6_ring_85 (by decide) ?_
          refine lv_istore_n (lv' := [(3, .int (1 : Int32)), (0, .ref q_t), (1, .int p1), (2, .int p2)]) hx hb dX6_ring_89 rfl hl (by decide) rfl (fun ls hl => ?_)
          refine lv_goto (tgt := 51) hx hb dX6_ring_90 (by decide) ?_
          have e_2 := Option.some.inj hE
          exact ih_2 _ e_2.symm _ _ ls hP hD hS (lv_sub hl [1, 2, 3, 0] rfl)
  · replace hE := (if_pos c_28).symm.trans hE
    refine lv_aload_n hx hb dX6_ring_31 rfl (lv_at hl 0 rfl) ?_
    refine lv_dup hx hb dX6_ring_32 rfl ?_
    refine va_get (D := G.1) (ci := 6) (v := .int w_t_lineSide_1) (C := RX6) (T := TX6) (N := 23) hx hb hts iX6 hown hK hP 0 rfl rfl 18 (by decide) fl_136 (fun _ h9 => h9) rfl dX6_ring_33 ?_
    refine lv_iconst (v := 1) hx hb dX6_ring_36 (by decide) ?_
    refine lv_iadd hx hb dX6_ring_37 ?_
    refine va_put (D := G.1) (ci := 6) (v := .int (w_t_lineSide_1 + (1 : Int32))) (ty := .int) (C := RX6) (T := TX6) (N := 23) hx hb hts iX6 tyX6 tyX6_ok nmX6 hown hK hP hD hS 0 rfl rfl 18 (by decide) fl_136 (fun _ h9 => h9) rfl (by decide +kernel) rfl rfl (Nat.le_of_ble_eq_true rfl) dX6_ring_38 (fun H locs hP hD hS => ?_)
    have hP : va_P G.1 vwCl [oX6 q_t t_length q_t_text t_size q_t_sign t_otherSize q_t_other q_t_before t_undoMany t_readSize q_t_read q_t_side q_t_tall q_t_endRow q_t_endColumn q_t_endSide q_t_gone p1 p2 (w_t_lineSide_1 + (1 : Int32)) t_lineMany q_t_ways q_t_codes q_t_many, aI (G.2 1) q_t_sign 36 t_sign, aI (G.2 3) q_t_gone 36 t_gone] H := hP
    have hD : va_D A [oX6 q_t t_length q_t_text t_size q_t_sign t_otherSize q_t_other q_t_before t_undoMany t_readSize q_t_read q_t_side q_t_tall q_t_endRow q_t_endColumn q_t_endSide q_t_gone p1 p2 (w_t_lineSide_1 + (1 : Int32)) t_lineMany q_t_ways q_t_codes q_t_many, aI (G.2 1) q_t_sign 36 t_sign, aI (G.2 3) q_t_gone 36 t_gone] := hD
    refine lv_goto (tgt := 15) hx hb dX6_ring_41 (by decide) ?_
    have e_1 := Option.some.inj hE
    exact ih_1 _ e_1.symm _ _ ls hP hD hS (lv_sub hl [0, 1, 2] rfl)
def S_X6_rings (p1 : Int32) (t_size : Int32) (t_lineRow : Int32) (t_lineColumn : Int32) (t_lineSide : Int32) (t_lineMany : Int32) (t_sign : Nat → Int32) (t_endRow : Nat → Int32) (t_endColumn : Nat → Int32) (t_endSide : Nat → Int32) (t_gone : Nat → Int32) : Option (Int32 × Int32 × Int32 × Int32 × Int32 × (Nat → Int32) × (Nat → Int32) × (Nat → Int32) × (Nat → Int32)) := (S_X6_findEnds t_size t_endRow t_endColumn t_endSide t_sign).bind (fun (y9 : (Nat → Int32) × (Nat → Int32) × (Nat → Int32)) => itr (fun (x1 : Int32 × (Nat → Int32)) => if (36 : Int32) ≤ x1.1 then itr (fun (x2 : Int32 × Int32 × Int32 × Int32 × Int32 × (Nat → Int32)) => if ((2 : Int32) * t_size) ≤ x2.1 then itr (fun (x3 : Int32 × Int32 × Int32 × Int32 × Int32 × Int32 × Int32 × (Nat → Int32)) => if t_size < x3.2.2.1 then if p1 = 0 then some (.inr (.inr (.inr (x3.1, x3.2.2.2.1, x3.2.2.2.2.1, x3.2.2.2.2.2.1, x3.2.2.2.2.2.2.1, y9.1, y9.2.1, y9.2.2, x3.2.2.2.2.2.2.2)))) else some (.inr (.inr (.inr (x3.2.1, x3.2.2.2.1, x3.2.2.2.2.1, x3.2.2.2.2.2.1, x3.2.2.2.2.2.2.1, y9.1, y9.2.1, y9.2.2, x3.2.2.2.2.2.2.2)))) else itr (fun (x4 : Int32 × Int32 × Int32 × Int32 × Int32 × Int32 × Int32 × (Nat → Int32)) => if t_size < x4.2.2.1 then some (.inr (.inl (x4.1, x4.2.1, x3.2.2.1 + (1 : Int32), x4.2.2.2.1, x4.2.2.2.2.1, x4.2.2.2.2.2.1, x4.2.2.2.2.2.2.1, x4.2.2.2.2.2.2.2))) else ck (inb ((((6 : Int32) * (x3.2.2.1 - (1 : Int32))) + x4.2.2.1) - (1 : Int32)) 36) (if (x4.2.2.2.2.2.2.2 ((((6 : Int32) * (x3.2.2.1 - (1 : Int32))) + x4.2.2.1) - (1 : Int32)).toNatClampNeg) = 0 then (S_X6_ring x3.2.2.1 x4.2.2.1 t_size t_sign x4.2.2.2.2.2.2.2).bind (fun (y119 : Int32 × Int32 × Int32 × Int32 × Int32 × (Nat → Int32)) => some (.inl (x4.1 + y119.1, x4.2.1 + (1 : Int32), x4.2.2.1 + (1 : Int32), y119.2.1, y119.2.2.1, y119.2.2.2.1, y119.2.2.2.2.1, y119.2.2.2.2.2))) else some (.inl (x4.1, x4.2.1, x4.2.2.1 + (1 : Int32), x4.2.2.2.1, x4.2.2.2.2.1, x4.2.2.2.2.2.1, x4.2.2.2.2.2.2.1, x4.2.2.2.2.2.2.2)))) 10000 (x3.1, x3.2.1, (1 : Int32), x3.2.2.2.1, x3.2.2.2.2.1, x3.2.2.2.2.2.1, x3.2.2.2.2.2.2.1, x3.2.2.2.2.2.2.2)) 10000 ((0 : Int32), (0 : Int32), (1 : Int32), x2.2.1, x2.2.2.1, x2.2.2.2.1, x2.2.2.2.2.1, x2.2.2.2.2.2) else (S_X6_goes t_size x2.1 y9.1 y9.2.1 y9.2.2 x2.2.2.2.2.2 t_sign).bind (fun (y55 : Int32 × Int32 × Int32 × Int32 × Int32 × (Nat → Int32)) => some (.inl (x2.1 + (1 : Int32), y55.2.1, y55.2.2.1, y55.2.2.2.1, y55.2.2.2.2.1, y55.2.2.2.2.2)))) 10000 ((0 : Int32), t_lineRow, t_lineColumn, t_lineSide, t_lineMany, x1.2) else ck (inb x1.1 36) (some (.inl (x1.1 + (1 : Int32), upd x1.2 x1.1.toNatClampNeg (vp_nar .boolean (0 : Int32)))))) 10000 ((0 : Int32), t_gone))
theorem kd_X6_rings : yX6_rings.cls = RX6 ∧ yX6_rings.cls ≠ "java/lang/invoke/MethodHandle" ∧ yX6_rings.cls ≠ "java/lang/invoke/VarHandle" ∧ (parseMethodDescriptor yX6_rings.desc).map (fun d => d.parameters.length) = some 1 := by decide +kernel
set_option maxHeartbeats 4000000 in
set_option maxRecDepth 100000 in
theorem c_X6_rings {l : Launch} {G : kG} (sz : Nat) {p1 : Int32} {q_t : Nat} {t_length : Int32} {q_t_text : Nat} {t_size : Int32} {q_t_sign : Nat} {t_otherSize : Int32} {q_t_other : Nat} {q_t_before : Nat} {t_undoMany : Int32} {t_readSize : Int32} {q_t_read : Nat} {q_t_side : Nat} {q_t_tall : Nat} {q_t_endRow : Nat} {q_t_endColumn : Nat} {q_t_endSide : Nat} {q_t_gone : Nat} {t_lineRow : Int32} {t_lineColumn : Int32} {t_lineSide : Int32} {t_lineMany : Int32} {q_t_ways : Nat} {q_t_codes : Nat} {q_t_many : Nat} {t_sign : Nat → Int32} {t_endRow : Nat → Int32} {t_endColumn : Nat → Int32} {t_endSide : Nat → Int32} {t_gone : Nat → Int32} {res : Int32 × Int32 × Int32 × Int32 × Int32 × (Nat → Int32) × (Nat → Int32) × (Nat → Int32) × (Nat → Int32)} (hE : S_X6_rings p1 t_size t_lineRow t_lineColumn t_lineSide t_lineMany t_sign t_endRow t_endColumn t_endSide t_gone = some res) : Met l yX6_rings wsX6_rings ({ frames := 4, cells := 0, slots := 0, locals := 97 }) (va_Pc [.ref q_t, .int p1] (fun U => U.heap.size = sz ∧ va_P G.1 vwCl [oX6 q_t t_length q_t_text t_size q_t_sign t_otherSize q_t_other q_t_before t_undoMany t_readSize q_t_read q_t_side q_t_tall q_t_endRow q_t_endColumn q_t_endSide q_t_gone t_lineRow t_lineColumn t_lineSide t_lineMany q_t_ways q_t_codes q_t_many, aI (G.2 1) q_t_sign 36 t_sign, aI (G.2 1) q_t_endRow 12 t_endRow, aI (G.2 1) q_t_endColumn 12 t_endColumn, aI (G.2 1) q_t_endSide 12 t_endSide, aI (G.2 3) q_t_gone 36 t_gone] U.heap ∧ kw G U ∧ va_D (fun _ => True) [oX6 q_t t_length q_t_text t_size q_t_sign t_otherSize q_t_other q_t_before t_undoMany t_readSize q_t_read q_t_side q_t_tall q_t_endRow q_t_endColumn q_t_endSide q_t_gone t_lineRow t_lineColumn t_lineSide t_lineMany q_t_ways q_t_codes q_t_many, aI (G.2 1) q_t_sign 36 t_sign, aI (G.2 1) q_t_endRow 12 t_endRow, aI (G.2 1) q_t_endColumn 12 t_endColumn, aI (G.2 1) q_t_endSide 12 t_endSide, aI (G.2 3) q_t_gone 36 t_gone])) (va_Qi (fun r (_ : Unit) => r = res.1) (fun _ t => va_P G.1 vwCl [oX6 q_t t_length q_t_text t_size q_t_sign t_otherSize q_t_other q_t_before t_undoMany t_readSize q_t_read q_t_side q_t_tall q_t_endRow q_t_endColumn q_t_endSide q_t_gone res.2.1 res.2.2.1 res.2.2.2.1 res.2.2.2.2.1 q_t_ways q_t_codes q_t_many, aI (G.2 1) q_t_sign 36 t_sign, aI (G.2 1) q_t_endRow 12 res.2.2.2.2.2.1, aI (G.2 1) q_t_endColumn 12 res.2.2.2.2.2.2.1, aI (G.2 1) q_t_endSide 12 res.2.2.2.2.2.2.2.1, aI (G.2 3) q_t_gone 36 res.2.2.2.2.2.2.2.2] t.heap ∧ va_D (va_A [oX6 q_t t_length q_t_text t_size q_t_sign t_otherSize q_t_other q_t_before t_undoMany t_readSize q_t_read q_t_side q_t_tall q_t_endRow q_t_endColumn q_t_endSide q_t_gone t_lineRow t_lineColumn t_lineSide t_lineMany q_t_ways q_t_codes q_t_many, aI (G.2 1) q_t_sign 36 t_sign, aI (G.2 1) q_t_endRow 12 t_endRow, aI (G.2 1) q_t_endColumn 12 t_endColumn, aI (G.2 1) q_t_endSide 12 t_endSide, aI (G.2 3) q_t_gone 36 t_gone] sz) [oX6 q_t t_length q_t_text t_size q_t_sign t_otherSize q_t_other q_t_before t_undoMany t_readSize q_t_read q_t_side q_t_tall q_t_endRow q_t_endColumn q_t_endSide q_t_gone res.2.1 res.2.2.1 res.2.2.2.1 res.2.2.2.2.1 q_t_ways q_t_codes q_t_many, aI (G.2 1) q_t_sign 36 t_sign, aI (G.2 1) q_t_endRow 12 res.2.2.2.2.2.1, aI (G.2 1) q_t_endColumn 12 res.2.2.2.2.2.2.1, aI (G.2 1) q_t_endSide 12 res.2.2.2.2.2.2.2.1, aI (G.2 3) q_t_gone 36 res.2.2.2.2.2.2.2.2]) (va_A [oX6 q_t t_length q_t_text t_size q_t_sign t_otherSize q_t_other q_t_before t_undoMany t_readSize q_t_read q_t_side q_t_tall q_t_endRow q_t_endColumn q_t_endSide q_t_gone t_lineRow t_lineColumn t_lineSide t_lineMany q_t_ways q_t_codes q_t_many, aI (G.2 1) q_t_sign 36 t_sign, aI (G.2 1) q_t_endRow 12 t_endRow, aI (G.2 1) q_t_endColumn 12 t_endColumn, aI (G.2 1) q_t_endSide 12 t_endSide, aI (G.2 3) q_t_gone 36 t_gone] sz)) 0 0 (va_A [oX6 q_t t_length q_t_text t_size q_t_sign t_otherSize q_t_other q_t_before t_undoMany t_readSize q_t_read q_t_side q_t_tall q_t_endRow q_t_endColumn q_t_endSide q_t_gone t_lineRow t_lineColumn t_lineSide t_lineMany q_t_ways q_t_codes q_t_many, aI (G.2 1) q_t_sign 36 t_sign, aI (G.2 1) q_t_endRow 12 t_endRow, aI (G.2 1) q_t_endColumn 12 t_endColumn, aI (G.2 1) q_t_endSide 12 t_endSide, aI (G.2 3) q_t_gone 36 t_gone] sz) := by
  refine Met.ofQ (cc := cX6_rings) (maxL := 6) (ret := (some .int)) (by decide) rfl ?_
  intro p e s m args below meth c s₁ Q hQ B hml hv
  obtain ⟨rfl, hsz, hP, hKW, hD0⟩ := hv
  have hK := hKW.1
  have hx := B.exec
  have hb := B.bytes
  have hr := B.returns
  have hts := atoms_spec (ws := wsX6_rings) B.pre
  have hown : s.vm.findClass RX6 = some m.cls := findClass_of_methodNamed B.named
  have hlocks := B.notSynchronized
  have iX6 : ∀ w ∈ u_ws RX6 TX6 23, w ∈ wsX6_rings := by decide +kernel
  have fl_13 := hts (.fieldLink RX6 13 "AlternateSignsModel" "sign" "[I") (by decide +kernel)
  have fl_54 := hts (.fieldLink RX6 54 "AlternateSignsModel" "size" "I") (by decide +kernel)
  have fl_40 := hts (.fieldLink RX6 40 "AlternateSignsModel" "gone" "[Z") (by decide +kernel)
  subst hsz
  have hD := hD0.self (sz := s.heap.size)
  generalize hAe : va_A [oX6 q_t t_length q_t_text t_size q_t_sign t_otherSize q_t_other q_t_before t_undoMany t_readSize q_t_read q_t_side q_t_tall q_t_endRow q_t_endColumn q_t_endSide q_t_gone t_lineRow t_lineColumn t_lineSide t_lineMany q_t_ways q_t_codes q_t_many, aI (G.2 1) q_t_sign 36 t_sign, aI (G.2 1) q_t_endRow 12 t_endRow, aI (G.2 1) q_t_endColumn 12 t_endColumn, aI (G.2 1) q_t_endSide 12 t_endSide, aI (G.2 3) q_t_gone 36 t_gone] s.heap.size = A at hD hQ
  have hA : ∀ q : Nat, s.heap.size ≤ q → A q := fun q h => by rw [← hAe]; exact Or.inr h
  have hS : va_S A s.heap s.heap [] := va_S.rf
  have hl := lv_entry ([.ref q_t, .int p1]) (n := 6) (Nat.le_of_ble_eq_true rfl)
  rw [lg_entry_eq]
  generalize (lg_sl ([.ref q_t, .int p1]) ++ List.replicate (6 - (lg_sl ([.ref q_t, .int p1])).length) Slot.unset).toArray = ls at hl ⊢
  have hl : lv_has ls 6 [(0, .ref q_t), (1, .int p1)] := hl
  unfold S_X6_rings at hE
  refine lv_aload_n hx hb dX6_rings_0 rfl (lv_at hl 0 rfl) ?_
  refine lv_aload_n hx hb dX6_rings_1 rfl (lv_at hl 0 rfl) ?_
  refine va_get (D := G.1) (ci := 6) (v := .ref q_t_sign) (C := RX6) (T := TX6) (N := 23) hx hb hts iX6 hown hK hP 0 rfl rfl 3 (by decide) fl_13 (fun _ h9 => h9) rfl dX6_rings_2 ?_
  refine lv_aload_n hx hb dX6_rings_5 rfl (lv_at hl 0 rfl) ?_
  refine va_get (D := G.1) (ci := 6) (v := .int t_size) (C := RX6) (T := TX6) (N := 23) hx hb hts iX6 hown hK hP 0 rfl rfl 2 (by decide) fl_54 (fun _ h9 => h9) rfl dX6_rings_6 ?_
  obtain ⟨y9, hC_9, hE⟩ := Option.bind_eq_some_iff.mp hE
  obtain ⟨m_9_0, m_9_1, m_9_2⟩ := y9
  try dsimp only at hE
  have hPc := hP.sub (ws' := [oX6 q_t t_length q_t_text t_size q_t_sign t_otherSize q_t_other q_t_before t_undoMany t_readSize q_t_read q_t_side q_t_tall q_t_endRow q_t_endColumn q_t_endSide q_t_gone t_lineRow t_lineColumn t_lineSide t_lineMany q_t_ways q_t_codes q_t_many, aI (G.2 1) q_t_endRow 12 t_endRow, aI (G.2 1) q_t_endColumn 12 t_endColumn, aI (G.2 1) q_t_endSide 12 t_endSide, aI (G.2 1) q_t_sign 36 t_sign]) [0, 2, 3, 4, 1] rfl
  have hDc := hD.sub (ws' := [oX6 q_t t_length q_t_text t_size q_t_sign t_otherSize q_t_other q_t_before t_undoMany t_readSize q_t_read q_t_side q_t_tall q_t_endRow q_t_endColumn q_t_endSide q_t_gone t_lineRow t_lineColumn t_lineSide t_lineMany q_t_ways q_t_codes q_t_many, aI (G.2 1) q_t_endRow 12 t_endRow, aI (G.2 1) q_t_endColumn 12 t_endColumn, aI (G.2 1) q_t_endSide 12 t_endSide, aI (G.2 1) q_t_sign 36 t_sign]) [0, 2, 3, 4, 1] (by decide) rfl
  have hFc := va_free (wc := [oX6 q_t t_length q_t_text t_size q_t_sign t_otherSize q_t_other q_t_before t_undoMany t_readSize q_t_read q_t_side q_t_tall q_t_endRow q_t_endColumn q_t_endSide q_t_gone t_lineRow t_lineColumn t_lineSide t_lineMany q_t_ways q_t_codes q_t_many, aI (G.2 1) q_t_endRow 12 t_endRow, aI (G.2 1) q_t_endColumn 12 t_endColumn, aI (G.2 1) q_t_endSide 12 t_endSide, aI (G.2 1) q_t_sign 36 t_sign]) hD hS hA [0, 2, 3, 4, 1] rfl
  refine va_callv (va_runV (As := [.ref q_t_sign, .int t_size]) (rest := []) ⟨hx, hb, hml, hown, hts⟩ (c_X6_findEnds (l := l) (G := G) _ (p2 := t_size) (q_t := q_t) (t_length := t_length) (q_t_text := q_t_text) (t_size := t_size) (q_t_sign := q_t_sign) (t_otherSize := t_otherSize) (q_t_other := q_t_other) (q_t_before := q_t_before) (t_undoMany := t_undoMany) (t_readSize := t_readSize) (q_t_read := q_t_read) (q_t_side := q_t_side) (q_t_tall := q_t_tall) (q_t_endRow := q_t_endRow) (q_t_endColumn := q_t_endColumn) (q_t_endSide := q_t_endSide) (q_t_gone := q_t_gone) (t_lineRow := t_lineRow) (t_lineColumn := t_lineColumn) (t_lineSide := t_lineSide) (t_lineMany := t_lineMany) (q_t_ways := q_t_ways) (q_t_codes := q_t_codes) (q_t_many := q_t_many) (t_endRow := t_endRow) (t_endColumn := t_endColumn) (t_endSide := t_endSide) (q_p1 := q_t_sign) (p1 := t_sign) hC_9) (cwV 2 hts gX6_rings_X6_findEnds rfl rfl rfl kd_X6_findEnds ⟨Nat.le_of_ble_eq_true rfl, Nat.le_of_ble_eq_true rfl⟩) (iv_V hKW hPc hDc (ci := 6) (q0 := 0) rfl rfl) rfl rfl hl.1 rfl (lv_room (Nat.le_of_ble_eq_true rfl)) dX6_rings_9 ⟨Nat.zero_le _, Nat.zero_le _⟩) hS (fun q _ h => hFc q h) hFc (fun u9 t9 H1 locs ht9 hvm9 hw9 hB9 hz9 hk9 hS => ?_)
  obtain ⟨hP1, hD1⟩ := hB9
  rw [ht9] at hP1
  obtain ⟨hP, hD⟩ := va_join (wr := [aI (G.2 3) q_t_gone 36 t_gone]) (w1 := [oX6 q_t t_length q_t_text t_size q_t_sign t_otherSize q_t_other q_t_before t_undoMany t_readSize q_t_read q_t_side q_t_tall q_t_endRow q_t_endColumn q_t_endSide q_t_gone t_lineRow t_lineColumn t_lineSide t_lineMany q_t_ways q_t_codes q_t_many, aI (G.2 1) q_t_endRow 12 m_9_0, aI (G.2 1) q_t_endColumn 12 m_9_1, aI (G.2 1) q_t_endSide 12 m_9_2, aI (G.2 1) q_t_sign 36 t_sign]) hP hD [0, 2, 3, 4, 1] [5] rfl rfl (by decide) (by decide) hk9 hFc hP1 hD1
  have hP := hP.sub (ws' := [oX6 q_t t_length q_t_text t_size q_t_sign t_otherSize q_t_other q_t_before t_undoMany t_readSize q_t_read q_t_side q_t_tall q_t_endRow q_t_endColumn q_t_endSide q_t_gone t_lineRow t_lineColumn t_lineSide t_lineMany q_t_ways q_t_codes q_t_many, aI (G.2 1) q_t_sign 36 t_sign, aI (G.2 1) q_t_endRow 12 m_9_0, aI (G.2 1) q_t_endColumn 12 m_9_1, aI (G.2 1) q_t_endSide 12 m_9_2, aI (G.2 3) q_t_gone 36 t_gone]) [1, 5, 2, 3, 4, 0] rfl
  have hD := hD.sub (ws' := [oX6 q_t t_length q_t_text t_size q_t_sign t_otherSize q_t_other q_t_before t_undoMany t_readSize q_t_read q_t_side q_t_tall q_t_endRow q_t_endColumn q_t_endSide q_t_gone t_lineRow t_lineColumn t_lineSide t_lineMany q_t_ways q_t_codes q_t_many, aI (G.2 1) q_t_sign 36 t_sign, aI (G.2 1) q_t_endRow 12 m_9_0, aI (G.2 1) q_t_endColumn 12 m_9_1, aI (G.2 1) q_t_endSide 12 m_9_2, aI (G.2 3) q_t_gone 36 t_gone]) [1, 5, 2, 3, 4, 0] (by decide) rfl
  clear hPc hDc hFc hP1 hD1 hk9 hz9 hvm9
  refine lv_iconst (v := 0) hx hb dX6_rings_12 (by decide) ?_
  refine lv_istore_n (lv' := [(2, .int (0 : Int32)), (0, .ref q_t), (1, .int p1)]) hx hb dX6_rings_13 rfl hl (by decide) rfl (fun ls hl => ?_)
  refine itr_ind (fun (x1 : Int32 × (Nat → Int32)) => ∀ (H : Heap) (locs : List Loc) (ls : Array Slot), va_P G.1 vwCl [oX6 q_t t_length q_t_text t_size q_t_sign t_otherSize q_t_other q_t_before t_undoMany t_readSize q_t_read q_t_side q_t_tall q_t_endRow q_t_endColumn q_t_endSide q_t_gone t_lineRow t_lineColumn t_lineSide t_lineMany q_t_ways q_t_codes q_t_many, aI (G.2 1) q_t_sign 36 t_sign, aI (G.2 1) q_t_endRow 12 m_9_0, aI (G.2 1) q_t_endColumn 12 m_9_1, aI (G.2 1) q_t_endSide 12 m_9_2, aI (G.2 3) q_t_gone 36 x1.2] H → va_D A [oX6 q_t t_length q_t_text t_size q_t_sign t_otherSize q_t_other q_t_before t_undoMany t_readSize q_t_read q_t_side q_t_tall q_t_endRow q_t_endColumn q_t_endSide q_t_gone t_lineRow t_lineColumn t_lineSide t_lineMany q_t_ways q_t_codes q_t_many, aI (G.2 1) q_t_sign 36 t_sign, aI (G.2 1) q_t_endRow 12 m_9_0, aI (G.2 1) q_t_endColumn 12 m_9_1, aI (G.2 1) q_t_endSide 12 m_9_2, aI (G.2 3) q_t_gone 36 x1.2] → va_S A s.heap H locs → lv_has ls 6 [(0, .ref q_t), (1, .int p1), (2, .int x1.1)] → W p l e (headSpec wsX6_rings ({ frames := 4, cells := 0, slots := 0, locals := 97 })).room s m ([.ref q_t, .int p1] : List Value).toArray below meth c H locs 0 0 Q (F0 m 14 ls [])) (fun x1 o_1 hE ih_1 hr_1 => ?_) _ _ hE _ _ ls hP hD hS (lv_sub hl [1, 2, 0] rfl)
  obtain ⟨v2_1, w_t_gone_1⟩ := x1
  try dsimp only at hE
  intro H locs ls hP hD hS hl
  try dsimp only at hP hD hl ⊢
  refine lv_iload_n hx hb dX6_rings_14 rfl (lv_at hl 2 rfl) ?_
  refine lv_bipush (v := 36) hx hb dX6_rings_15 (by decide) ?_
  refine lv_icmp_ge (tgt := 33) hx hb dX6_rings_17 (by decide) (fun c_17 => ?_) (fun c_17 => ?_)
  · replace hE := (if_pos c_17).symm.trans hE
    refine lv_iconst (v := 0) hx hb dX6_rings_33 (by decide) ?_
    refine lv_istore_n (lv' := [(2, .int (0 : Int32)), (0, .ref q_t), (1, .int p1)]) hx hb dX6_rings_34 rfl hl (by decide) rfl (fun ls hl => ?_)
    refine itr_ind (fun (x2 : Int32 × Int32 × Int32 × Int32 × Int32 × (Nat → Int32)) => ∀ (H : Heap) (locs : List Loc) (ls : Array Slot), va_P G.1 vwCl [oX6 q_t t_length q_t_text t_size q_t_sign t_otherSize q_t_other q_t_before t_undoMany t_readSize q_t_read q_t_side q_t_tall q_t_endRow q_t_endColumn q_t_endSide q_t_gone x2.2.1 x2.2.2.1 x2.2.2.2.1 x2.2.2.2.2.1 q_t_ways q_t_codes q_t_many, aI (G.2 1) q_t_sign 36 t_sign, aI (G.2 1) q_t_endRow 12 m_9_0, aI (G.2 1) q_t_endColumn 12 m_9_1, aI (G.2 1) q_t_endSide 12 m_9_2, aI (G.2 3) q_t_gone 36 x2.2.2.2.2.2] H → va_D A [oX6 q_t t_length q_t_text t_size q_t_sign t_otherSize q_t_other q_t_before t_undoMany t_readSize q_t_read q_t_side q_t_tall q_t_endRow q_t_endColumn q_t_endSide q_t_gone x2.2.1 x2.2.2.1 x2.2.2.2.1 x2.2.2.2.2.1 q_t_ways q_t_codes q_t_many, aI (G.2 1) q_t_sign 36 t_sign, aI (G.2 1) q_t_endRow 12 m_9_0, aI (G.2 1) q_t_endColumn 12 m_9_1, aI (G.2 1) q_t_endSide 12 m_9_2, aI (G.2 3) q_t_gone 36 x2.2.2.2.2.2] → va_S A s.heap H locs → lv_has ls 6 [(0, .ref q_t), (1, .int p1), (2, .int x2.1)] → W p l e (headSpec wsX6_rings ({ frames := 4, cells := 0, slots := 0, locals := 97 })).room s m ([.ref q_t, .int p1] : List Value).toArray below meth c H locs 0 0 Q (F0 m 35 ls [])) (fun x2 o_2 hE ih_2 hr_2 => ?_) _ _ hE _ _ ls hP hD hS (lv_sub hl [1, 2, 0] rfl)
    obtain ⟨v2_2, w_t_lineRow_2, w_t_lineColumn_2, w_t_lineSide_2, w_t_lineMany_2, w_t_gone_2⟩ := x2
    try dsimp only at hE
    intro H locs ls hP hD hS hl
    try dsimp only at hP hD hl ⊢
    refine lv_iload_n hx hb dX6_rings_35 rfl (lv_at hl 2 rfl) ?_
    refine lv_iconst (v := 2) hx hb dX6_rings_36 (by decide) ?_
    refine lv_aload_n hx hb dX6_rings_37 rfl (lv_at hl 0 rfl) ?_
    refine va_get (D := G.1) (ci := 6) (v := .int t_size) (C := RX6) (T := TX6) (N := 23) hx hb hts iX6 hown hK hP 0 rfl rfl 2 (by decide) fl_54 (fun _ h9 => h9) rfl dX6_rings_38 ?_
    refine lv_imul hx hb dX6_rings_41 ?_
    refine lv_icmp_ge (tgt := 65) hx hb dX6_rings_42 (by decide) (fun c_42 => ?_) (fun c_42 => ?_)
    · replace hE := (if_pos c_42).symm.trans hE
      refine lv_iconst (v := 0) hx hb dX6_rings_65 (by decide) ?_
      refine lv_istore_n (lv' := [(2, .int (0 : Int32)), (0, .ref q_t), (1, .int p1)]) hx hb dX6_rings_66 rfl hl (by decide) rfl (fun ls hl => ?_)
      refine lv_iconst (v := 0) hx hb dX6_rings_67 (by decide) ?_
      refine lv_istore_n (lv' := [(3, .int (0 : Int32)), (2, .int (0 : Int32)), (0, .ref q_t), (1, .int p1)]) hx hb dX6_rings_68 rfl hl (by decide) rfl (fun ls hl => ?_)
      refine lv_iconst (v := 1) hx hb dX6_rings_69 (by decide) ?_
      refine lv_istore (lv' := [(4, .int (1 : Int32)), (3, .int (0 : Int32)), (2, .int (0 : Int32)), (0, .ref q_t), (1, .int p1)]) hx hb dX6_rings_70 hl (by decide) rfl (fun ls hl => ?_)
      refine itr_ind (fun (x3 : Int32 × Int32 × Int32 × Int32 × Int32 × Int32 × Int32 × (Nat → Int32)) => ∀ (H : Heap) (locs : List Loc) (ls : Array Slot), va_P G.1 vwCl [oX6 q_t t_length q_t_text t_size q_t_sign t_otherSize q_t_other q_t_before t_undoMany t_readSize q_t_read q_t_side q_t_tall q_t_endRow q_t_endColumn q_t_endSide q_t_gone x3.2.2.2.1 x3.2.2.2.2.1 x3.2.2.2.2.2.1 x3.2.2.2.2.2.2.1 q_t_ways q_t_codes q_t_many, aI (G.2 1) q_t_sign 36 t_sign, aI (G.2 1) q_t_endRow 12 m_9_0, aI (G.2 1) q_t_endColumn 12 m_9_1, aI (G.2 1) q_t_endSide 12 m_9_2, aI (G.2 3) q_t_gone 36 x3.2.2.2.2.2.2.2] H → va_D A [oX6 q_t t_length q_t_text t_size q_t_sign t_otherSize q_t_other q_t_before t_undoMany t_readSize q_t_read q_t_side q_t_tall q_t_endRow q_t_endColumn q_t_endSide q_t_gone x3.2.2.2.1 x3.2.2.2.2.1 x3.2.2.2.2.2.1 x3.2.2.2.2.2.2.1 q_t_ways q_t_codes q_t_many, aI (G.2 1) q_t_sign 36 t_sign, aI (G.2 1) q_t_endRow 12 m_9_0, aI (G.2 1) q_t_endColumn 12 m_9_1, aI (G.2 1) q_t_endSide 12 m_9_2, aI (G.2 3) q_t_gone 36 x3.2.2.2.2.2.2.2] → va_S A s.heap H locs → lv_has ls 6 [(0, .ref q_t), (1, .int p1), (2, .int x3.1), (3, .int x3.2.1), (4, .int x3.2.2.1)] → W p l e (headSpec wsX6_rings ({ frames := 4, cells := 0, slots := 0, locals := 97 })).room s m ([.ref q_t, .int p1] : List Value).toArray below meth c H locs 0 0 Q (F0 m 72 ls [])) (fun x3 o_3 hE ih_3 hr_3 => ?_) _ _ hE _ _ ls hP hD hS (lv_sub hl [3, 4, 2, 1, 0] rfl)
      obtain ⟨v2_3, v3_3, v4_3, w_t_lineRow_3, w_t_lineColumn_3, w_t_lineSide_3, w_t_lineMany_3, w_t_gone_3⟩ := x3
      try dsimp only at hE
      intro H locs ls hP hD hS hl
      try dsimp only at hP hD hl ⊢
      refine lv_iload hx hb dX6_rings_72 (lv_at hl 4 rfl) ?_
      refine lv_aload_n hx hb dX6_rings_74 rfl (lv_at hl 0 rfl) ?_
      refine va_get (D := G.1) (ci := 6) (v := .int t_size) (C := RX6) (T := TX6) (N := 23) hx hb hts iX6 hown hK hP 0 rfl rfl 2 (by decide) fl_54 (fun _ h9 => h9) rfl dX6_rings_75 ?_
      refine lv_icmp_gt (tgt := 139) hx hb dX6_rings_78 (by decide) (fun c_78 => ?_) (fun c_78 => ?_)
      · replace hE := (if_pos c_78).symm.trans hE
        refine lv_iload_n hx hb dX6_rings_139 rfl (lv_at hl 1 rfl) ?_
        refine lv_if_ne (tgt := 147) hx hb dX6_rings_140 (by decide) (fun c_140 => ?_) (fun c_140 => ?_)
        · replace hE := (if_neg c_140).symm.trans hE
          refine lv_iload_n hx hb dX6_rings_147 rfl (lv_at hl 3 rfl) ?_
          have e_3 := Option.some.inj hE
          have e_2 := hr_3 _ e_3.symm
          have e_1 := hr_2 _ e_2.symm
          have e_0 := hr_1 _ e_1.symm
          subst e_0
          rw [hQ]
          exact W.iret (v := v3_3) hx hb hr (fun t ht _ => ⟨⟨_, (), rfl, rfl, by rw [ht]; exact hP, hD⟩, hS.F ht⟩) hS.2.2 dX6_rings_148
        · replace hE := (if_pos c_140).symm.trans hE
          refine lv_iload_n hx hb dX6_rings_143 rfl (lv_at hl 2 rfl) ?_
          refine lv_goto (tgt := 148) hx hb dX6_rings_144 (by decide) ?_
          have e_3 := Option.some.inj hE
          have e_2 := hr_3 _ e_3.symm
          have e_1 := hr_2 _ e_2.symm
          have e_0 := hr_1 _ e_1.symm
          subst e_0
          rw [hQ]
          exact W.iret (v := v2_3) hx hb hr (fun t ht _ => ⟨⟨_, (), rfl, rfl, by rw [ht]; exact hP, hD⟩, hS.F ht⟩) hS.2.2 dX6_rings_148
      · replace hE := (if_neg c_78).symm.trans hE
        refine lv_iconst (v := 1) hx hb dX6_rings_81 (by decide) ?_
        refine lv_istore (lv' := [(5, .int (1 : Int32)), (0, .ref q_t), (1, .int p1), (2, .int v2_3), (3, .int v3_3), (4, .int v4_3)]) hx hb dX6_rings_82 hl (by decide) rfl (fun ls hl => ?_)
        refine itr_ind (fun (x4 : Int32 × Int32 × Int32 × Int32 × Int32 × Int32 × Int32 × (Nat → Int32)) => ∀ (H : Heap) (locs : List Loc) (ls : Array Slot), va_P G.1 vwCl [oX6 q_t t_length q_t_text t_size q_t_sign t_otherSize q_t_other q_t_before t_undoMany t_readSize q_t_read q_t_side q_t_tall q_t_endRow q_t_endColumn q_t_endSide q_t_gone x4.2.2.2.1 x4.2.2.2.2.1 x4.2.2.2.2.2.1 x4.2.2.2.2.2.2.1 q_t_ways q_t_codes q_t_many, aI (G.2 1) q_t_sign 36 t_sign, aI (G.2 1) q_t_endRow 12 m_9_0, aI (G.2 1) q_t_endColumn 12 m_9_1, aI (G.2 1) q_t_endSide 12 m_9_2, aI (G.2 3) q_t_gone 36 x4.2.2.2.2.2.2.2] H → va_D A [oX6 q_t t_length q_t_text t_size q_t_sign t_otherSize q_t_other q_t_before t_undoMany t_readSize q_t_read q_t_side q_t_tall q_t_endRow q_t_endColumn q_t_endSide q_t_gone x4.2.2.2.1 x4.2.2.2.2.1 x4.2.2.2.2.2.1 x4.2.2.2.2.2.2.1 q_t_ways q_t_codes q_t_many, aI (G.2 1) q_t_sign 36 t_sign, aI (G.2 1) q_t_endRow 12 m_9_0, aI (G.2 1) q_t_endColumn 12 m_9_1, aI (G.2 1) q_t_endSide 12 m_9_2, aI (G.2 3) q_t_gone 36 x4.2.2.2.2.2.2.2] → va_S A s.heap H locs → lv_has ls 6 [(0, .ref q_t), (1, .int p1), (2, .int x4.1), (3, .int x4.2.1), (4, .int v4_3), (5, .int x4.2.2.1)] → W p l e (headSpec wsX6_rings ({ frames := 4, cells := 0, slots := 0, locals := 97 })).room s m ([.ref q_t, .int p1] : List Value).toArray below meth c H locs 0 0 Q (F0 m 84 ls [])) (fun x4 o_4 hE ih_4 hr_4 => ?_) _ _ hE _ _ ls hP hD hS (lv_sub hl [1, 2, 3, 4, 5, 0] rfl)
        obtain ⟨v2_4, v3_4, v5_4, w_t_lineRow_4, w_t_lineColumn_4, w_t_lineSide_4, w_t_lineMany_4, w_t_gone_4⟩ := x4
        try dsimp only at hE
        intro H locs ls hP hD hS hl
        try dsimp only at hP hD hl ⊢
        refine lv_iload hx hb dX6_rings_84 (lv_at hl 5 rfl) ?_
        refine lv_aload_n hx hb dX6_rings_86 rfl (lv_at hl 0 rfl) ?_
        refine va_get (D := G.1) (ci := 6) (v := .int t_size) (C := RX6) (T := TX6) (N := 23) hx hb hts iX6 hown hK hP 0 rfl rfl 2 (by decide) fl_54 (fun _ h9 => h9) rfl dX6_rings_87 ?_
        refine lv_icmp_gt (tgt := 133) hx hb dX6_rings_90 (by decide) (fun c_90 => ?_) (fun c_90 => ?_)
        · replace hE := (if_pos c_90).symm.trans hE
          refine lv_iinc (v := v4_3 + (1 : Int32)) (lv' := [(4, .int (v4_3 + (1 : Int32))), (0, .ref q_t), (1, .int p1), (2, .int v2_4), (3, .int v3_4), (5, .int v5_4)]) hx hb dX6_rings_133 hl (k := 4) rfl rfl (by decide) rfl (fun ls hl => ?_)
          refine lv_goto (tgt := 72) hx hb dX6_rings_136 (by decide) ?_
          have e_4 := Option.some.inj hE
          have e_3 := hr_4 _ e_4.symm
          exact ih_3 _ e_3.symm _ _ ls hP hD hS (lv_sub hl [1, 2, 3, 4, 0] rfl)
        · replace hE := (if_neg c_90).symm.trans hE
          refine lv_aload_n hx hb dX6_rings_93 rfl (lv_at hl 0 rfl) ?_
          refine va_get (D := G.1) (ci := 6) (v := .ref q_t_gone) (C := RX6) (T := TX6) (N := 23) hx hb hts iX6 hown hK hP 0 rfl rfl 15 (by decide) fl_40 (fun _ h9 => h9) rfl dX6_rings_94 ?_
          refine lv_bipush (v := 6) hx hb dX6_rings_97 (by decide) ?_
          refine lv_iload hx hb dX6_rings_99 (lv_at hl 4 rfl) ?_
          refine lv_iconst (v := 1) hx hb dX6_rings_101 (by decide) ?_
          refine lv_isub hx hb dX6_rings_102 ?_
          refine lv_imul hx hb dX6_rings_103 ?_
          refine lv_iload hx hb dX6_rings_104 (lv_at hl 5 rfl) ?_
          refine lv_iadd hx hb dX6_rings_106 ?_
          refine lv_iconst (v := 1) hx hb dX6_rings_107 (by decide) ?_
          refine lv_isub hx hb dX6_rings_108 ?_
          obtain ⟨hi_109, hE⟩ := ck_some hE
          refine va_zald hx hb hK hP 5 3 rfl rfl (inb_in hi_109) dX6_rings_109 ?_
          refine lv_if_ne (tgt := 127) hx hb dX6_rings_110 (by decide) (fun c_110 => ?_) (fun c_110 => ?_)
          · replace hE := (if_neg c_110).symm.trans hE
            refine lv_iinc (v := v5_4 + (1 : Int32)) (lv' := [(5, .int (v5_4 + (1 : Int32))), (0, .ref q_t), (1, .int p1), (2, .int v2_4), (3, .int v3_4), (4, .int v4_3)]) hx hb dX6_rings_127 hl (k := 5) rfl rfl (by decide) rfl (fun ls hl => ?_)
            refine lv_goto (tgt := 84) hx hb dX6_rings_130 (by decide) ?_
            have e_4 := Option.some.inj hE
            exact ih_4 _ e_4.symm _ _ ls hP hD hS (lv_sub hl [1, 2, 3, 4, 5, 0] rfl)
          · replace hE := (if_pos c_110).symm.trans hE
            refine lv_iload_n hx hb dX6_rings_113 rfl (lv_at hl 2 rfl) ?_
            refine lv_aload_n hx hb dX6_rings_114 rfl (lv_at hl 0 rfl) ?_
            refine lv_iload hx hb dX6_rings_115 (lv_at hl 4 rfl) ?_
            refine lv_iload hx hb dX6_rings_117 (lv_at hl 5 rfl) ?_
            obtain ⟨y119, hC_119, hE⟩ := Option.bind_eq_some_iff.mp hE
            obtain ⟨r_119, m_119_0, m_119_1, m_119_2, m_119_3, m_119_4⟩ := y119
            try dsimp only at hE
            have hPc := hP.sub (ws' := [oX6 q_t t_length q_t_text t_size q_t_sign t_otherSize q_t_other q_t_before t_undoMany t_readSize q_t_read q_t_side q_t_tall q_t_endRow q_t_endColumn q_t_endSide q_t_gone w_t_lineRow_4 w_t_lineColumn_4 w_t_lineSide_4 w_t_lineMany_4 q_t_ways q_t_codes q_t_many, aI (G.2 1) q_t_sign 36 t_sign, aI (G.2 3) q_t_gone 36 w_t_gone_4]) [0, 1, 5] rfl
            have hDc := hD.sub (ws' := [oX6 q_t t_length q_t_text t_size q_t_sign t_otherSize q_t_other q_t_before t_undoMany t_readSize q_t_read q_t_side q_t_tall q_t_endRow q_t_endColumn q_t_endSide q_t_gone w_t_lineRow_4 w_t_lineColumn_4 w_t_lineSide_4 w_t_lineMany_4 q_t_ways q_t_codes q_t_many, aI (G.2 1) q_t_sign 36 t_sign, aI (G.2 3) q_t_gone 36 w_t_gone_4]) [0, 1, 5] (by decide) rfl
            have hFc := va_free (wc := [oX6 q_t t_length q_t_text t_size q_t_sign t_otherSize q_t_other q_t_before t_undoMany t_readSize q_t_read q_t_side q_t_tall q_t_endRow q_t_endColumn q_t_endSide q_t_gone w_t_lineRow_4 w_t_lineColumn_4 w_t_lineSide_4 w_t_lineMany_4 q_t_ways q_t_codes q_t_many, aI (G.2 1) q_t_sign 36 t_sign, aI (G.2 3) q_t_gone 36 w_t_gone_4]) hD hS hA [0, 1, 5] rfl
            refine va_calli (va_runV (As := [.int v4_3, .int v5_4]) (rest := [.int v2_4]) ⟨hx, hb, hml, hown, hts⟩ (c_X6_ring (l := l) (G := G) _ (p1 := v4_3) (p2 := v5_4) (q_t := q_t) (t_length := t_length) (q_t_text := q_t_text) (t_size := t_size) (q_t_sign := q_t_sign) (t_otherSize := t_otherSize) (q_t_other := q_t_other) (q_t_before := q_t_before) (t_undoMany := t_undoMany) (t_readSize := t_readSize) (q_t_read := q_t_read) (q_t_side := q_t_side) (q_t_tall := q_t_tall) (q_t_endRow := q_t_endRow) (q_t_endColumn := q_t_endColumn) (q_t_endSide := q_t_endSide) (q_t_gone := q_t_gone) (t_lineRow := w_t_lineRow_4) (t_lineColumn := w_t_lineColumn_4) (t_lineSide := w_t_lineSide_4) (t_lineMany := w_t_lineMany_4) (q_t_ways := q_t_ways) (q_t_codes := q_t_codes) (q_t_many := q_t_many) (t_sign := t_sign) (t_gone := w_t_gone_4) hC_119) (cwV 2 hts gX6_rings_X6_ring rfl rfl rfl kd_X6_ring ⟨Nat.le_of_ble_eq_true rfl, Nat.le_of_ble_eq_true rfl⟩) (iv_V hKW hPc hDc (ci := 6) (q0 := 0) rfl rfl) rfl rfl hl.1 rfl (lv_room (Nat.le_of_ble_eq_true rfl)) dX6_rings_119 ⟨Nat.zero_le _, Nat.zero_le _⟩) hS (fun q _ h => hFc q h) hFc (fun r9 u9 t9 H1 locs ht9 hvm9 hw9 hB9 hz9 hk9 hS => ?_)
            subst r9
            obtain ⟨hP1, hD1⟩ := hB9
            rw [ht9] at hP1
            obtain ⟨hP, hD⟩ := va_join (wr := [aI (G.2 1) q_t_endRow 12 m_9_0, aI (G.2 1) q_t_endColumn 12 m_9_1, aI (G.2 1) q_t_endSide 12 m_9_2]) (w1 := [oX6 q_t t_length q_t_text t_size q_t_sign t_otherSize q_t_other q_t_before t_undoMany t_readSize q_t_read q_t_side q_t_tall q_t_endRow q_t_endColumn q_t_endSide q_t_gone m_119_0 m_119_1 m_119_2 m_119_3 q_t_ways q_t_codes q_t_many, aI (G.2 1) q_t_sign 36 t_sign, aI (G.2 3) q_t_gone 36 m_119_4]) hP hD [0, 1, 5] [2, 3, 4] rfl rfl (by decide) (by decide) hk9 hFc hP1 hD1
            have hP := hP.sub (ws' := [oX6 q_t t_length q_t_text t_size q_t_sign t_otherSize q_t_other q_t_before t_undoMany t_readSize q_t_read q_t_side q_t_tall q_t_endRow q_t_endColumn q_t_endSide q_t_gone m_119_0 m_119_1 m_119_2 m_119_3 q_t_ways q_t_codes q_t_many, aI (G.2 1) q_t_sign 36 t_sign, aI (G.2 1) q_t_endRow 12 m_9_0, aI (G.2 1) q_t_endColumn 12 m_9_1, aI (G.2 1) q_t_endSide 12 m_9_2, aI (G.2 3) q_t_gone 36 m_119_4]) [3, 4, 0, 1, 2, 5] rfl
            have hD := hD.sub (ws' := [oX6 q_t t_length q_t_text t_size q_t_sign t_otherSize q_t_other q_t_before t_undoMany t_readSize q_t_read q_t_side q_t_tall q_t_endRow q_t_endColumn q_t_endSide q_t_gone m_119_0 m_119_1 m_119_2 m_119_3 q_t_ways q_t_codes q_t_many, aI (G.2 1) q_t_sign 36 t_sign, aI (G.2 1) q_t_endRow 12 m_9_0, aI (G.2 1) q_t_endColumn 12 m_9_1, aI (G.2 1) q_t_endSide 12 m_9_2, aI (G.2 3) q_t_gone 36 m_119_4]) [3, 4, 0, 1, 2, 5] (by decide) rfl
            clear hPc hDc hFc hP1 hD1 hk9 hz9 hvm9
            refine lv_iadd hx hb dX6_rings_122 ?_
            refine lv_istore_n (lv' := [(2, .int (v2_4 + r_119)), (0, .ref q_t), (1, .int p1), (3, .int v3_4), (4, .int v4_3), (5, .int v5_4)]) hx hb dX6_rings_123 rfl hl (by decide) rfl (fun ls hl => ?_)
            refine lv_iinc (v := v3_4 + (1 : Int32)) (lv' := [(3, .int (v3_4 + (1 : Int32))), (2, .int (v2_4 + r_119)), (0, .ref q_t), (1, .int p1), (4, .int v4_3), (5, .int v5_4)]) hx hb dX6_rings_124 hl (k := 3) rfl rfl (by decide) rfl (fun ls hl => ?_)
            refine lv_iinc (v := v5_4 + (1 : Int32)) (lv' := [(5, .int (v5_4 + (1 : Int32))), (3, .int (v3_4 + (1 : Int32))), (2, .int (v2_4 + r_119)), (0, .ref q_t), (1, .int p1), (4, .int v4_3)]) hx hb dX6_rings_127 hl (k := 5) rfl rfl (by decide) rfl (fun ls hl => ?_)
            refine lv_goto (tgt := 84) hx hb dX6_rings_130 (by decide) ?_
            have e_4 := Option.some.inj hE
            exact ih_4 _ e_4.symm _ _ ls hP hD hS (lv_sub hl [3, 4, 2, 1, 5, 0] rfl)
    · replace hE := (if_neg c_42).symm.trans hE
      refine lv_aload_n hx hb dX6_rings_45 rfl (lv_at hl 0 rfl) ?_
      refine lv_aload_n hx hb dX6_rings_46 rfl (lv_at hl 0 rfl) ?_
      refine va_get (D := G.1) (ci := 6) (v := .ref q_t_sign) (C := RX6) (T := TX6) (N := 23) hx hb hts iX6 hown hK hP 0 rfl rfl 3 (by decide) fl_13 (fun _ h9 => h9) rfl dX6_rings_47 ?_
      refine lv_aload_n hx hb dX6_rings_50 rfl (lv_at hl 0 rfl) ?_
      refine va_get (D := G.1) (ci := 6) (v := .int t_size) (C := RX6) (T := TX6) (N := 23) hx hb hts iX6 hown hK hP 0 rfl rfl 2 (by decide) fl_54 (fun _ h9 => h9) rfl dX6_rings_51 ?_
      refine lv_iload_n hx hb dX6_rings_54 rfl (lv_at hl 2 rfl) ?_
      obtain ⟨y55, hC_55, hE⟩ := Option.bind_eq_some_iff.mp hE
      obtain ⟨r_55, m_55_0, m_55_1, m_55_2, m_55_3, m_55_4⟩ := y55
      try dsimp only at hE
      have hPc := hP.sub (ws' := [oX6 q_t t_length q_t_text t_size q_t_sign t_otherSize q_t_other q_t_before t_undoMany t_readSize q_t_read q_t_side q_t_tall q_t_endRow q_t_endColumn q_t_endSide q_t_gone w_t_lineRow_2 w_t_lineColumn_2 w_t_lineSide_2 w_t_lineMany_2 q_t_ways q_t_codes q_t_many, aI (G.2 1) q_t_endRow 12 m_9_0, aI (G.2 1) q_t_endColumn 12 m_9_1, aI (G.2 1) q_t_endSide 12 m_9_2, aI (G.2 3) q_t_gone 36 w_t_gone_2, aI (G.2 1) q_t_sign 36 t_sign]) [0, 2, 3, 4, 5, 1] rfl
      have hDc := hD.sub (ws' := [oX6 q_t t_length q_t_text t_size q_t_sign t_otherSize q_t_other q_t_before t_undoMany t_readSize q_t_read q_t_side q_t_tall q_t_endRow q_t_endColumn q_t_endSide q_t_gone w_t_lineRow_2 w_t_lineColumn_2 w_t_lineSide_2 w_t_lineMany_2 q_t_ways q_t_codes q_t_many, aI (G.2 1) q_t_endRow 12 m_9_0, aI (G.2 1) q_t_endColumn 12 m_9_1, aI (G.2 1) q_t_endSide 12 m_9_2, aI (G.2 3) q_t_gone 36 w_t_gone_2, aI (G.2 1) q_t_sign 36 t_sign]) [0, 2, 3, 4, 5, 1] (by decide) rfl
      have hFc := va_free (wc := [oX6 q_t t_length q_t_text t_size q_t_sign t_otherSize q_t_other q_t_before t_undoMany t_readSize q_t_read q_t_side q_t_tall q_t_endRow q_t_endColumn q_t_endSide q_t_gone w_t_lineRow_2 w_t_lineColumn_2 w_t_lineSide_2 w_t_lineMany_2 q_t_ways q_t_codes q_t_many, aI (G.2 1) q_t_endRow 12 m_9_0, aI (G.2 1) q_t_endColumn 12 m_9_1, aI (G.2 1) q_t_endSide 12 m_9_2, aI (G.2 3) q_t_gone 36 w_t_gone_2, aI (G.2 1) q_t_sign 36 t_sign]) hD hS hA [0, 2, 3, 4, 5, 1] rfl
      refine va_calli (va_runV (As := [.ref q_t_sign, .int t_size, .int v2_2]) (rest := []) ⟨hx, hb, hml, hown, hts⟩ (c_X6_goes (l := l) (G := G) _ (p2 := t_size) (p3 := v2_2) (q_t := q_t) (t_length := t_length) (q_t_text := q_t_text) (t_size := t_size) (q_t_sign := q_t_sign) (t_otherSize := t_otherSize) (q_t_other := q_t_other) (q_t_before := q_t_before) (t_undoMany := t_undoMany) (t_readSize := t_readSize) (q_t_read := q_t_read) (q_t_side := q_t_side) (q_t_tall := q_t_tall) (q_t_endRow := q_t_endRow) (q_t_endColumn := q_t_endColumn) (q_t_endSide := q_t_endSide) (q_t_gone := q_t_gone) (t_lineRow := w_t_lineRow_2) (t_lineColumn := w_t_lineColumn_2) (t_lineSide := w_t_lineSide_2) (t_lineMany := w_t_lineMany_2) (q_t_ways := q_t_ways) (q_t_codes := q_t_codes) (q_t_many := q_t_many) (t_endRow := m_9_0) (t_endColumn := m_9_1) (t_endSide := m_9_2) (t_gone := w_t_gone_2) (q_p1 := q_t_sign) (p1 := t_sign) hC_55) (cwV 3 hts gX6_rings_X6_goes rfl rfl rfl kd_X6_goes ⟨Nat.le_of_ble_eq_true rfl, Nat.le_of_ble_eq_true rfl⟩) (iv_V hKW hPc hDc (ci := 6) (q0 := 0) rfl rfl) rfl rfl hl.1 rfl (lv_room (Nat.le_of_ble_eq_true rfl)) dX6_rings_55 ⟨Nat.zero_le _, Nat.zero_le _⟩) hS (fun q _ h => hFc q h) hFc (fun r9 u9 t9 H1 locs ht9 hvm9 hw9 hB9 hz9 hk9 hS => ?_)
      subst r9
      obtain ⟨hP1, hD1⟩ := hB9
      rw [ht9] at hP1
      obtain ⟨hP, hD⟩ := va_join (wr := []) (w1 := [oX6 q_t t_length q_t_text t_size q_t_sign t_otherSize q_t_other q_t_before t_undoMany t_readSize q_t_read q_t_side q_t_tall q_t_endRow q_t_endColumn q_t_endSide q_t_gone m_55_0 m_55_1 m_55_2 m_55_3 q_t_ways q_t_codes q_t_many, aI (G.2 1) q_t_endRow 12 m_9_0, aI (G.2 1) q_t_endColumn 12 m_9_1, aI (G.2 1) q_t_endSide 12 m_9_2, aI (G.2 3) q_t_gone 36 m_55_4, aI (G.2 1) q_t_sign 36 t_sign]) hP hD [0, 2, 3, 4, 5, 1] [] rfl rfl (by decide) (by decide) hk9 hFc hP1 hD1
      have hP := hP.sub (ws' := [oX6 q_t t_length q_t_text t_size q_t_sign t_otherSize q_t_other q_t_before t_undoMany t_readSize q_t_read q_t_side q_t_tall q_t_endRow q_t_endColumn q_t_endSide q_t_gone m_55_0 m_55_1 m_55_2 m_55_3 q_t_ways q_t_codes q_t_many, aI (G.2 1) q_t_sign 36 t_sign, aI (G.2 1) q_t_endRow 12 m_9_0, aI (G.2 1) q_t_endColumn 12 m_9_1, aI (G.2 1) q_t_endSide 12 m_9_2, aI (G.2 3) q_t_gone 36 m_55_4]) [0, 5, 1, 2, 3, 4] rfl
      have hD := hD.sub (ws' := [oX6 q_t t_length q_t_text t_size q_t_sign t_otherSize q_t_other q_t_before t_undoMany t_readSize q_t_read q_t_side q_t_tall q_t_endRow q_t_endColumn q_t_endSide q_t_gone m_55_0 m_55_1 m_55_2 m_55_3 q_t_ways q_t_codes q_t_many, aI (G.2 1) q_t_sign 36 t_sign, aI (G.2 1) q_t_endRow 12 m_9_0, aI (G.2 1) q_t_endColumn 12 m_9_1, aI (G.2 1) q_t_endSide 12 m_9_2, aI (G.2 3) q_t_gone 36 m_55_4]) [0, 5, 1, 2, 3, 4] (by decide) rfl
      clear hPc hDc hFc hP1 hD1 hk9 hz9 hvm9
      refine lv_pop hx hb dX6_rings_58 rfl ?_
      refine lv_iinc (v := v2_2 + (1 : Int32)) (lv' := [(2, .int (v2_2 + (1 : Int32))), (0, .ref q_t), (1, .int p1)]) hx hb dX6_rings_59 hl (k := 2) rfl rfl (by decide) rfl (fun ls hl => ?_)
      refine lv_goto (tgt := 35) hx hb dX6_rings_62 (by decide) ?_
      have e_2 := Option.some.inj hE
      exact ih_2 _ e_2.symm _ _ ls hP hD hS (lv_sub hl [1, 2, 0] rfl)
  · replace hE := (if_neg c_17).symm.trans hE
    refine lv_aload_n hx hb dX6_rings_20 rfl (lv_at hl 0 rfl) ?_
    refine va_get (D := G.1) (ci := 6) (v := .ref q_t_gone) (C := RX6) (T := TX6) (N := 23) hx hb hts iX6 hown hK hP 0 rfl rfl 15 (by decide) fl_40 (fun _ h9 => h9) rfl dX6_rings_21 ?_
    refine lv_iload_n hx hb dX6_rings_24 rfl (lv_at hl 2 rfl) ?_
    refine lv_iconst (v := 0) hx hb dX6_rings_25 (by decide) ?_
    obtain ⟨hi_26, hE⟩ := ck_some hE
    refine va_zast hx hb hK hP hD hS 5 3 rfl rfl (inb_in hi_26) dX6_rings_26 (fun H locs hP hD hS => ?_)
    have hP : va_P G.1 vwCl [oX6 q_t t_length q_t_text t_size q_t_sign t_otherSize q_t_other q_t_before t_undoMany t_readSize q_t_read q_t_side q_t_tall q_t_endRow q_t_endColumn q_t_endSide q_t_gone t_lineRow t_lineColumn t_lineSide t_lineMany q_t_ways q_t_codes q_t_many, aI (G.2 1) q_t_sign 36 t_sign, aI (G.2 1) q_t_endRow 12 m_9_0, aI (G.2 1) q_t_endColumn 12 m_9_1, aI (G.2 1) q_t_endSide 12 m_9_2, aI (G.2 3) q_t_gone 36 (upd w_t_gone_1 v2_1.toNatClampNeg (vp_nar .boolean (0 : Int32)))] H := hP
    have hD : va_D A [oX6 q_t t_length q_t_text t_size q_t_sign t_otherSize q_t_other q_t_before t_undoMany t_readSize q_t_read q_t_side q_t_tall q_t_endRow q_t_endColumn q_t_endSide q_t_gone t_lineRow t_lineColumn t_lineSide t_lineMany q_t_ways q_t_codes q_t_many, aI (G.2 1) q_t_sign 36 t_sign, aI (G.2 1) q_t_endRow 12 m_9_0, aI (G.2 1) q_t_endColumn 12 m_9_1, aI (G.2 1) q_t_endSide 12 m_9_2, aI (G.2 3) q_t_gone 36 (upd w_t_gone_1 v2_1.toNatClampNeg (vp_nar .boolean (0 : Int32)))] := hD
    refine lv_iinc (v := v2_1 + (1 : Int32)) (lv' := [(2, .int (v2_1 + (1 : Int32))), (0, .ref q_t), (1, .int p1)]) hx hb dX6_rings_27 hl (k := 2) rfl rfl (by decide) rfl (fun ls hl => ?_)
    refine lv_goto (tgt := 14) hx hb dX6_rings_30 (by decide) ?_
    have e_1 := Option.some.inj hE
    exact ih_1 _ e_1.symm _ _ ls hP hD hS (lv_sub hl [1, 2, 0] rfl)
def S_X6_signOf (p1 : Int32) (p2 : Int32) (p3 : Int32) : Option Int32 := some (((p2 >>> (p3 &&& 31)) &&& (1 : Int32)) - ((p1 >>> (p3 &&& 31)) &&& (1 : Int32)))
theorem kd_X6_signOf : yX6_signOf.cls ≠ "java/lang/invoke/MethodHandle" ∧ yX6_signOf.cls ≠ "java/lang/invoke/VarHandle" ∧ (parseMethodDescriptor yX6_signOf.desc).map (fun d => d.parameters.length) = some 3 := by decide +kernel
set_option maxHeartbeats 4000000 in
set_option maxRecDepth 100000 in
theorem c_X6_signOf {l : Launch} {G : kG} {p1 : Int32} {p2 : Int32} {p3 : Int32} {res : Int32} (hE : S_X6_signOf p1 p2 p3 = some res) : Met l yX6_signOf wsX6_signOf ({ frames := 0, cells := 0, slots := 0, locals := 0 }) (va_Pc [.int p1, .int p2, .int p3] (fun U => va_P G.1 vwCl [] U.heap ∧ kw G U)) (vp_Si (fun r => r = res)) 0 0 (fun _ => False) := by
  refine Met.ofQ (cc := cX6_signOf) (maxL := 3) (ret := (some .int)) (by decide) rfl ?_
  intro p e s m args below meth c s₁ Q hQ B hml hv
  obtain ⟨rfl, hP, hKW⟩ := hv
  have hK := hKW.1
  have hx := B.exec
  have hb := B.bytes
  have hr := B.returns
  have hts := atoms_spec (ws := wsX6_signOf) B.pre
  have hown : s.vm.findClass RX6 = some m.cls := findClass_of_methodNamed B.named
  have hlocks := B.notSynchronized
  have hl := lv_entry ([.int p1, .int p2, .int p3]) (n := 3) (Nat.le_of_ble_eq_true rfl)
  rw [lg_entry_eq]
  generalize (lg_sl ([.int p1, .int p2, .int p3]) ++ List.replicate (3 - (lg_sl ([.int p1, .int p2, .int p3])).length) Slot.unset).toArray = ls at hl ⊢
  have hl : lv_has ls 3 [(0, .int p1), (1, .int p2), (2, .int p3)] := hl
  unfold S_X6_signOf at hE
  refine lv_iload_n hx hb dX6_signOf_0 rfl (lv_at hl 1 rfl) ?_
  refine lv_iload_n hx hb dX6_signOf_1 rfl (lv_at hl 2 rfl) ?_
  refine lv_ishr hx hb dX6_signOf_2 ?_
  refine lv_iconst (v := 1) hx hb dX6_signOf_3 (by decide) ?_
  refine lv_iand hx hb dX6_signOf_4 ?_
  refine lv_iload_n hx hb dX6_signOf_5 rfl (lv_at hl 0 rfl) ?_
  refine lv_iload_n hx hb dX6_signOf_6 rfl (lv_at hl 2 rfl) ?_
  refine lv_ishr hx hb dX6_signOf_7 ?_
  refine lv_iconst (v := 1) hx hb dX6_signOf_8 (by decide) ?_
  refine lv_iand hx hb dX6_signOf_9 ?_
  refine lv_isub hx hb dX6_signOf_10 ?_
  have e_0 := Option.some.inj hE
  rw [hQ]
  exact W.iret (v := ((p2 >>> (p3 &&& 31)) &&& (1 : Int32)) - ((p1 >>> (p3 &&& 31)) &&& (1 : Int32))) hx hb hr (fun t ht _ => ⟨_, rfl, e_0, ht⟩) (fun q h => by cases h) dX6_signOf_11
def S_X6_leads (p1 : Int32) (p2 : Int32) (p3 : Int32) : Option Int32 := itr (fun (x1 : Int32 × Int32 × Int32) => if p1 ≤ x1.2.2 then if x1.2.1 = 0 then some (.inr (0 : Int32)) else if x1.1 = (1 : Int32) then some (.inr (1 : Int32)) else some (.inr (0 : Int32)) else (S_X6_signOf p2 p3 x1.2.2).bind (fun (y19 : Int32) => if x1.2.1 = 0 then some (.inl (x1.1 + y19, (0 : Int32), x1.2.2 + (1 : Int32))) else (S_X6_in ((x1.1 + y19).toInt64) (0 : Int64) (1 : Int64)).bind (fun (y33 : Int32) => if y33 = 0 then some (.inl (x1.1 + y19, (0 : Int32), x1.2.2 + (1 : Int32))) else some (.inl (x1.1 + y19, (1 : Int32), x1.2.2 + (1 : Int32)))))) 10000 ((0 : Int32), (1 : Int32), (0 : Int32))
theorem kd_X6_leads : yX6_leads.cls ≠ "java/lang/invoke/MethodHandle" ∧ yX6_leads.cls ≠ "java/lang/invoke/VarHandle" ∧ (parseMethodDescriptor yX6_leads.desc).map (fun d => d.parameters.length) = some 3 := by decide +kernel
set_option maxHeartbeats 4000000 in
set_option maxRecDepth 100000 in
theorem c_X6_leads {l : Launch} {G : kG} {p1 : Int32} {p2 : Int32} {p3 : Int32} {res : Int32} (hE : S_X6_leads p1 p2 p3 = some res) : Met l yX6_leads wsX6_leads ({ frames := 1, cells := 0, slots := 0, locals := 25 }) (va_Pc [.int p1, .int p2, .int p3] (fun U => va_P G.1 vwCl [] U.heap ∧ kw G U)) (vp_Si (fun r => r = res)) 0 0 (fun _ => False) := by
  refine Met.ofQ (cc := cX6_leads) (maxL := 6) (ret := (some .boolean)) (by decide) rfl ?_
  intro p e s m args below meth c s₁ Q hQ B hml hv
  obtain ⟨rfl, hP, hKW⟩ := hv
  have hK := hKW.1
  have hx := B.exec
  have hb := B.bytes
  have hr := B.returns
  have hts := atoms_spec (ws := wsX6_leads) B.pre
  have hown : s.vm.findClass RX6 = some m.cls := findClass_of_methodNamed B.named
  have hlocks := B.notSynchronized
  have hl := lv_entry ([.int p1, .int p2, .int p3]) (n := 6) (Nat.le_of_ble_eq_true rfl)
  rw [lg_entry_eq]
  generalize (lg_sl ([.int p1, .int p2, .int p3]) ++ List.replicate (6 - (lg_sl ([.int p1, .int p2, .int p3])).length) Slot.unset).toArray = ls at hl ⊢
  have hl : lv_has ls 6 [(0, .int p1), (1, .int p2), (2, .int p3)] := hl
  unfold S_X6_leads at hE
  refine lv_iconst (v := 0) hx hb dX6_leads_0 (by decide) ?_
  refine lv_istore_n (lv' := [(3, .int (0 : Int32)), (0, .int p1), (1, .int p2), (2, .int p3)]) hx hb dX6_leads_1 rfl hl (by decide) rfl (fun ls hl => ?_)
  refine lv_iconst (v := 1) hx hb dX6_leads_2 (by decide) ?_
  refine lv_istore (lv' := [(4, .int (1 : Int32)), (3, .int (0 : Int32)), (0, .int p1), (1, .int p2), (2, .int p3)]) hx hb dX6_leads_3 hl (by decide) rfl (fun ls hl => ?_)
  refine lv_iconst (v := 0) hx hb dX6_leads_5 (by decide) ?_
  refine lv_istore (lv' := [(5, .int (0 : Int32)), (4, .int (1 : Int32)), (3, .int (0 : Int32)), (0, .int p1), (1, .int p2), (2, .int p3)]) hx hb dX6_leads_6 hl (by decide) rfl (fun ls hl => ?_)
  refine itr_ind (fun (x1 : Int32 × Int32 × Int32) => ∀ (ls : Array Slot), lv_has ls 6 [(0, .int p1), (1, .int p2), (2, .int p3), (3, .int x1.1), (4, .int x1.2.1), (5, .int x1.2.2)] → W p l e (headSpec wsX6_leads ({ frames := 1, cells := 0, slots := 0, locals := 25 })).room s m ([.int p1, .int p2, .int p3] : List Value).toArray below meth c s.heap [] 0 0 Q (F0 m 8 ls [])) (fun x1 o_1 hE ih_1 hr_1 => ?_) _ _ hE ls (lv_sub hl [3, 4, 5, 2, 1, 0] rfl)
  obtain ⟨v3_1, v4_1, v5_1⟩ := x1
  try dsimp only at hE
  intro ls hl
  try dsimp only at hl ⊢
  refine lv_iload hx hb dX6_leads_8 (lv_at hl 5 rfl) ?_
  refine lv_iload_n hx hb dX6_leads_10 rfl (lv_at hl 0 rfl) ?_
  refine lv_icmp_ge (tgt := 52) hx hb dX6_leads_11 (by decide) (fun c_11 => ?_) (fun c_11 => ?_)
  · replace hE := (if_pos c_11).symm.trans hE
    refine lv_iload hx hb dX6_leads_52 (lv_at hl 4 rfl) ?_
    refine lv_if_eq (tgt := 66) hx hb dX6_leads_54 (by decide) (fun c_54 => ?_) (fun c_54 => ?_)
    · replace hE := (if_pos c_54).symm.trans hE
      refine lv_iconst (v := 0) hx hb dX6_leads_66 (by decide) ?_
      have e_1 := Option.some.inj hE
      have e_0 := hr_1 _ e_1.symm
      rw [hQ]
      exact W.zret (v := (0 : Int32)) hx hb hr rfl (fun t ht _ => ⟨_, rfl, e_0, ht⟩) (fun q h => by cases h) dX6_leads_67
    · replace hE := (if_neg c_54).symm.trans hE
      refine lv_iload_n hx hb dX6_leads_57 rfl (lv_at hl 3 rfl) ?_
      refine lv_iconst (v := 1) hx hb dX6_leads_58 (by decide) ?_
      refine lv_icmp_ne (tgt := 66) hx hb dX6_leads_59 (by decide) (fun c_59 => ?_) (fun c_59 => ?_)
      · replace hE := (if_neg c_59).symm.trans hE
        refine lv_iconst (v := 0) hx hb dX6_leads_66 (by decide) ?_
        have e_1 := Option.some.inj hE
        have e_0 := hr_1 _ e_1.symm
        rw [hQ]
        exact W.zret (v := (0 : Int32)) hx hb hr rfl (fun t ht _ => ⟨_, rfl, e_0, ht⟩) (fun q h => by cases h) dX6_leads_67
      · replace hE := (if_pos c_59).symm.trans hE
        refine lv_iconst (v := 1) hx hb dX6_leads_62 (by decide) ?_
        refine lv_goto (tgt := 67) hx hb dX6_leads_63 (by decide) ?_
        have e_1 := Option.some.inj hE
        have e_0 := hr_1 _ e_1.symm
        rw [hQ]
        exact W.zret (v := (1 : Int32)) hx hb hr rfl (fun t ht _ => ⟨_, rfl, e_0, ht⟩) (fun q h => by cases h) dX6_leads_67
  · replace hE := (if_neg c_11).symm.trans hE
    refine lv_iload_n hx hb dX6_leads_14 rfl (lv_at hl 3 rfl) ?_
    refine lv_iload_n hx hb dX6_leads_15 rfl (lv_at hl 1 rfl) ?_
    refine lv_iload_n hx hb dX6_leads_16 rfl (lv_at hl 2 rfl) ?_
    refine lv_iload hx hb dX6_leads_17 (lv_at hl 5 rfl) ?_
    obtain ⟨y19, hC_19, hE⟩ := Option.bind_eq_some_iff.mp hE
    obtain ⟨r_19, ex9⟩ : ∃ z, z = y19 := ⟨_, rfl⟩
    subst ex9
    try dsimp only at hE
    refine vp_callSi (va_Run.run (va_runS (As := [.int p2, .int p3, .int v5_1]) (rest := [.int v3_1]) ⟨hx, hb, hml, hown, hts⟩ (c_X6_signOf (l := l) (G := G) (p1 := p2) (p2 := p3) (p3 := v5_1) hC_19) (va_cwS 3 hts gX6_leads_X6_signOf rfl rfl rfl kd_X6_signOf ⟨Nat.le_of_ble_eq_true rfl, Nat.le_of_ble_eq_true rfl⟩) (pv_S hKW (hP.sub (ws' := []) [] rfl)) rfl rfl hl.1 rfl (lv_room (Nat.le_of_ble_eq_true rfl)) dX6_leads_19 ⟨Nat.zero_le _, Nat.zero_le _⟩)) (fun r9 hr9 => ?_)
    subst r9
    refine lv_iadd hx hb dX6_leads_22 ?_
    refine lv_istore_n (lv' := [(3, .int (v3_1 + r_19)), (0, .int p1), (1, .int p2), (2, .int p3), (4, .int v4_1), (5, .int v5_1)]) hx hb dX6_leads_23 rfl hl (by decide) rfl (fun ls hl => ?_)
    refine lv_iload hx hb dX6_leads_24 (lv_at hl 4 rfl) ?_
    refine lv_if_eq (tgt := 43) hx hb dX6_leads_26 (by decide) (fun c_26 => ?_) (fun c_26 => ?_)
    · replace hE := (if_pos c_26).symm.trans hE
      refine lv_iconst (v := 0) hx hb dX6_leads_43 (by decide) ?_
      refine lv_istore (lv' := [(4, .int (0 : Int32)), (3, .int (v3_1 + r_19)), (0, .int p1), (1, .int p2), (2, .int p3), (5, .int v5_1)]) hx hb dX6_leads_44 hl (by decide) rfl (fun ls hl => ?_)
      refine lv_iinc (v := v5_1 + (1 : Int32)) (lv' := [(5, .int (v5_1 + (1 : Int32))), (4, .int (0 : Int32)), (3, .int (v3_1 + r_19)), (0, .int p1), (1, .int p2), (2, .int p3)]) hx hb dX6_leads_46 hl (k := 5) rfl rfl (by decide) rfl (fun ls hl => ?_)
      refine lv_goto (tgt := 8) hx hb dX6_leads_49 (by decide) ?_
      have e_1 := Option.some.inj hE
      exact ih_1 _ e_1.symm ls (lv_sub hl [3, 4, 5, 2, 1, 0] rfl)
    · replace hE := (if_neg c_26).symm.trans hE
      refine lv_iload_n hx hb dX6_leads_29 rfl (lv_at hl 0 rfl) ?_
      refine lv_i2l (v := (v3_1 + r_19).toInt64) hx hb dX6_leads_30 rfl ?_
      refine lv_lconst (v := 0) hx hb dX6_leads_31 (by decide) ?_
      refine lv_lconst (v := 1) hx hb dX6_leads_32 (by decide) ?_
      obtain ⟨y33, hC_33, hE⟩ := Option.bind_eq_some_iff.mp hE
      obtain ⟨r_33, ex9⟩ : ∃ z, z = y33 := ⟨_, rfl⟩
      subst ex9
      try dsimp only at hE
      refine vp_callSi (va_Run.run (va_runS (As := [.long ((v3_1 + r_19).toInt64), .long (0 : Int64), .long (1 : Int64)]) (rest := []) ⟨hx, hb, hml, hown, hts⟩ (c_X6_in (l := l) (G := G) (p1 := (v3_1 + r_19).toInt64) (p2 := (0 : Int64)) (p3 := (1 : Int64)) hC_33) (va_cwS 3 hts gX6_leads_X6_in rfl rfl rfl kd_X6_in ⟨Nat.le_of_ble_eq_true rfl, Nat.le_of_ble_eq_true rfl⟩) (pv_S hKW (hP.sub (ws' := []) [] rfl)) rfl rfl hl.1 rfl (lv_room (Nat.le_of_ble_eq_true rfl)) dX6_leads_33 ⟨Nat.zero_le _, Nat.zero_le _⟩)) (fun r9 hr9 => ?_)
      subst r9
      refine lv_if_eq (tgt := 43) hx hb dX6_leads_36 (by decide) (fun c_36 => ?_) (fun c_36 => ?_)
      · replace hE := (if_pos c_36).symm.trans hE
        refine lv_iconst (v := 0) hx hb dX6_leads_43 (by decide) ?_
        refine lv_istore (lv' := [(4, .int (0 : Int32)), (3, .int (v3_1 + r_19)), (0, .int p1), (1, .int p2), (2, .int p3), (5, .int v5_1)]) hx hb dX6_leads_44 hl (by decide) rfl (fun ls hl => ?_)
        refine lv_iinc (v := v5_1 + (1 : Int32)) (lv' := [(5, .int (v5_1 + (1 : Int32))), (4, .int (0 : Int32)), (3, .int (v3_1 + r_19)), (0, .int p1), (1, .int p2), (2, .int p3)]) hx hb dX6_leads_46 hl (k := 5) rfl rfl (by decide) rfl (fun ls hl => ?_)
        refine lv_goto (tgt := 8) hx hb dX6_leads_49 (by decide) ?_
        have e_1 := Option.some.inj hE
        exact ih_1 _ e_1.symm ls (lv_sub hl [3, 4, 5, 2, 1, 0] rfl)
      · replace hE := (if_neg c_36).symm.trans hE
        refine lv_iconst (v := 1) hx hb dX6_leads_39 (by decide) ?_
        refine lv_goto (tgt := 44) hx hb dX6_leads_40 (by decide) ?_
        refine lv_istore (lv' := [(4, .int (1 : Int32)), (3, .int (v3_1 + r_19)), (0, .int p1), (1, .int p2), (2, .int p3), (5, .int v5_1)]) hx hb dX6_leads_44 hl (by decide) rfl (fun ls hl => ?_)
        refine lv_iinc (v := v5_1 + (1 : Int32)) (lv' := [(5, .int (v5_1 + (1 : Int32))), (4, .int (1 : Int32)), (3, .int (v3_1 + r_19)), (0, .int p1), (1, .int p2), (2, .int p3)]) hx hb dX6_leads_46 hl (k := 5) rfl rfl (by decide) rfl (fun ls hl => ?_)
        refine lv_goto (tgt := 8) hx hb dX6_leads_49 (by decide) ?_
        have e_1 := Option.some.inj hE
        exact ih_1 _ e_1.symm ls (lv_sub hl [3, 4, 5, 2, 1, 0] rfl)
def S_X6_findWays (p1 : Int32) (t_ways : Nat → Int32) : Option (Int32 × (Nat → Int32)) := itr (fun (x1 : Int32 × (Nat → Int32)) => if (64 : Int32) ≤ x1.1 then itr (fun (x2 : Int32 × (Nat → Int32)) => if x2.1 < 0 then ck (inb (0 : Int32) 448) (some (.inr (.inr (x2.2 (0 : Int32).toNatClampNeg, x2.2)))) else itr (fun (x3 : Int32 × (Nat → Int32)) => if ((1 : Int32) <<< (p1 &&& 31)) ≤ x3.1 then some (.inr (.inl (x2.1 + (-1 : Int32), x3.2))) else ck (inb (((64 : Int32) * x2.1) + x3.1) 448) (itr (fun (x4 : Int32 × (Nat → Int32)) => if ((1 : Int32) <<< (p1 &&& 31)) ≤ x4.1 then some (.inr (.inl (x3.1 + (1 : Int32), x4.2))) else ck (inb (((64 : Int32) * x2.1) + x3.1) 448) (ck (inb (((64 : Int32) * (x2.1 + (1 : Int32))) + x4.1) 448) (if (x4.2 (((64 : Int32) * (x2.1 + (1 : Int32))) + x4.1).toNatClampNeg) ≤ 0 then ck (inb (((64 : Int32) * x2.1) + x3.1) 448) ((some (upd x4.2 (((64 : Int32) * x2.1) + x3.1).toNatClampNeg ((x4.2 (((64 : Int32) * x2.1) + x3.1).toNatClampNeg) + (0 : Int32)))).bind (fun (z_137 : Nat → Int32) => some (.inl (x4.1 + (1 : Int32), z_137)))) else (S_X6_leads p1 x3.1 x4.1).bind (fun (y112 : Int32) => if y112 = 0 then ck (inb (((64 : Int32) * x2.1) + x3.1) 448) ((some (upd x4.2 (((64 : Int32) * x2.1) + x3.1).toNatClampNeg ((x4.2 (((64 : Int32) * x2.1) + x3.1).toNatClampNeg) + (0 : Int32)))).bind (fun (z_137 : Nat → Int32) => some (.inl (x4.1 + (1 : Int32), z_137)))) else ck (inb (((64 : Int32) * (x2.1 + (1 : Int32))) + x4.1) 448) (ck (inb (((64 : Int32) * x2.1) + x3.1) 448) ((some (upd x4.2 (((64 : Int32) * x2.1) + x3.1).toNatClampNeg ((x4.2 (((64 : Int32) * x2.1) + x3.1).toNatClampNeg) + (x4.2 (((64 : Int32) * (x2.1 + (1 : Int32))) + x4.1).toNatClampNeg)))).bind (fun (z_137 : Nat → Int32) => some (.inl (x4.1 + (1 : Int32), z_137))))))))) 10000 ((0 : Int32), upd x3.2 (((64 : Int32) * x2.1) + x3.1).toNatClampNeg (0 : Int32)))) 10000 ((0 : Int32), x2.2)) 10000 (p1 - (1 : Int32), x1.2) else if x1.1 = (((1 : Int32) <<< (p1 &&& 31)) - (1 : Int32)) then ck (inb (((64 : Int32) * p1) + x1.1) 448) (some (.inl (x1.1 + (1 : Int32), upd x1.2 (((64 : Int32) * p1) + x1.1).toNatClampNeg (1 : Int32)))) else ck (inb (((64 : Int32) * p1) + x1.1) 448) (some (.inl (x1.1 + (1 : Int32), upd x1.2 (((64 : Int32) * p1) + x1.1).toNatClampNeg (0 : Int32))))) 10000 ((0 : Int32), t_ways)
theorem kd_X6_findWays : yX6_findWays.cls = RX6 ∧ yX6_findWays.cls ≠ "java/lang/invoke/MethodHandle" ∧ yX6_findWays.cls ≠ "java/lang/invoke/VarHandle" ∧ (parseMethodDescriptor yX6_findWays.desc).map (fun d => d.parameters.length) = some 1 := by decide +kernel
set_option maxHeartbeats 4000000 in
set_option maxRecDepth 100000 in
theorem c_X6_findWays {l : Launch} {G : kG} (sz : Nat) {p1 : Int32} {q_t : Nat} {t_length : Int32} {q_t_text : Nat} {t_size : Int32} {q_t_sign : Nat} {t_otherSize : Int32} {q_t_other : Nat} {q_t_before : Nat} {t_undoMany : Int32} {t_readSize : Int32} {q_t_read : Nat} {q_t_side : Nat} {q_t_tall : Nat} {q_t_endRow : Nat} {q_t_endColumn : Nat} {q_t_endSide : Nat} {q_t_gone : Nat} {t_lineRow : Int32} {t_lineColumn : Int32} {t_lineSide : Int32} {t_lineMany : Int32} {q_t_ways : Nat} {q_t_codes : Nat} {q_t_many : Nat} {t_ways : Nat → Int32} {res : Int32 × (Nat → Int32)} (hE : S_X6_findWays p1 t_ways = some res) : Met l yX6_findWays wsX6_findWays ({ frames := 2, cells := 0, slots := 0, locals := 50 }) (va_Pc [.ref q_t, .int p1] (fun U => U.heap.size = sz ∧ va_P G.1 vwCl [oX6 q_t t_length q_t_text t_size q_t_sign t_otherSize q_t_other q_t_before t_undoMany t_readSize q_t_read q_t_side q_t_tall q_t_endRow q_t_endColumn q_t_endSide q_t_gone t_lineRow t_lineColumn t_lineSide t_lineMany q_t_ways q_t_codes q_t_many, aI (G.2 1) q_t_ways 448 t_ways] U.heap ∧ kw G U ∧ va_D (fun _ => True) [oX6 q_t t_length q_t_text t_size q_t_sign t_otherSize q_t_other q_t_before t_undoMany t_readSize q_t_read q_t_side q_t_tall q_t_endRow q_t_endColumn q_t_endSide q_t_gone t_lineRow t_lineColumn t_lineSide t_lineMany q_t_ways q_t_codes q_t_many, aI (G.2 1) q_t_ways 448 t_ways])) (va_Qi (fun r (_ : Unit) => r = res.1) (fun _ t => va_P G.1 vwCl [oX6 q_t t_length q_t_text t_size q_t_sign t_otherSize q_t_other q_t_before t_undoMany t_readSize q_t_read q_t_side q_t_tall q_t_endRow q_t_endColumn q_t_endSide q_t_gone t_lineRow t_lineColumn t_lineSide t_lineMany q_t_ways q_t_codes q_t_many, aI (G.2 1) q_t_ways 448 res.2] t.heap ∧ va_D (va_A [oX6 q_t t_length q_t_text t_size q_t_sign t_otherSize q_t_other q_t_before t_undoMany t_readSize q_t_read q_t_side q_t_tall q_t_endRow q_t_endColumn q_t_endSide q_t_gone t_lineRow t_lineColumn t_lineSide t_lineMany q_t_ways q_t_codes q_t_many, aI (G.2 1) q_t_ways 448 t_ways] sz) [oX6 q_t t_length q_t_text t_size q_t_sign t_otherSize q_t_other q_t_before t_undoMany t_readSize q_t_read q_t_side q_t_tall q_t_endRow q_t_endColumn q_t_endSide q_t_gone t_lineRow t_lineColumn t_lineSide t_lineMany q_t_ways q_t_codes q_t_many, aI (G.2 1) q_t_ways 448 res.2]) (va_A [oX6 q_t t_length q_t_text t_size q_t_sign t_otherSize q_t_other q_t_before t_undoMany t_readSize q_t_read q_t_side q_t_tall q_t_endRow q_t_endColumn q_t_endSide q_t_gone t_lineRow t_lineColumn t_lineSide t_lineMany q_t_ways q_t_codes q_t_many, aI (G.2 1) q_t_ways 448 t_ways] sz)) 0 0 (va_A [oX6 q_t t_length q_t_text t_size q_t_sign t_otherSize q_t_other q_t_before t_undoMany t_readSize q_t_read q_t_side q_t_tall q_t_endRow q_t_endColumn q_t_endSide q_t_gone t_lineRow t_lineColumn t_lineSide t_lineMany q_t_ways q_t_codes q_t_many, aI (G.2 1) q_t_ways 448 t_ways] sz) := by
  refine Met.ofQ (cc := cX6_findWays) (maxL := 5) (ret := (some .int)) (by decide) rfl ?_
  intro p e s m args below meth c s₁ Q hQ B hml hv
  obtain ⟨rfl, hsz, hP, hKW, hD0⟩ := hv
  have hK := hKW.1
  have hx := B.exec
  have hb := B.bytes
  have hr := B.returns
  have hts := atoms_spec (ws := wsX6_findWays) B.pre
  have hown : s.vm.findClass RX6 = some m.cls := findClass_of_methodNamed B.named
  have hlocks := B.notSynchronized
  have iX6 : ∀ w ∈ u_ws RX6 TX6 23, w ∈ wsX6_findWays := by decide +kernel
  have fl_44 := hts (.fieldLink RX6 44 "AlternateSignsModel" "ways" "[I") (by decide +kernel)
  subst hsz
  have hD := hD0.self (sz := s.heap.size)
  generalize hAe : va_A [oX6 q_t t_length q_t_text t_size q_t_sign t_otherSize q_t_other q_t_before t_undoMany t_readSize q_t_read q_t_side q_t_tall q_t_endRow q_t_endColumn q_t_endSide q_t_gone t_lineRow t_lineColumn t_lineSide t_lineMany q_t_ways q_t_codes q_t_many, aI (G.2 1) q_t_ways 448 t_ways] s.heap.size = A at hD hQ
  have hA : ∀ q : Nat, s.heap.size ≤ q → A q := fun q h => by rw [← hAe]; exact Or.inr h
  have hS : va_S A s.heap s.heap [] := va_S.rf
  have hl := lv_entry ([.ref q_t, .int p1]) (n := 5) (Nat.le_of_ble_eq_true rfl)
  rw [lg_entry_eq]
  generalize (lg_sl ([.ref q_t, .int p1]) ++ List.replicate (5 - (lg_sl ([.ref q_t, .int p1])).length) Slot.unset).toArray = ls at hl ⊢
  have hl : lv_has ls 5 [(0, .ref q_t), (1, .int p1)] := hl
  unfold S_X6_findWays at hE
  refine lv_iconst (v := 0) hx hb dX6_findWays_0 (by decide) ?_
  refine lv_istore_n (lv' := [(2, .int (0 : Int32)), (0, .ref q_t), (1, .int p1)]) hx hb dX6_findWays_1 rfl hl (by decide) rfl (fun ls hl => ?_)
  refine itr_ind (fun (x1 : Int32 × (Nat → Int32)) => ∀ (H : Heap) (locs : List Loc) (ls : Array Slot), va_P G.1 vwCl [oX6 q_t t_length q_t_text t_size q_t_sign t_otherSize q_t_other q_t_before t_undoMany t_readSize q_t_read q_t_side q_t_tall q_t_endRow q_t_endColumn q_t_endSide q_t_gone t_lineRow t_lineColumn t_lineSide t_lineMany q_t_ways q_t_codes q_t_many, aI (G.2 1) q_t_ways 448 x1.2] H → va_D A [oX6 q_t t_length q_t_text t_size q_t_sign t_otherSize q_t_other q_t_before t_undoMany t_readSize q_t_read q_t_side q_t_tall q_t_endRow q_t_endColumn q_t_endSide q_t_gone t_lineRow t_lineColumn t_lineSide t_lineMany q_t_ways q_t_codes q_t_many, aI (G.2 1) q_t_ways 448 x1.2] → va_S A s.heap H locs → lv_has ls 5 [(0, .ref q_t), (1, .int p1), (2, .int x1.1)] → W p l e (headSpec wsX6_findWays ({ frames := 2, cells := 0, slots := 0, locals := 50 })).room s m ([.ref q_t, .int p1] : List Value).toArray below meth c H locs 0 0 Q (F0 m 2 ls [])) (fun x1 o_1 hE ih_1 hr_1 => ?_) _ _ hE _ _ ls hP hD hS (lv_sub hl [1, 2, 0] rfl)
  obtain ⟨v2_1, w_t_ways_1⟩ := x1
  try dsimp only at hE
  intro H locs ls hP hD hS hl
  try dsimp only at hP hD hl ⊢
  refine lv_iload_n hx hb dX6_findWays_2 rfl (lv_at hl 2 rfl) ?_
  refine lv_bipush (v := 64) hx hb dX6_findWays_3 (by decide) ?_
  refine lv_icmp_ge (tgt := 39) hx hb dX6_findWays_5 (by decide) (fun c_5 => ?_) (fun c_5 => ?_)
  · replace hE := (if_pos c_5).symm.trans hE
    refine lv_iload_n hx hb dX6_findWays_39 rfl (lv_at hl 1 rfl) ?_
    refine lv_iconst (v := 1) hx hb dX6_findWays_40 (by decide) ?_
    refine lv_isub hx hb dX6_findWays_41 ?_
    refine lv_istore_n (lv' := [(2, .int (p1 - (1 : Int32))), (0, .ref q_t), (1, .int p1)]) hx hb dX6_findWays_42 rfl hl (by decide) rfl (fun ls hl => ?_)
    refine itr_ind (fun (x2 : Int32 × (Nat → Int32)) => ∀ (H : Heap) (locs : List Loc) (ls : Array Slot), va_P G.1 vwCl [oX6 q_t t_length q_t_text t_size q_t_sign t_otherSize q_t_other q_t_before t_undoMany t_readSize q_t_read q_t_side q_t_tall q_t_endRow q_t_endColumn q_t_endSide q_t_gone t_lineRow t_lineColumn t_lineSide t_lineMany q_t_ways q_t_codes q_t_many, aI (G.2 1) q_t_ways 448 x2.2] H → va_D A [oX6 q_t t_length q_t_text t_size q_t_sign t_otherSize q_t_other q_t_before t_undoMany t_readSize q_t_read q_t_side q_t_tall q_t_endRow q_t_endColumn q_t_endSide q_t_gone t_lineRow t_lineColumn t_lineSide t_lineMany q_t_ways q_t_codes q_t_many, aI (G.2 1) q_t_ways 448 x2.2] → va_S A s.heap H locs → lv_has ls 5 [(0, .ref q_t), (1, .int p1), (2, .int x2.1)] → W p l e (headSpec wsX6_findWays ({ frames := 2, cells := 0, slots := 0, locals := 50 })).room s m ([.ref q_t, .int p1] : List Value).toArray below meth c H locs 0 0 Q (F0 m 43 ls [])) (fun x2 o_2 hE ih_2 hr_2 => ?_) _ _ hE _ _ ls hP hD hS (lv_sub hl [1, 2, 0] rfl)
    obtain ⟨v2_2, w_t_ways_2⟩ := x2
    try dsimp only at hE
    intro H locs ls hP hD hS hl
    try dsimp only at hP hD hl ⊢
    refine lv_iload_n hx hb dX6_findWays_43 rfl (lv_at hl 2 rfl) ?_
    refine lv_if_lt (tgt := 156) hx hb dX6_findWays_44 (by decide) (fun c_44 => ?_) (fun c_44 => ?_)
    · replace hE := (if_pos c_44).symm.trans hE
      refine lv_aload_n hx hb dX6_findWays_156 rfl (lv_at hl 0 rfl) ?_
      refine va_get (D := G.1) (ci := 6) (v := .ref q_t_ways) (C := RX6) (T := TX6) (N := 23) hx hb hts iX6 hown hK hP 0 rfl rfl 20 (by decide) fl_44 (fun _ h9 => h9) rfl dX6_findWays_157 ?_
      refine lv_iconst (v := 0) hx hb dX6_findWays_160 (by decide) ?_
      obtain ⟨hi_161, hE⟩ := ck_some hE
      refine va_iald hx hb hK hP 1 1 rfl rfl (inb_in hi_161) dX6_findWays_161 ?_
      have e_2 := Option.some.inj hE
      have e_1 := hr_2 _ e_2.symm
      have e_0 := hr_1 _ e_1.symm
      subst e_0
      rw [hQ]
      exact W.iret (v := w_t_ways_2 (0 : Int32).toNatClampNeg) hx hb hr (fun t ht _ => ⟨⟨_, (), rfl, rfl, by rw [ht]; exact hP, hD⟩, hS.F ht⟩) hS.2.2 dX6_findWays_162
    · replace hE := (if_neg c_44).symm.trans hE
      refine lv_iconst (v := 0) hx hb dX6_findWays_47 (by decide) ?_
      refine lv_istore_n (lv' := [(3, .int (0 : Int32)), (0, .ref q_t), (1, .int p1), (2, .int v2_2)]) hx hb dX6_findWays_48 rfl hl (by decide) rfl (fun ls hl => ?_)
      refine itr_ind (fun (x3 : Int32 × (Nat → Int32)) => ∀ (H : Heap) (locs : List Loc) (ls : Array Slot), va_P G.1 vwCl [oX6 q_t t_length q_t_text t_size q_t_sign t_otherSize q_t_other q_t_before t_undoMany t_readSize q_t_read q_t_side q_t_tall q_t_endRow q_t_endColumn q_t_endSide q_t_gone t_lineRow t_lineColumn t_lineSide t_lineMany q_t_ways q_t_codes q_t_many, aI (G.2 1) q_t_ways 448 x3.2] H → va_D A [oX6 q_t t_length q_t_text t_size q_t_sign t_otherSize q_t_other q_t_before t_undoMany t_readSize q_t_read q_t_side q_t_tall q_t_endRow q_t_endColumn q_t_endSide q_t_gone t_lineRow t_lineColumn t_lineSide t_lineMany q_t_ways q_t_codes q_t_many, aI (G.2 1) q_t_ways 448 x3.2] → va_S A s.heap H locs → lv_has ls 5 [(0, .ref q_t), (1, .int p1), (2, .int v2_2), (3, .int x3.1)] → W p l e (headSpec wsX6_findWays ({ frames := 2, cells := 0, slots := 0, locals := 50 })).room s m ([.ref q_t, .int p1] : List Value).toArray below meth c H locs 0 0 Q (F0 m 49 ls [])) (fun x3 o_3 hE ih_3 hr_3 => ?_) _ _ hE _ _ ls hP hD hS (lv_sub hl [1, 2, 3, 0] rfl)
      obtain ⟨v3_3, w_t_ways_3⟩ := x3
      try dsimp only at hE
      intro H locs ls hP hD hS hl
      try dsimp only at hP hD hl ⊢
      refine lv_iload_n hx hb dX6_findWays_49 rfl (lv_at hl 3 rfl) ?_
      refine lv_iconst (v := 1) hx hb dX6_findWays_50 (by decide) ?_
      refine lv_iload_n hx hb dX6_findWays_51 rfl (lv_at hl 1 rfl) ?_
      refine lv_ishl hx hb dX6_findWays_52 ?_
      refine lv_icmp_ge (tgt := 150) hx hb dX6_findWays_53 (by decide) (fun c_53 => ?_) (fun c_53 => ?_)
      · replace hE := (if_pos c_53).symm.trans hE
        refine lv_iinc (v := v2_2 + (-1 : Int32)) (lv' := [(2, .int (v2_2 + (-1 : Int32))), (0, .ref q_t), (1, .int p1), (3, .int v3_3)]) hx hb dX6_findWays_150 hl (k := 2) rfl rfl (by decide) rfl (fun ls hl => ?_)
        refine lv_goto (tgt := 43) hx hb dX6_findWays_153 (by decide) ?_
        have e_3 := Option.some.inj hE
        have e_2 := hr_3 _ e_3.symm
        exact ih_2 _ e_2.symm _ _ ls hP hD hS (lv_sub hl [1, 2, 0] rfl)
      · replace hE := (if_neg c_53).symm.trans hE
        refine lv_aload_n hx hb dX6_findWays_56 rfl (lv_at hl 0 rfl) ?_
        refine va_get (D := G.1) (ci := 6) (v := .ref q_t_ways) (C := RX6) (T := TX6) (N := 23) hx hb hts iX6 hown hK hP 0 rfl rfl 20 (by decide) fl_44 (fun _ h9 => h9) rfl dX6_findWays_57 ?_
        refine lv_bipush (v := 64) hx hb dX6_findWays_60 (by decide) ?_
        refine lv_iload_n hx hb dX6_findWays_62 rfl (lv_at hl 2 rfl) ?_
        refine lv_imul hx hb dX6_findWays_63 ?_
        refine lv_iload_n hx hb dX6_findWays_64 rfl (lv_at hl 3 rfl) ?_
        refine lv_iadd hx hb dX6_findWays_65 ?_
        refine lv_iconst (v := 0) hx hb dX6_findWays_66 (by decide) ?_
        obtain ⟨hi_67, hE⟩ := ck_some hE
        refine va_iast hx hb hK hP hD hS 1 1 rfl rfl (inb_in hi_67) dX6_findWays_67 (fun H locs hP hD hS => ?_)
        have hP : va_P G.1 vwCl [oX6 q_t t_length q_t_text t_size q_t_sign t_otherSize q_t_other q_t_before t_undoMany t_readSize q_t_read q_t_side q_t_tall q_t_endRow q_t_endColumn q_t_endSide q_t_gone t_lineRow t_lineColumn t_lineSide t_lineMany q_t_ways q_t_codes q_t_many, aI (G.2 1) q_t_ways 448 (upd w_t_ways_3 (((64 : Int32) * v2_2) + v3_3).toNatClampNeg (0 : Int32))] H := hP
        have hD : va_D A [oX6 q_t t_length q_t_text t_size q_t_sign t_otherSize q_t_other q_t_before t_undoMany t_readSize q_t_read q_t_side q_t_tall q_t_endRow q_t_endColumn q_t_endSide q_t_gone t_lineRow t_lineColumn t_lineSide t_lineMany q_t_ways q_t_codes q_t_many, aI (G.2 1) q_t_ways 448 (upd w_t_ways_3 (((64 : Int32) * v2_2) + v3_3).toNatClampNeg (0 : Int32))] := hD
        refine lv_iconst (v := 0) hx hb dX6_findWays_68 (by decide) ?_
        refine lv_istore (lv' := [(4, .int (0 : Int32)), (0, .ref q_t), (1, .int p1), (2, .int v2_2), (3, .int v3_3)]) hx hb dX6_findWays_69 hl (by decide) rfl (fun ls hl => ?_)
        refine itr_ind (fun (x4 : Int32 × (Nat → Int32)) => ∀ (H : Heap) (locs : List Loc) (ls : Array Slot), va_P G.1 vwCl [oX6 q_t t_length q_t_text t_size q_t_sign t_otherSize q_t_other q_t_before t_undoMany t_readSize q_t_read q_t_side q_t_tall q_t_endRow q_t_endColumn q_t_endSide q_t_gone t_lineRow t_lineColumn t_lineSide t_lineMany q_t_ways q_t_codes q_t_many, aI (G.2 1) q_t_ways 448 x4.2] H → va_D A [oX6 q_t t_length q_t_text t_size q_t_sign t_otherSize q_t_other q_t_before t_undoMany t_readSize q_t_read q_t_side q_t_tall q_t_endRow q_t_endColumn q_t_endSide q_t_gone t_lineRow t_lineColumn t_lineSide t_lineMany q_t_ways q_t_codes q_t_many, aI (G.2 1) q_t_ways 448 x4.2] → va_S A s.heap H locs → lv_has ls 5 [(0, .ref q_t), (1, .int p1), (2, .int v2_2), (3, .int v3_3), (4, .int x4.1)] → W p l e (headSpec wsX6_findWays ({ frames := 2, cells := 0, slots := 0, locals := 50 })).room s m ([.ref q_t, .int p1] : List Value).toArray below meth c H locs 0 0 Q (F0 m 71 ls [])) (fun x4 o_4 hE ih_4 hr_4 => ?_) _ _ hE _ _ ls hP hD hS (lv_sub hl [1, 2, 3, 4, 0] rfl)
        obtain ⟨v4_4, w_t_ways_4⟩ := x4
        try dsimp only at hE
        intro H locs ls hP hD hS hl
        try dsimp only at hP hD hl ⊢
        refine lv_iload hx hb dX6_findWays_71 (lv_at hl 4 rfl) ?_
        refine lv_iconst (v := 1) hx hb dX6_findWays_73 (by decide) ?_
        refine lv_iload_n hx hb dX6_findWays_74 rfl (lv_at hl 1 rfl) ?_
        refine lv_ishl hx hb dX6_findWays_75 ?_
        refine lv_icmp_ge (tgt := 144) hx hb dX6_findWays_76 (by decide) (fun c_76 => ?_) (fun c_76 => ?_)
        · replace hE := (if_pos c_76).symm.trans hE
          refine lv_iinc (v := v3_3 + (1 : Int32)) (lv' := [(3, .int (v3_3 + (1 : Int32))), (0, .ref q_t), (1, .int p1), (2, .int v2_2), (4, .int v4_4)]) hx hb dX6_findWays_144 hl (k := 3) rfl rfl (by decide) rfl (fun ls hl => ?_)
          refine lv_goto (tgt := 49) hx hb dX6_findWays_147 (by decide) ?_
          have e_4 := Option.some.inj hE
          have e_3 := hr_4 _ e_4.symm
          exact ih_3 _ e_3.symm _ _ ls hP hD hS (lv_sub hl [1, 2, 3, 0] rfl)
        · replace hE := (if_neg c_76).symm.trans hE
          refine lv_aload_n hx hb dX6_findWays_79 rfl (lv_at hl 0 rfl) ?_
          refine va_get (D := G.1) (ci := 6) (v := .ref q_t_ways) (C := RX6) (T := TX6) (N := 23) hx hb hts iX6 hown hK hP 0 rfl rfl 20 (by decide) fl_44 (fun _ h9 => h9) rfl dX6_findWays_80 ?_
          refine lv_bipush (v := 64) hx hb dX6_findWays_83 (by decide) ?_
          refine lv_iload_n hx hb dX6_findWays_85 rfl (lv_at hl 2 rfl) ?_
          refine lv_imul hx hb dX6_findWays_86 ?_
          refine lv_iload_n hx hb dX6_findWays_87 rfl (lv_at hl 3 rfl) ?_
          refine lv_iadd hx hb dX6_findWays_88 ?_
          refine lv_dup2_11 hx hb dX6_findWays_89 rfl rfl ?_
          obtain ⟨hi_90, hE⟩ := ck_some hE
          refine va_iald hx hb hK hP 1 1 rfl rfl (inb_in hi_90) dX6_findWays_90 ?_
          refine lv_aload_n hx hb dX6_findWays_91 rfl (lv_at hl 0 rfl) ?_
          refine va_get (D := G.1) (ci := 6) (v := .ref q_t_ways) (C := RX6) (T := TX6) (N := 23) hx hb hts iX6 hown hK hP 0 rfl rfl 20 (by decide) fl_44 (fun _ h9 => h9) rfl dX6_findWays_92 ?_
          refine lv_bipush (v := 64) hx hb dX6_findWays_95 (by decide) ?_
          refine lv_iload_n hx hb dX6_findWays_97 rfl (lv_at hl 2 rfl) ?_
          refine lv_iconst (v := 1) hx hb dX6_findWays_98 (by decide) ?_
          refine lv_iadd hx hb dX6_findWays_99 ?_
          refine lv_imul hx hb dX6_findWays_100 ?_
          refine lv_iload hx hb dX6_findWays_101 (lv_at hl 4 rfl) ?_
          refine lv_iadd hx hb dX6_findWays_103 ?_
          obtain ⟨hi_104, hE⟩ := ck_some hE
          refine va_iald hx hb hK hP 1 1 rfl rfl (inb_in hi_104) dX6_findWays_104 ?_
          refine lv_if_le (tgt := 135) hx hb dX6_findWays_105 (by decide) (fun c_105 => ?_) (fun c_105 => ?_)
          · replace hE := (if_pos c_105).symm.trans hE
            refine lv_iconst (v := 0) hx hb dX6_findWays_135 (by decide) ?_
            refine lv_iadd hx hb dX6_findWays_136 ?_
            obtain ⟨hi_137, hE⟩ := ck_some hE
            refine va_iast hx hb hK hP hD hS 1 1 rfl rfl (inb_in hi_137) dX6_findWays_137 (fun H locs hP hD hS => ?_)
            have hP : va_P G.1 vwCl [oX6 q_t t_length q_t_text t_size q_t_sign t_otherSize q_t_other q_t_before t_undoMany t_readSize q_t_read q_t_side q_t_tall q_t_endRow q_t_endColumn q_t_endSide q_t_gone t_lineRow t_lineColumn t_lineSide t_lineMany q_t_ways q_t_codes q_t_many, aI (G.2 1) q_t_ways 448 (upd w_t_ways_4 (((64 : Int32) * v2_2) + v3_3).toNatClampNeg ((w_t_ways_4 (((64 : Int32) * v2_2) + v3_3).toNatClampNeg) + (0 : Int32)))] H := hP
            have hD : va_D A [oX6 q_t t_length q_t_text t_size q_t_sign t_otherSize q_t_other q_t_before t_undoMany t_readSize q_t_read q_t_side q_t_tall q_t_endRow q_t_endColumn q_t_endSide q_t_gone t_lineRow t_lineColumn t_lineSide t_lineMany q_t_ways q_t_codes q_t_many, aI (G.2 1) q_t_ways 448 (upd w_t_ways_4 (((64 : Int32) * v2_2) + v3_3).toNatClampNeg ((w_t_ways_4 (((64 : Int32) * v2_2) + v3_3).toNatClampNeg) + (0 : Int32)))] := hD
            obtain ⟨z_137, ez9⟩ : ∃ w, w = upd w_t_ways_4 (((64 : Int32) * v2_2) + v3_3).toNatClampNeg ((w_t_ways_4 (((64 : Int32) * v2_2) + v3_3).toNatClampNeg) + (0 : Int32)) := ⟨_, rfl⟩
            rw [← ez9] at hE hP hD
            replace hE := bs_some hE
            try dsimp only at hE
            clear ez9
            refine lv_iinc (v := v4_4 + (1 : Int32)) (lv' := [(4, .int (v4_4 + (1 : Int32))), (0, .ref q_t), (1, .int p1), (2, .int v2_2), (3, .int v3_3)]) hx hb dX6_findWays_138 hl (k := 4) rfl rfl (by decide) rfl (fun ls hl => ?_)
            refine lv_goto (tgt := 71) hx hb dX6_findWays_141 (by decide) ?_
            have e_4 := Option.some.inj hE
            exact ih_4 _ e_4.symm _ _ ls hP hD hS (lv_sub hl [1, 2, 3, 4, 0] rfl)
          · replace hE := (if_neg c_105).symm.trans hE
            refine lv_iload_n hx hb dX6_findWays_108 rfl (lv_at hl 1 rfl) ?_
            refine lv_iload_n hx hb dX6_findWays_109 rfl (lv_at hl 3 rfl) ?_
            refine lv_iload hx hb dX6_findWays_110 (lv_at hl 4 rfl) ?_
            obtain ⟨y112, hC_112, hE⟩ := Option.bind_eq_some_iff.mp hE
            obtain ⟨r_112, ex9⟩ : ∃ z, z = y112 := ⟨_, rfl⟩
            subst ex9
            try dsimp only at hE
            refine vp_callSi (va_Run.run (va_runS (As := [.int p1, .int v3_3, .int v4_4]) (rest := [.int (w_t_ways_4 (((64 : Int32) * v2_2) + v3_3).toNatClampNeg), .int (((64 : Int32) * v2_2) + v3_3), .ref q_t_ways]) ⟨hx, hb, hml, hown, hts⟩ (c_X6_leads (l := l) (G := G) (p1 := p1) (p2 := v3_3) (p3 := v4_4) hC_112) (va_cwS 3 hts gX6_findWays_X6_leads rfl rfl rfl kd_X6_leads ⟨Nat.le_of_ble_eq_true rfl, Nat.le_of_ble_eq_true rfl⟩) (pv_S hKW (hP.sub (ws' := []) [] rfl)) rfl rfl hl.1 rfl (lv_room (Nat.le_of_ble_eq_true rfl)) dX6_findWays_112 ⟨Nat.zero_le _, Nat.zero_le _⟩)) (fun r9 hr9 => ?_)
            subst r9
            refine lv_if_eq (tgt := 135) hx hb dX6_findWays_115 (by decide) (fun c_115 => ?_) (fun c_115 => ?_)
            · replace hE := (if_pos c_115).symm.trans hE
              refine lv_iconst (v := 0) hx hb dX6_findWays_135 (by decide) ?_
              refine lv_iadd hx hb dX6_findWays_136 ?_
              obtain ⟨hi_137, hE⟩ := ck_some hE
              refine va_iast hx hb hK hP hD hS 1 1 rfl rfl (inb_in hi_137) dX6_findWays_137 (fun H locs hP hD hS => ?_)
              have hP : va_P G.1 vwCl [oX6 q_t t_length q_t_text t_size q_t_sign t_otherSize q_t_other q_t_before t_undoMany t_readSize q_t_read q_t_side q_t_tall q_t_endRow q_t_endColumn q_t_endSide q_t_gone t_lineRow t_lineColumn t_lineSide t_lineMany q_t_ways q_t_codes q_t_many, aI (G.2 1) q_t_ways 448 (upd w_t_ways_4 (((64 : Int32) * v2_2) + v3_3).toNatClampNeg ((w_t_ways_4 (((64 : Int32) * v2_2) + v3_3).toNatClampNeg) + (0 : Int32)))] H := hP
              have hD : va_D A [oX6 q_t t_length q_t_text t_size q_t_sign t_otherSize q_t_other q_t_before t_undoMany t_readSize q_t_read q_t_side q_t_tall q_t_endRow q_t_endColumn q_t_endSide q_t_gone t_lineRow t_lineColumn t_lineSide t_lineMany q_t_ways q_t_codes q_t_many, aI (G.2 1) q_t_ways 448 (upd w_t_ways_4 (((64 : Int32) * v2_2) + v3_3).toNatClampNeg ((w_t_ways_4 (((64 : Int32) * v2_2) + v3_3).toNatClampNeg) + (0 : Int32)))] := hD
              obtain ⟨z_137, ez9⟩ : ∃ w, w = upd w_t_ways_4 (((64 : Int32) * v2_2) + v3_3).toNatClampNeg ((w_t_ways_4 (((64 : Int32) * v2_2) + v3_3).toNatClampNeg) + (0 : Int32)) := ⟨_, rfl⟩
              rw [← ez9] at hE hP hD
              replace hE := bs_some hE
              try dsimp only at hE
              clear ez9
              refine lv_iinc (v := v4_4 + (1 : Int32)) (lv' := [(4, .int (v4_4 + (1 : Int32))), (0, .ref q_t), (1, .int p1), (2, .int v2_2), (3, .int v3_3)]) hx hb dX6_findWays_138 hl (k := 4) rfl rfl (by decide) rfl (fun ls hl => ?_)
              refine lv_goto (tgt := 71) hx hb dX6_findWays_141 (by decide) ?_
              have e_4 := Option.some.inj hE
              exact ih_4 _ e_4.symm _ _ ls hP hD hS (lv_sub hl [1, 2, 3, 4, 0] rfl)
            · replace hE := (if_neg c_115).symm.trans hE
              refine lv_aload_n hx hb dX6_findWays_118 rfl (lv_at hl 0 rfl) ?_
              refine va_get (D := G.1) (ci := 6) (v := .ref q_t_ways) (C := RX6) (T := TX6) (N := 23) hx hb hts iX6 hown hK hP 0 rfl rfl 20 (by decide) fl_44 (fun _ h9 => h9) rfl dX6_findWays_119 ?_
              refine lv_bipush (v := 64) hx hb dX6_findWays_122 (by decide) ?_
              refine lv_iload_n hx hb dX6_findWays_124 rfl (lv_at hl 2 rfl) ?_
              refine lv_iconst (v := 1) hx hb dX6_findWays_125 (by decide) ?_
              refine lv_iadd hx hb dX6_findWays_126 ?_
              refine lv_imul hx hb dX6_findWays_127 ?_
              refine lv_iload hx hb dX6_findWays_128 (lv_at hl 4 rfl) ?_
              refine lv_iadd hx hb dX6_findWays_130 ?_
              obtain ⟨hi_131, hE⟩ := ck_some hE
              refine va_iald hx hb hK hP 1 1 rfl rfl (inb_in hi_131) dX6_findWays_131 ?_
              refine lv_goto (tgt := 136) hx hb dX6_findWays_132 (by decide) ?_
              refine lv_iadd hx hb dX6_findWays_136 ?_
              obtain ⟨hi_137, hE⟩ := ck_some hE
              refine va_iast hx hb hK hP hD hS 1 1 rfl rfl (inb_in hi_137) dX6_findWays_137 (fun H locs hP hD hS => ?_)
              have hP : va_P G.1 vwCl [oX6 q_t t_length q_t_text t_size q_t_sign t_otherSize q_t_other q_t_before t_undoMany t_readSize q_t_read q_t_side q_t_tall q_t_endRow q_t_endColumn q_t_endSide q_t_gone t_lineRow t_lineColumn t_lineSide t_lineMany q_t_ways q_t_codes q_t_many, aI (G.2 1) q_t_ways 448 (upd w_t_ways_4 (((64 : Int32) * v2_2) + v3_3).toNatClampNeg ((w_t_ways_4 (((64 : Int32) * v2_2) + v3_3).toNatClampNeg) + (w_t_ways_4 (((64 : Int32) * (v2_2 + (1 : Int32))) + v4_4).toNatClampNeg)))] H := hP
              have hD : va_D A [oX6 q_t t_length q_t_text t_size q_t_sign t_otherSize q_t_other q_t_before t_undoMany t_readSize q_t_read q_t_side q_t_tall q_t_endRow q_t_endColumn q_t_endSide q_t_gone t_lineRow t_lineColumn t_lineSide t_lineMany q_t_ways q_t_codes q_t_many, aI (G.2 1) q_t_ways 448 (upd w_t_ways_4 (((64 : Int32) * v2_2) + v3_3).toNatClampNeg ((w_t_ways_4 (((64 : Int32) * v2_2) + v3_3).toNatClampNeg) + (w_t_ways_4 (((64 : Int32) * (v2_2 + (1 : Int32))) + v4_4).toNatClampNeg)))] := hD
              obtain ⟨z_137, ez9⟩ : ∃ w, w = upd w_t_ways_4 (((64 : Int32) * v2_2) + v3_3).toNatClampNeg ((w_t_ways_4 (((64 : Int32) * v2_2) + v3_3).toNatClampNeg) + (w_t_ways_4 (((64 : Int32) * (v2_2 + (1 : Int32))) + v4_4).toNatClampNeg)) := ⟨_, rfl⟩
              rw [← ez9] at hE hP hD
              replace hE := bs_some hE
              try dsimp only at hE
              clear ez9
              refine lv_iinc (v := v4_4 + (1 : Int32)) (lv' := [(4, .int (v4_4 + (1 : Int32))), (0, .ref q_t), (1, .int p1), (2, .int v2_2), (3, .int v3_3)]) hx hb dX6_findWays_138 hl (k := 4) rfl rfl (by decide) rfl (fun ls hl => ?_)
              refine lv_goto (tgt := 71) hx hb dX6_findWays_141 (by decide) ?_
              have e_4 := Option.some.inj hE
              exact ih_4 _ e_4.symm _ _ ls hP hD hS (lv_sub hl [1, 2, 3, 4, 0] rfl)
  · replace hE := (if_neg c_5).symm.trans hE
    refine lv_aload_n hx hb dX6_findWays_8 rfl (lv_at hl 0 rfl) ?_
    refine va_get (D := G.1) (ci := 6) (v := .ref q_t_ways) (C := RX6) (T := TX6) (N := 23) hx hb hts iX6 hown hK hP 0 rfl rfl 20 (by decide) fl_44 (fun _ h9 => h9) rfl dX6_findWays_9 ?_
    refine lv_bipush (v := 64) hx hb dX6_findWays_12 (by decide) ?_
    refine lv_iload_n hx hb dX6_findWays_14 rfl (lv_at hl 1 rfl) ?_
    refine lv_imul hx hb dX6_findWays_15 ?_
    refine lv_iload_n hx hb dX6_findWays_16 rfl (lv_at hl 2 rfl) ?_
    refine lv_iadd hx hb dX6_findWays_17 ?_
    refine lv_iload_n hx hb dX6_findWays_18 rfl (lv_at hl 2 rfl) ?_
    refine lv_iconst (v := 1) hx hb dX6_findWays_19 (by decide) ?_
    refine lv_iload_n hx hb dX6_findWays_20 rfl (lv_at hl 1 rfl) ?_
    refine lv_ishl hx hb dX6_findWays_21 ?_
    refine lv_iconst (v := 1) hx hb dX6_findWays_22 (by decide) ?_
    refine lv_isub hx hb dX6_findWays_23 ?_
    refine lv_icmp_ne (tgt := 31) hx hb dX6_findWays_24 (by decide) (fun c_24 => ?_) (fun c_24 => ?_)
    · replace hE := (if_neg c_24).symm.trans hE
      refine lv_iconst (v := 0) hx hb dX6_findWays_31 (by decide) ?_
      obtain ⟨hi_32, hE⟩ := ck_some hE
      refine va_iast hx hb hK hP hD hS 1 1 rfl rfl (inb_in hi_32) dX6_findWays_32 (fun H locs hP hD hS => ?_)
      have hP : va_P G.1 vwCl [oX6 q_t t_length q_t_text t_size q_t_sign t_otherSize q_t_other q_t_before t_undoMany t_readSize q_t_read q_t_side q_t_tall q_t_endRow q_t_endColumn q_t_endSide q_t_gone t_lineRow t_lineColumn t_lineSide t_lineMany q_t_ways q_t_codes q_t_many, aI (G.2 1) q_t_ways 448 (upd w_t_ways_1 (((64 : Int32) * p1) + v2_1).toNatClampNeg (0 : Int32))] H := hP
      have hD : va_D A [oX6 q_t t_length q_t_text t_size q_t_sign t_otherSize q_t_other q_t_before t_undoMany t_readSize q_t_read q_t_side q_t_tall q_t_endRow q_t_endColumn q_t_endSide q_t_gone t_lineRow t_lineColumn t_lineSide t_lineMany q_t_ways q_t_codes q_t_many, aI (G.2 1) q_t_ways 448 (upd w_t_ways_1 (((64 : Int32) * p1) + v2_1).toNatClampNeg (0 : Int32))] := hD
      refine lv_iinc (v := v2_1 + (1 : Int32)) (lv' := [(2, .int (v2_1 + (1 : Int32))), (0, .ref q_t), (1, .int p1)]) hx hb dX6_findWays_33 hl (k := 2) rfl rfl (by decide) rfl (fun ls hl => ?_)
      refine lv_goto (tgt := 2) hx hb dX6_findWays_36 (by decide) ?_
      have e_1 := Option.some.inj hE
      exact ih_1 _ e_1.symm _ _ ls hP hD hS (lv_sub hl [1, 2, 0] rfl)
    · replace hE := (if_pos c_24).symm.trans hE
      refine lv_iconst (v := 1) hx hb dX6_findWays_27 (by decide) ?_
      refine lv_goto (tgt := 32) hx hb dX6_findWays_28 (by decide) ?_
      obtain ⟨hi_32, hE⟩ := ck_some hE
      refine va_iast hx hb hK hP hD hS 1 1 rfl rfl (inb_in hi_32) dX6_findWays_32 (fun H locs hP hD hS => ?_)
      have hP : va_P G.1 vwCl [oX6 q_t t_length q_t_text t_size q_t_sign t_otherSize q_t_other q_t_before t_undoMany t_readSize q_t_read q_t_side q_t_tall q_t_endRow q_t_endColumn q_t_endSide q_t_gone t_lineRow t_lineColumn t_lineSide t_lineMany q_t_ways q_t_codes q_t_many, aI (G.2 1) q_t_ways 448 (upd w_t_ways_1 (((64 : Int32) * p1) + v2_1).toNatClampNeg (1 : Int32))] H := hP
      have hD : va_D A [oX6 q_t t_length q_t_text t_size q_t_sign t_otherSize q_t_other q_t_before t_undoMany t_readSize q_t_read q_t_side q_t_tall q_t_endRow q_t_endColumn q_t_endSide q_t_gone t_lineRow t_lineColumn t_lineSide t_lineMany q_t_ways q_t_codes q_t_many, aI (G.2 1) q_t_ways 448 (upd w_t_ways_1 (((64 : Int32) * p1) + v2_1).toNatClampNeg (1 : Int32))] := hD
      refine lv_iinc (v := v2_1 + (1 : Int32)) (lv' := [(2, .int (v2_1 + (1 : Int32))), (0, .ref q_t), (1, .int p1)]) hx hb dX6_findWays_33 hl (k := 2) rfl rfl (by decide) rfl (fun ls hl => ?_)
      refine lv_goto (tgt := 2) hx hb dX6_findWays_36 (by decide) ?_
      have e_1 := Option.some.inj hE
      exact ih_1 _ e_1.symm _ _ ls hP hD hS (lv_sub hl [1, 2, 0] rfl)
def S_X6_isAhead (p1 : Int32) (p2 : Int32) (p3 : Int32) : Option Int32 := itr (fun (x1 : Int32) => jn (if (6 : Int32) ≤ x1 then some (.inl x1) else (S_X6_signOf p1 p2 x1).bind (fun (y11 : Int32) => (S_X6_signOf p1 p3 x1).bind (fun (y17 : Int32) => if y11 = y17 then some (.inr (.inl (x1 + (1 : Int32)))) else some (.inl x1)))) (fun (x2 : Int32) => if (6 : Int32) ≤ x2 then some (.inr (0 : Int32)) else (S_X6_signOf p1 p2 x2).bind (fun (y38 : Int32) => (S_X6_signOf p1 p3 x2).bind (fun (y44 : Int32) => if y38 ≤ y44 then some (.inr (0 : Int32)) else some (.inr (1 : Int32)))))) 10000 (0 : Int32)
theorem kd_X6_isAhead : yX6_isAhead.cls ≠ "java/lang/invoke/MethodHandle" ∧ yX6_isAhead.cls ≠ "java/lang/invoke/VarHandle" ∧ (parseMethodDescriptor yX6_isAhead.desc).map (fun d => d.parameters.length) = some 3 := by decide +kernel
set_option maxHeartbeats 4000000 in
set_option maxRecDepth 100000 in
theorem c_X6_isAhead {l : Launch} {G : kG} {p1 : Int32} {p2 : Int32} {p3 : Int32} {res : Int32} (hE : S_X6_isAhead p1 p2 p3 = some res) : Met l yX6_isAhead wsX6_isAhead ({ frames := 1, cells := 0, slots := 0, locals := 22 }) (va_Pc [.int p1, .int p2, .int p3] (fun U => va_P G.1 vwCl [] U.heap ∧ kw G U)) (vp_Si (fun r => r = res)) 0 0 (fun _ => False) := by
  refine Met.ofQ (cc := cX6_isAhead) (maxL := 4) (ret := (some .boolean)) (by decide) rfl ?_
  intro p e s m args below meth c s₁ Q hQ B hml hv
  obtain ⟨rfl, hP, hKW⟩ := hv
  have hK := hKW.1
  have hx := B.exec
  have hb := B.bytes
  have hr := B.returns
  have hts := atoms_spec (ws := wsX6_isAhead) B.pre
  have hown : s.vm.findClass RX6 = some m.cls := findClass_of_methodNamed B.named
  have hlocks := B.notSynchronized
  have hl := lv_entry ([.int p1, .int p2, .int p3]) (n := 4) (Nat.le_of_ble_eq_true rfl)
  rw [lg_entry_eq]
  generalize (lg_sl ([.int p1, .int p2, .int p3]) ++ List.replicate (4 - (lg_sl ([.int p1, .int p2, .int p3])).length) Slot.unset).toArray = ls at hl ⊢
  have hl : lv_has ls 4 [(0, .int p1), (1, .int p2), (2, .int p3)] := hl
  unfold S_X6_isAhead at hE
  refine lv_iconst (v := 0) hx hb dX6_isAhead_0 (by decide) ?_
  refine lv_istore_n (lv' := [(3, .int (0 : Int32)), (0, .int p1), (1, .int p2), (2, .int p3)]) hx hb dX6_isAhead_1 rfl hl (by decide) rfl (fun ls hl => ?_)
  refine itr_ind (fun (x1 : Int32) => ∀ (ls : Array Slot), lv_has ls 4 [(0, .int p1), (1, .int p2), (2, .int p3), (3, .int x1)] → W p l e (headSpec wsX6_isAhead ({ frames := 1, cells := 0, slots := 0, locals := 22 })).room s m ([.int p1, .int p2, .int p3] : List Value).toArray below meth c s.heap [] 0 0 Q (F0 m 2 ls [])) (fun x1 o_1 hE ih_1 hr_1 => ?_) _ _ hE ls (lv_sub hl [1, 2, 3, 0] rfl)
  obtain ⟨v3_1, ex9⟩ : ∃ z, z = x1 := ⟨_, rfl⟩
  subst ex9
  try dsimp only at hE
  intro ls hl
  try dsimp only at hl ⊢
  refine lv_iload_n hx hb dX6_isAhead_2 rfl (lv_at hl 3 rfl) ?_
  refine lv_bipush (v := 6) hx hb dX6_isAhead_3 (by decide) ?_
  obtain ⟨o_2, hEp, hk9, hr_2⟩ := jn_some hE
  have ih_2 : ∀ (x2 : Int32), o_2 = .inl x2 → ∀ (ls : Array Slot), lv_has ls 4 [(0, .int p1), (1, .int p2), (2, .int p3), (3, .int x2)] → W p l e (headSpec wsX6_isAhead ({ frames := 1, cells := 0, slots := 0, locals := 22 })).room s m ([.int p1, .int p2, .int p3] : List Value).toArray below meth c s.heap [] 0 0 Q (F0 m 29 ls []) := by
    intro x2 ho9
    have hE := hk9 _ ho9
    obtain ⟨v3_2, ex9⟩ : ∃ z, z = x2 := ⟨_, rfl⟩
    subst ex9
    try dsimp only at hE
    intro ls hl
    try dsimp only at hl ⊢
    refine lv_iload_n hx hb dX6_isAhead_29 rfl (lv_at hl 3 rfl) ?_
    refine lv_bipush (v := 6) hx hb dX6_isAhead_30 (by decide) ?_
    refine lv_icmp_ge (tgt := 54) hx hb dX6_isAhead_32 (by decide) (fun c_32 => ?_) (fun c_32 => ?_)
    · replace hE := (if_pos c_32).symm.trans hE
      refine lv_iconst (v := 0) hx hb dX6_isAhead_54 (by decide) ?_
      have e_1 := Option.some.inj hE
      have e_0 := hr_1 _ e_1.symm
      rw [hQ]
      exact W.zret (v := (0 : Int32)) hx hb hr rfl (fun t ht _ => ⟨_, rfl, e_0, ht⟩) (fun q h => by cases h) dX6_isAhead_55
    · replace hE := (if_neg c_32).symm.trans hE
      refine lv_iload_n hx hb dX6_isAhead_35 rfl (lv_at hl 0 rfl) ?_
      refine lv_iload_n hx hb dX6_isAhead_36 rfl (lv_at hl 1 rfl) ?_
      refine lv_iload_n hx hb dX6_isAhead_37 rfl (lv_at hl 3 rfl) ?_
      obtain ⟨y38, hC_38, hE⟩ := Option.bind_eq_some_iff.mp hE
      obtain ⟨r_38, ex9⟩ : ∃ z, z = y38 := ⟨_, rfl⟩
      subst ex9
      try dsimp only at hE
      refine vp_callSi (va_Run.run (va_runS (As := [.int p1, .int p2, .int v3_2]) (rest := []) ⟨hx, hb, hml, hown, hts⟩ (c_X6_signOf (l := l) (G := G) (p1 := p1) (p2 := p2) (p3 := v3_2) hC_38) (va_cwS 3 hts gX6_isAhead_X6_signOf rfl rfl rfl kd_X6_signOf ⟨Nat.le_of_ble_eq_true rfl, Nat.le_of_ble_eq_true rfl⟩) (pv_S hKW (hP.sub (ws' := []) [] rfl)) rfl rfl hl.1 rfl (lv_room (Nat.le_of_ble_eq_true rfl)) dX6_isAhead_38 ⟨Nat.zero_le _, Nat.zero_le _⟩)) (fun r9 hr9 => ?_)
      subst r9
      refine lv_iload_n hx hb dX6_isAhead_41 rfl (lv_at hl 0 rfl) ?_
      refine lv_iload_n hx hb dX6_isAhead_42 rfl (lv_at hl 2 rfl) ?_
      refine lv_iload_n hx hb dX6_isAhead_43 rfl (lv_at hl 3 rfl) ?_
      obtain ⟨y44, hC_44, hE⟩ := Option.bind_eq_some_iff.mp hE
      obtain ⟨r_44, ex9⟩ : ∃ z, z = y44 := ⟨_, rfl⟩
      subst ex9
      try dsimp only at hE
      refine vp_callSi (va_Run.run (va_runS (As := [.int p1, .int p3, .int v3_2]) (rest := [.int r_38]) ⟨hx, hb, hml, hown, hts⟩ (c_X6_signOf (l := l) (G := G) (p1 := p1) (p2 := p3) (p3 := v3_2) hC_44) (va_cwS 3 hts gX6_isAhead_X6_signOf rfl rfl rfl kd_X6_signOf ⟨Nat.le_of_ble_eq_true rfl, Nat.le_of_ble_eq_true rfl⟩) (pv_S hKW (hP.sub (ws' := []) [] rfl)) rfl rfl hl.1 rfl (lv_room (Nat.le_of_ble_eq_true rfl)) dX6_isAhead_44 ⟨Nat.zero_le _, Nat.zero_le _⟩)) (fun r9 hr9 => ?_)
      subst r9
      refine lv_icmp_le (tgt := 54) hx hb dX6_isAhead_47 (by decide) (fun c_47 => ?_) (fun c_47 => ?_)
      · replace hE := (if_pos c_47).symm.trans hE
        refine lv_iconst (v := 0) hx hb dX6_isAhead_54 (by decide) ?_
        have e_1 := Option.some.inj hE
        have e_0 := hr_1 _ e_1.symm
        rw [hQ]
        exact W.zret (v := (0 : Int32)) hx hb hr rfl (fun t ht _ => ⟨_, rfl, e_0, ht⟩) (fun q h => by cases h) dX6_isAhead_55
      · replace hE := (if_neg c_47).symm.trans hE
        refine lv_iconst (v := 1) hx hb dX6_isAhead_50 (by decide) ?_
        refine lv_goto (tgt := 55) hx hb dX6_isAhead_51 (by decide) ?_
        have e_1 := Option.some.inj hE
        have e_0 := hr_1 _ e_1.symm
        rw [hQ]
        exact W.zret (v := (1 : Int32)) hx hb hr rfl (fun t ht _ => ⟨_, rfl, e_0, ht⟩) (fun q h => by cases h) dX6_isAhead_55
  clear hE hk9
  have hE := hEp
  clear hEp
  refine lv_icmp_ge (tgt := 29) hx hb dX6_isAhead_5 (by decide) (fun c_5 => ?_) (fun c_5 => ?_)
  · replace hE := (if_pos c_5).symm.trans hE
    have e_2 := Option.some.inj hE
    exact ih_2 _ e_2.symm ls (lv_sub hl [0, 1, 2, 3] rfl)
  · replace hE := (if_neg c_5).symm.trans hE
    refine lv_iload_n hx hb dX6_isAhead_8 rfl (lv_at hl 0 rfl) ?_
    refine lv_iload_n hx hb dX6_isAhead_9 rfl (lv_at hl 1 rfl) ?_
    refine lv_iload_n hx hb dX6_isAhead_10 rfl (lv_at hl 3 rfl) ?_
    obtain ⟨y11, hC_11, hE⟩ := Option.bind_eq_some_iff.mp hE
    obtain ⟨r_11, ex9⟩ : ∃ z, z = y11 := ⟨_, rfl⟩
    subst ex9
    try dsimp only at hE
    refine vp_callSi (va_Run.run (va_runS (As := [.int p1, .int p2, .int v3_1]) (rest := []) ⟨hx, hb, hml, hown, hts⟩ (c_X6_signOf (l := l) (G := G) (p1 := p1) (p2 := p2) (p3 := v3_1) hC_11) (va_cwS 3 hts gX6_isAhead_X6_signOf rfl rfl rfl kd_X6_signOf ⟨Nat.le_of_ble_eq_true rfl, Nat.le_of_ble_eq_true rfl⟩) (pv_S hKW (hP.sub (ws' := []) [] rfl)) rfl rfl hl.1 rfl (lv_room (Nat.le_of_ble_eq_true rfl)) dX6_isAhead_11 ⟨Nat.zero_le _, Nat.zero_le _⟩)) (fun r9 hr9 => ?_)
    subst r9
    refine lv_iload_n hx hb dX6_isAhead_14 rfl (lv_at hl 0 rfl) ?_
    refine lv_iload_n hx hb dX6_isAhead_15 rfl (lv_at hl 2 rfl) ?_
    refine lv_iload_n hx hb dX6_isAhead_16 rfl (lv_at hl 3 rfl) ?_
    obtain ⟨y17, hC_17, hE⟩ := Option.bind_eq_some_iff.mp hE
    obtain ⟨r_17, ex9⟩ : ∃ z, z = y17 := ⟨_, rfl⟩
    subst ex9
    try dsimp only at hE
    refine vp_callSi (va_Run.run (va_runS (As := [.int p1, .int p3, .int v3_1]) (rest := [.int r_11]) ⟨hx, hb, hml, hown, hts⟩ (c_X6_signOf (l := l) (G := G) (p1 := p1) (p2 := p3) (p3 := v3_1) hC_17) (va_cwS 3 hts gX6_isAhead_X6_signOf rfl rfl rfl kd_X6_signOf ⟨Nat.le_of_ble_eq_true rfl, Nat.le_of_ble_eq_true rfl⟩) (pv_S hKW (hP.sub (ws' := []) [] rfl)) rfl rfl hl.1 rfl (lv_room (Nat.le_of_ble_eq_true rfl)) dX6_isAhead_17 ⟨Nat.zero_le _, Nat.zero_le _⟩)) (fun r9 hr9 => ?_)
    subst r9
    refine lv_icmp_ne (tgt := 29) hx hb dX6_isAhead_20 (by decide) (fun c_20 => ?_) (fun c_20 => ?_)
    · replace hE := (if_neg c_20).symm.trans hE
      have e_2 := Option.some.inj hE
      exact ih_2 _ e_2.symm ls (lv_sub hl [0, 1, 2, 3] rfl)
    · replace hE := (if_pos c_20).symm.trans hE
      refine lv_iinc (v := v3_1 + (1 : Int32)) (lv' := [(3, .int (v3_1 + (1 : Int32))), (0, .int p1), (1, .int p2), (2, .int p3)]) hx hb dX6_isAhead_23 hl (k := 3) rfl rfl (by decide) rfl (fun ls hl => ?_)
      refine lv_goto (tgt := 2) hx hb dX6_isAhead_26 (by decide) ?_
      have e_2 := Option.some.inj hE
      have e_1 := hr_2 _ e_2.symm
      exact ih_1 _ e_1.symm ls (lv_sub hl [1, 2, 3, 0] rfl)
def S_X6_aheadOf (p1 : Int32) (p2 : Int32) (p3 : Int32) (p4 : Int32) (t_ways : Nat → Int32) : Option Int32 := itr (fun (x1 : Int32 × Int32) => if ((1 : Int32) <<< (p1 &&& 31)) ≤ x1.2 then some (.inr x1.1) else (S_X6_leads p1 p3 x1.2).bind (fun (y20 : Int32) => if y20 = 0 then some (.inl (x1.1 + (0 : Int32), x1.2 + (1 : Int32))) else (S_X6_isAhead p3 x1.2 p4).bind (fun (y31 : Int32) => if y31 = 0 then some (.inl (x1.1 + (0 : Int32), x1.2 + (1 : Int32))) else ck (inb (((64 : Int32) * (p2 + (1 : Int32))) + x1.2) 448) ((some (x1.1 + (t_ways (((64 : Int32) * (p2 + (1 : Int32))) + x1.2).toNatClampNeg))).bind (fun (z_56 : Int32) => some (.inl (z_56, x1.2 + (1 : Int32)))))))) 10000 ((0 : Int32), (0 : Int32))
theorem kd_X6_aheadOf : yX6_aheadOf.cls = RX6 ∧ yX6_aheadOf.cls ≠ "java/lang/invoke/MethodHandle" ∧ yX6_aheadOf.cls ≠ "java/lang/invoke/VarHandle" ∧ (parseMethodDescriptor yX6_aheadOf.desc).map (fun d => d.parameters.length) = some 4 := by decide +kernel
set_option maxHeartbeats 4000000 in
set_option maxRecDepth 100000 in
theorem c_X6_aheadOf {l : Launch} {G : kG} {p1 : Int32} {p2 : Int32} {p3 : Int32} {p4 : Int32} {q_t : Nat} {t_length : Int32} {q_t_text : Nat} {t_size : Int32} {q_t_sign : Nat} {t_otherSize : Int32} {q_t_other : Nat} {q_t_before : Nat} {t_undoMany : Int32} {t_readSize : Int32} {q_t_read : Nat} {q_t_side : Nat} {q_t_tall : Nat} {q_t_endRow : Nat} {q_t_endColumn : Nat} {q_t_endSide : Nat} {q_t_gone : Nat} {t_lineRow : Int32} {t_lineColumn : Int32} {t_lineSide : Int32} {t_lineMany : Int32} {q_t_ways : Nat} {q_t_codes : Nat} {q_t_many : Nat} {t_ways : Nat → Int32} {res : Int32} (hE : S_X6_aheadOf p1 p2 p3 p4 t_ways = some res) : Met l yX6_aheadOf wsX6_aheadOf ({ frames := 2, cells := 0, slots := 0, locals := 50 }) (va_Pc [.ref q_t, .int p1, .int p2, .int p3, .int p4] (fun U => va_P G.1 vwCl [oX6 q_t t_length q_t_text t_size q_t_sign t_otherSize q_t_other q_t_before t_undoMany t_readSize q_t_read q_t_side q_t_tall q_t_endRow q_t_endColumn q_t_endSide q_t_gone t_lineRow t_lineColumn t_lineSide t_lineMany q_t_ways q_t_codes q_t_many, aI (G.2 1) q_t_ways 448 t_ways] U.heap ∧ kw G U)) (vp_Si (fun r => r = res)) 0 0 (fun _ => False) := by
  refine Met.ofQ (cc := cX6_aheadOf) (maxL := 7) (ret := (some .int)) (by decide) rfl ?_
  intro p e s m args below meth c s₁ Q hQ B hml hv
  obtain ⟨rfl, hP, hKW⟩ := hv
  have hK := hKW.1
  have hx := B.exec
  have hb := B.bytes
  have hr := B.returns
  have hts := atoms_spec (ws := wsX6_aheadOf) B.pre
  have hown : s.vm.findClass RX6 = some m.cls := findClass_of_methodNamed B.named
  have hlocks := B.notSynchronized
  have iX6 : ∀ w ∈ u_ws RX6 TX6 23, w ∈ wsX6_aheadOf := by decide +kernel
  have fl_44 := hts (.fieldLink RX6 44 "AlternateSignsModel" "ways" "[I") (by decide +kernel)
  have hl := lv_entry ([.ref q_t, .int p1, .int p2, .int p3, .int p4]) (n := 7) (Nat.le_of_ble_eq_true rfl)
  rw [lg_entry_eq]
  generalize (lg_sl ([.ref q_t, .int p1, .int p2, .int p3, .int p4]) ++ List.replicate (7 - (lg_sl ([.ref q_t, .int p1, .int p2, .int p3, .int p4])).length) Slot.unset).toArray = ls at hl ⊢
  have hl : lv_has ls 7 [(0, .ref q_t), (1, .int p1), (2, .int p2), (3, .int p3), (4, .int p4)] := hl
  unfold S_X6_aheadOf at hE
  refine lv_iconst (v := 0) hx hb dX6_aheadOf_0 (by decide) ?_
  refine lv_istore (lv' := [(5, .int (0 : Int32)), (0, .ref q_t), (1, .int p1), (2, .int p2), (3, .int p3), (4, .int p4)]) hx hb dX6_aheadOf_1 hl (by decide) rfl (fun ls hl => ?_)
  refine lv_iconst (v := 0) hx hb dX6_aheadOf_3 (by decide) ?_
  refine lv_istore (lv' := [(6, .int (0 : Int32)), (5, .int (0 : Int32)), (0, .ref q_t), (1, .int p1), (2, .int p2), (3, .int p3), (4, .int p4)]) hx hb dX6_aheadOf_4 hl (by decide) rfl (fun ls hl => ?_)
  refine itr_ind (fun (x1 : Int32 × Int32) => ∀ (ls : Array Slot), lv_has ls 7 [(0, .ref q_t), (1, .int p1), (2, .int p2), (3, .int p3), (4, .int p4), (5, .int x1.1), (6, .int x1.2)] → W p l e (headSpec wsX6_aheadOf ({ frames := 2, cells := 0, slots := 0, locals := 50 })).room s m ([.ref q_t, .int p1, .int p2, .int p3, .int p4] : List Value).toArray below meth c s.heap [] 0 0 Q (F0 m 6 ls [])) (fun x1 o_1 hE ih_1 hr_1 => ?_) _ _ hE ls (lv_sub hl [2, 3, 4, 5, 6, 1, 0] rfl)
  obtain ⟨v5_1, v6_1⟩ := x1
  try dsimp only at hE
  intro ls hl
  try dsimp only at hl ⊢
  refine lv_iload hx hb dX6_aheadOf_6 (lv_at hl 6 rfl) ?_
  refine lv_iconst (v := 1) hx hb dX6_aheadOf_8 (by decide) ?_
  refine lv_iload_n hx hb dX6_aheadOf_9 rfl (lv_at hl 1 rfl) ?_
  refine lv_ishl hx hb dX6_aheadOf_10 ?_
  refine lv_icmp_ge (tgt := 64) hx hb dX6_aheadOf_11 (by decide) (fun c_11 => ?_) (fun c_11 => ?_)
  · replace hE := (if_pos c_11).symm.trans hE
    refine lv_iload hx hb dX6_aheadOf_64 (lv_at hl 5 rfl) ?_
    have e_1 := Option.some.inj hE
    have e_0 := hr_1 _ e_1.symm
    rw [hQ]
    exact W.iret (v := v5_1) hx hb hr (fun t ht _ => ⟨_, rfl, e_0, ht⟩) (fun q h => by cases h) dX6_aheadOf_66
  · replace hE := (if_neg c_11).symm.trans hE
    refine lv_iload hx hb dX6_aheadOf_14 (lv_at hl 5 rfl) ?_
    refine lv_iload_n hx hb dX6_aheadOf_16 rfl (lv_at hl 1 rfl) ?_
    refine lv_iload_n hx hb dX6_aheadOf_17 rfl (lv_at hl 3 rfl) ?_
    refine lv_iload hx hb dX6_aheadOf_18 (lv_at hl 6 rfl) ?_
    obtain ⟨y20, hC_20, hE⟩ := Option.bind_eq_some_iff.mp hE
    obtain ⟨r_20, ex9⟩ : ∃ z, z = y20 := ⟨_, rfl⟩
    subst ex9
    try dsimp only at hE
    refine vp_callSi (va_Run.run (va_runS (As := [.int p1, .int p3, .int v6_1]) (rest := [.int v5_1]) ⟨hx, hb, hml, hown, hts⟩ (c_X6_leads (l := l) (G := G) (p1 := p1) (p2 := p3) (p3 := v6_1) hC_20) (va_cwS 3 hts gX6_aheadOf_X6_leads rfl rfl rfl kd_X6_leads ⟨Nat.le_of_ble_eq_true rfl, Nat.le_of_ble_eq_true rfl⟩) (pv_S hKW (hP.sub (ws' := []) [] rfl)) rfl rfl hl.1 rfl (lv_room (Nat.le_of_ble_eq_true rfl)) dX6_aheadOf_20 ⟨Nat.zero_le _, Nat.zero_le _⟩)) (fun r9 hr9 => ?_)
    subst r9
    refine lv_if_eq (tgt := 54) hx hb dX6_aheadOf_23 (by decide) (fun c_23 => ?_) (fun c_23 => ?_)
    · replace hE := (if_pos c_23).symm.trans hE
      refine lv_iconst (v := 0) hx hb dX6_aheadOf_54 (by decide) ?_
      refine lv_iadd hx hb dX6_aheadOf_55 ?_
      refine lv_istore (lv' := [(5, .int (v5_1 + (0 : Int32))), (0, .ref q_t), (1, .int p1), (2, .int p2), (3, .int p3), (4, .int p4), (6, .int v6_1)]) hx hb dX6_aheadOf_56 hl (by decide) rfl (fun ls hl => ?_)
      refine lv_iinc (v := v6_1 + (1 : Int32)) (lv' := [(6, .int (v6_1 + (1 : Int32))), (5, .int (v5_1 + (0 : Int32))), (0, .ref q_t), (1, .int p1), (2, .int p2), (3, .int p3), (4, .int p4)]) hx hb dX6_aheadOf_58 hl (k := 6) rfl rfl (by decide) rfl (fun ls hl => ?_)
      refine lv_goto (tgt := 6) hx hb dX6_aheadOf_61 (by decide) ?_
      have e_1 := Option.some.inj hE
      exact ih_1 _ e_1.symm ls (lv_sub hl [2, 3, 4, 5, 6, 1, 0] rfl)
    · replace hE := (if_neg c_23).symm.trans hE
      refine lv_iload_n hx hb dX6_aheadOf_26 rfl (lv_at hl 3 rfl) ?_
      refine lv_iload hx hb dX6_aheadOf_27 (lv_at hl 6 rfl) ?_
      refine lv_iload hx hb dX6_aheadOf_29 (lv_at hl 4 rfl) ?_
      obtain ⟨y31, hC_31, hE⟩ := Option.bind_eq_some_iff.mp hE
      obtain ⟨r_31, ex9⟩ : ∃ z, z = y31 := ⟨_, rfl⟩
      subst ex9
      try dsimp only at hE
      refine vp_callSi (va_Run.run (va_runS (As := [.int p3, .int v6_1, .int p4]) (rest := [.int v5_1]) ⟨hx, hb, hml, hown, hts⟩ (c_X6_isAhead (l := l) (G := G) (p1 := p3) (p2 := v6_1) (p3 := p4) hC_31) (va_cwS 3 hts gX6_aheadOf_X6_isAhead rfl rfl rfl kd_X6_isAhead ⟨Nat.le_of_ble_eq_true rfl, Nat.le_of_ble_eq_true rfl⟩) (pv_S hKW (hP.sub (ws' := []) [] rfl)) rfl rfl hl.1 rfl (lv_room (Nat.le_of_ble_eq_true rfl)) dX6_aheadOf_31 ⟨Nat.zero_le _, Nat.zero_le _⟩)) (fun r9 hr9 => ?_)
      subst r9
      refine lv_if_eq (tgt := 54) hx hb dX6_aheadOf_34 (by decide) (fun c_34 => ?_) (fun c_34 => ?_)
      · replace hE := (if_pos c_34).symm.trans hE
        refine lv_iconst (v := 0) hx hb dX6_aheadOf_54 (by decide) ?_
        refine lv_iadd hx hb dX6_aheadOf_55 ?_
        refine lv_istore (lv' := [(5, .int (v5_1 + (0 : Int32))), (0, .ref q_t), (1, .int p1), (2, .int p2), (3, .int p3), (4, .int p4), (6, .int v6_1)]) hx hb dX6_aheadOf_56 hl (by decide) rfl (fun ls hl => ?_)
        refine lv_iinc (v := v6_1 + (1 : Int32)) (lv' := [(6, .int (v6_1 + (1 : Int32))), (5, .int (v5_1 + (0 : Int32))), (0, .ref q_t), (1, .int p1), (2, .int p2), (3, .int p3), (4, .int p4)]) hx hb dX6_aheadOf_58 hl (k := 6) rfl rfl (by decide) rfl (fun ls hl => ?_)
        refine lv_goto (tgt := 6) hx hb dX6_aheadOf_61 (by decide) ?_
        have e_1 := Option.some.inj hE
        exact ih_1 _ e_1.symm ls (lv_sub hl [2, 3, 4, 5, 6, 1, 0] rfl)
      · replace hE := (if_neg c_34).symm.trans hE
        refine lv_aload_n hx hb dX6_aheadOf_37 rfl (lv_at hl 0 rfl) ?_
        refine va_get (D := G.1) (ci := 6) (v := .ref q_t_ways) (C := RX6) (T := TX6) (N := 23) hx hb hts iX6 hown hK hP 0 rfl rfl 20 (by decide) fl_44 (fun _ h9 => h9) rfl dX6_aheadOf_38 ?_
        refine lv_bipush (v := 64) hx hb dX6_aheadOf_41 (by decide) ?_
        refine lv_iload_n hx hb dX6_aheadOf_43 rfl (lv_at hl 2 rfl) ?_
        refine lv_iconst (v := 1) hx hb dX6_aheadOf_44 (by decide) ?_
        refine lv_iadd hx hb dX6_aheadOf_45 ?_
        refine lv_imul hx hb dX6_aheadOf_46 ?_
        refine lv_iload hx hb dX6_aheadOf_47 (lv_at hl 6 rfl) ?_
        refine lv_iadd hx hb dX6_aheadOf_49 ?_
        obtain ⟨hi_50, hE⟩ := ck_some hE
        refine va_iald hx hb hK hP 1 1 rfl rfl (inb_in hi_50) dX6_aheadOf_50 ?_
        refine lv_goto (tgt := 55) hx hb dX6_aheadOf_51 (by decide) ?_
        refine lv_iadd hx hb dX6_aheadOf_55 ?_
        refine lv_topi (fun z_56 ez9 => ?_)
        rw [← ez9] at hE
        replace hE := bs_some hE
        try dsimp only at hE
        clear ez9
        refine lv_istore (lv' := [(5, .int z_56), (0, .ref q_t), (1, .int p1), (2, .int p2), (3, .int p3), (4, .int p4), (6, .int v6_1)]) hx hb dX6_aheadOf_56 hl (by decide) rfl (fun ls hl => ?_)
        refine lv_iinc (v := v6_1 + (1 : Int32)) (lv' := [(6, .int (v6_1 + (1 : Int32))), (5, .int z_56), (0, .ref q_t), (1, .int p1), (2, .int p2), (3, .int p3), (4, .int p4)]) hx hb dX6_aheadOf_58 hl (k := 6) rfl rfl (by decide) rfl (fun ls hl => ?_)
        refine lv_goto (tgt := 6) hx hb dX6_aheadOf_61 (by decide) ?_
        have e_1 := Option.some.inj hE
        exact ih_1 _ e_1.symm ls (lv_sub hl [2, 3, 4, 5, 6, 1, 0] rfl)
def S_X6_rank (t_size : Int32) (t_sign : Nat → Int32) (t_ways : Nat → Int32) : Option (Int32 × (Nat → Int32)) := (S_X6_findWays t_size t_ways).bind (fun (y5 : Int32 × (Nat → Int32)) => itr (fun (x1 : Int32 × Int32 × Int32) => if t_size ≤ x1.2.2 then some (.inr (x1.1, y5.2)) else itr (fun (x2 : Int32 × Int32) => if t_size ≤ x2.2 then (S_X6_aheadOf t_size x1.2.2 x1.2.1 x2.1 y5.2).bind (fun (y106 : Int32) => some (.inr (.inl (x1.1 + y106, x2.1, x1.2.2 + (1 : Int32))))) else ck (inb (((6 : Int32) * x1.2.2) + x2.2) 36) (if (t_sign (((6 : Int32) * x1.2.2) + x2.2).toNatClampNeg) = (1 : Int32) then some (.inl (x2.1 ||| ((1 : Int32) <<< (x2.2 &&& 31)), x2.2 + (1 : Int32))) else if (t_sign (((6 : Int32) * x1.2.2) + x2.2).toNatClampNeg) = (-1 : Int32) then some (.inl (x2.1 &&& (((1 : Int32) <<< (x2.2 &&& 31)) ^^^ (-1 : Int32)), x2.2 + (1 : Int32))) else some (.inl (x2.1, x2.2 + (1 : Int32))))) 10000 (x1.2.1, (0 : Int32))) 10000 ((0 : Int32), (0 : Int32), (0 : Int32)))
theorem kd_X6_rank : yX6_rank.cls = RX6 ∧ yX6_rank.cls ≠ "java/lang/invoke/MethodHandle" ∧ yX6_rank.cls ≠ "java/lang/invoke/VarHandle" ∧ (parseMethodDescriptor yX6_rank.desc).map (fun d => d.parameters.length) = some 0 := by decide +kernel
set_option maxHeartbeats 4000000 in
set_option maxRecDepth 100000 in
theorem c_X6_rank {l : Launch} {G : kG} (sz : Nat) {q_t : Nat} {t_length : Int32} {q_t_text : Nat} {t_size : Int32} {q_t_sign : Nat} {t_otherSize : Int32} {q_t_other : Nat} {q_t_before : Nat} {t_undoMany : Int32} {t_readSize : Int32} {q_t_read : Nat} {q_t_side : Nat} {q_t_tall : Nat} {q_t_endRow : Nat} {q_t_endColumn : Nat} {q_t_endSide : Nat} {q_t_gone : Nat} {t_lineRow : Int32} {t_lineColumn : Int32} {t_lineSide : Int32} {t_lineMany : Int32} {q_t_ways : Nat} {q_t_codes : Nat} {q_t_many : Nat} {t_sign : Nat → Int32} {t_ways : Nat → Int32} {res : Int32 × (Nat → Int32)} (hE : S_X6_rank t_size t_sign t_ways = some res) : Met l yX6_rank wsX6_rank ({ frames := 3, cells := 0, slots := 0, locals := 76 }) (va_Pc [.ref q_t] (fun U => U.heap.size = sz ∧ va_P G.1 vwCl [oX6 q_t t_length q_t_text t_size q_t_sign t_otherSize q_t_other q_t_before t_undoMany t_readSize q_t_read q_t_side q_t_tall q_t_endRow q_t_endColumn q_t_endSide q_t_gone t_lineRow t_lineColumn t_lineSide t_lineMany q_t_ways q_t_codes q_t_many, aI (G.2 1) q_t_sign 36 t_sign, aI (G.2 1) q_t_ways 448 t_ways] U.heap ∧ kw G U ∧ va_D (fun _ => True) [oX6 q_t t_length q_t_text t_size q_t_sign t_otherSize q_t_other q_t_before t_undoMany t_readSize q_t_read q_t_side q_t_tall q_t_endRow q_t_endColumn q_t_endSide q_t_gone t_lineRow t_lineColumn t_lineSide t_lineMany q_t_ways q_t_codes q_t_many, aI (G.2 1) q_t_sign 36 t_sign, aI (G.2 1) q_t_ways 448 t_ways])) (va_Qi (fun r (_ : Unit) => r = res.1) (fun _ t => va_P G.1 vwCl [oX6 q_t t_length q_t_text t_size q_t_sign t_otherSize q_t_other q_t_before t_undoMany t_readSize q_t_read q_t_side q_t_tall q_t_endRow q_t_endColumn q_t_endSide q_t_gone t_lineRow t_lineColumn t_lineSide t_lineMany q_t_ways q_t_codes q_t_many, aI (G.2 1) q_t_sign 36 t_sign, aI (G.2 1) q_t_ways 448 res.2] t.heap ∧ va_D (va_A [oX6 q_t t_length q_t_text t_size q_t_sign t_otherSize q_t_other q_t_before t_undoMany t_readSize q_t_read q_t_side q_t_tall q_t_endRow q_t_endColumn q_t_endSide q_t_gone t_lineRow t_lineColumn t_lineSide t_lineMany q_t_ways q_t_codes q_t_many, aI (G.2 1) q_t_sign 36 t_sign, aI (G.2 1) q_t_ways 448 t_ways] sz) [oX6 q_t t_length q_t_text t_size q_t_sign t_otherSize q_t_other q_t_before t_undoMany t_readSize q_t_read q_t_side q_t_tall q_t_endRow q_t_endColumn q_t_endSide q_t_gone t_lineRow t_lineColumn t_lineSide t_lineMany q_t_ways q_t_codes q_t_many, aI (G.2 1) q_t_sign 36 t_sign, aI (G.2 1) q_t_ways 448 res.2]) (va_A [oX6 q_t t_length q_t_text t_size q_t_sign t_otherSize q_t_other q_t_before t_undoMany t_readSize q_t_read q_t_side q_t_tall q_t_endRow q_t_endColumn q_t_endSide q_t_gone t_lineRow t_lineColumn t_lineSide t_lineMany q_t_ways q_t_codes q_t_many, aI (G.2 1) q_t_sign 36 t_sign, aI (G.2 1) q_t_ways 448 t_ways] sz)) 0 0 (va_A [oX6 q_t t_length q_t_text t_size q_t_sign t_otherSize q_t_other q_t_before t_undoMany t_readSize q_t_read q_t_side q_t_tall q_t_endRow q_t_endColumn q_t_endSide q_t_gone t_lineRow t_lineColumn t_lineSide t_lineMany q_t_ways q_t_codes q_t_many, aI (G.2 1) q_t_sign 36 t_sign, aI (G.2 1) q_t_ways 448 t_ways] sz) := by
  refine Met.ofQ (cc := cX6_rank) (maxL := 7) (ret := (some .int)) (by decide) rfl ?_
  intro p e s m args below meth c s₁ Q hQ B hml hv
  obtain ⟨rfl, hsz, hP, hKW, hD0⟩ := hv
  have hK := hKW.1
  have hx := B.exec
  have hb := B.bytes
  have hr := B.returns
  have hts := atoms_spec (ws := wsX6_rank) B.pre
  have hown : s.vm.findClass RX6 = some m.cls := findClass_of_methodNamed B.named
  have hlocks := B.notSynchronized
  have iX6 : ∀ w ∈ u_ws RX6 TX6 23, w ∈ wsX6_rank := by decide +kernel
  have fl_54 := hts (.fieldLink RX6 54 "AlternateSignsModel" "size" "I") (by decide +kernel)
  have fl_13 := hts (.fieldLink RX6 13 "AlternateSignsModel" "sign" "[I") (by decide +kernel)
  subst hsz
  have hD := hD0.self (sz := s.heap.size)
  generalize hAe : va_A [oX6 q_t t_length q_t_text t_size q_t_sign t_otherSize q_t_other q_t_before t_undoMany t_readSize q_t_read q_t_side q_t_tall q_t_endRow q_t_endColumn q_t_endSide q_t_gone t_lineRow t_lineColumn t_lineSide t_lineMany q_t_ways q_t_codes q_t_many, aI (G.2 1) q_t_sign 36 t_sign, aI (G.2 1) q_t_ways 448 t_ways] s.heap.size = A at hD hQ
  have hA : ∀ q : Nat, s.heap.size ≤ q → A q := fun q h => by rw [← hAe]; exact Or.inr h
  have hS : va_S A s.heap s.heap [] := va_S.rf
  have hl := lv_entry ([.ref q_t]) (n := 7) (Nat.le_of_ble_eq_true rfl)
  rw [lg_entry_eq]
  generalize (lg_sl ([.ref q_t]) ++ List.replicate (7 - (lg_sl ([.ref q_t])).length) Slot.unset).toArray = ls at hl ⊢
  have hl : lv_has ls 7 [(0, .ref q_t)] := hl
  unfold S_X6_rank at hE
  refine lv_aload_n hx hb dX6_rank_0 rfl (lv_at hl 0 rfl) ?_
  refine lv_aload_n hx hb dX6_rank_1 rfl (lv_at hl 0 rfl) ?_
  refine va_get (D := G.1) (ci := 6) (v := .int t_size) (C := RX6) (T := TX6) (N := 23) hx hb hts iX6 hown hK hP 0 rfl rfl 2 (by decide) fl_54 (fun _ h9 => h9) rfl dX6_rank_2 ?_
  obtain ⟨y5, hC_5, hE⟩ := Option.bind_eq_some_iff.mp hE
  obtain ⟨r_5, m_5_0⟩ := y5
  try dsimp only at hE
  have hPc := hP.sub (ws' := [oX6 q_t t_length q_t_text t_size q_t_sign t_otherSize q_t_other q_t_before t_undoMany t_readSize q_t_read q_t_side q_t_tall q_t_endRow q_t_endColumn q_t_endSide q_t_gone t_lineRow t_lineColumn t_lineSide t_lineMany q_t_ways q_t_codes q_t_many, aI (G.2 1) q_t_ways 448 t_ways]) [0, 2] rfl
  have hDc := hD.sub (ws' := [oX6 q_t t_length q_t_text t_size q_t_sign t_otherSize q_t_other q_t_before t_undoMany t_readSize q_t_read q_t_side q_t_tall q_t_endRow q_t_endColumn q_t_endSide q_t_gone t_lineRow t_lineColumn t_lineSide t_lineMany q_t_ways q_t_codes q_t_many, aI (G.2 1) q_t_ways 448 t_ways]) [0, 2] (by decide) rfl
  have hFc := va_free (wc := [oX6 q_t t_length q_t_text t_size q_t_sign t_otherSize q_t_other q_t_before t_undoMany t_readSize q_t_read q_t_side q_t_tall q_t_endRow q_t_endColumn q_t_endSide q_t_gone t_lineRow t_lineColumn t_lineSide t_lineMany q_t_ways q_t_codes q_t_many, aI (G.2 1) q_t_ways 448 t_ways]) hD hS hA [0, 2] rfl
  refine va_calli (va_runV (As := [.int t_size]) (rest := []) ⟨hx, hb, hml, hown, hts⟩ (c_X6_findWays (l := l) (G := G) _ (p1 := t_size) (q_t := q_t) (t_length := t_length) (q_t_text := q_t_text) (t_size := t_size) (q_t_sign := q_t_sign) (t_otherSize := t_otherSize) (q_t_other := q_t_other) (q_t_before := q_t_before) (t_undoMany := t_undoMany) (t_readSize := t_readSize) (q_t_read := q_t_read) (q_t_side := q_t_side) (q_t_tall := q_t_tall) (q_t_endRow := q_t_endRow) (q_t_endColumn := q_t_endColumn) (q_t_endSide := q_t_endSide) (q_t_gone := q_t_gone) (t_lineRow := t_lineRow) (t_lineColumn := t_lineColumn) (t_lineSide := t_lineSide) (t_lineMany := t_lineMany) (q_t_ways := q_t_ways) (q_t_codes := q_t_codes) (q_t_many := q_t_many) (t_ways := t_ways) hC_5) (cwV 1 hts gX6_rank_X6_findWays rfl rfl rfl kd_X6_findWays ⟨Nat.le_of_ble_eq_true rfl, Nat.le_of_ble_eq_true rfl⟩) (iv_V hKW hPc hDc (ci := 6) (q0 := 0) rfl rfl) rfl rfl hl.1 rfl (lv_room (Nat.le_of_ble_eq_true rfl)) dX6_rank_5 ⟨Nat.zero_le _, Nat.zero_le _⟩) hS (fun q _ h => hFc q h) hFc (fun r9 u9 t9 H1 locs ht9 hvm9 hw9 hB9 hz9 hk9 hS => ?_)
  subst r9
  obtain ⟨hP1, hD1⟩ := hB9
  rw [ht9] at hP1
  obtain ⟨hP, hD⟩ := va_join (wr := [aI (G.2 1) q_t_sign 36 t_sign]) (w1 := [oX6 q_t t_length q_t_text t_size q_t_sign t_otherSize q_t_other q_t_before t_undoMany t_readSize q_t_read q_t_side q_t_tall q_t_endRow q_t_endColumn q_t_endSide q_t_gone t_lineRow t_lineColumn t_lineSide t_lineMany q_t_ways q_t_codes q_t_many, aI (G.2 1) q_t_ways 448 m_5_0]) hP hD [0, 2] [1] rfl rfl (by decide) (by decide) hk9 hFc hP1 hD1
  have hP := hP.sub (ws' := [oX6 q_t t_length q_t_text t_size q_t_sign t_otherSize q_t_other q_t_before t_undoMany t_readSize q_t_read q_t_side q_t_tall q_t_endRow q_t_endColumn q_t_endSide q_t_gone t_lineRow t_lineColumn t_lineSide t_lineMany q_t_ways q_t_codes q_t_many, aI (G.2 1) q_t_sign 36 t_sign, aI (G.2 1) q_t_ways 448 m_5_0]) [1, 0, 2] rfl
  have hD := hD.sub (ws' := [oX6 q_t t_length q_t_text t_size q_t_sign t_otherSize q_t_other q_t_before t_undoMany t_readSize q_t_read q_t_side q_t_tall q_t_endRow q_t_endColumn q_t_endSide q_t_gone t_lineRow t_lineColumn t_lineSide t_lineMany q_t_ways q_t_codes q_t_many, aI (G.2 1) q_t_sign 36 t_sign, aI (G.2 1) q_t_ways 448 m_5_0]) [1, 0, 2] (by decide) rfl
  clear hPc hDc hFc hP1 hD1 hk9 hz9 hvm9
  refine lv_pop hx hb dX6_rank_8 rfl ?_
  refine lv_iconst (v := 0) hx hb dX6_rank_9 (by decide) ?_
  refine lv_istore_n (lv' := [(1, .int (0 : Int32)), (0, .ref q_t)]) hx hb dX6_rank_10 rfl hl (by decide) rfl (fun ls hl => ?_)
  refine lv_iconst (v := 0) hx hb dX6_rank_11 (by decide) ?_
  refine lv_istore_n (lv' := [(2, .int (0 : Int32)), (1, .int (0 : Int32)), (0, .ref q_t)]) hx hb dX6_rank_12 rfl hl (by decide) rfl (fun ls hl => ?_)
  refine lv_iconst (v := 0) hx hb dX6_rank_13 (by decide) ?_
  refine lv_istore_n (lv' := [(3, .int (0 : Int32)), (2, .int (0 : Int32)), (1, .int (0 : Int32)), (0, .ref q_t)]) hx hb dX6_rank_14 rfl hl (by decide) rfl (fun ls hl => ?_)
  refine itr_ind (fun (x1 : Int32 × Int32 × Int32) => ∀ (H : Heap) (locs : List Loc) (ls : Array Slot), va_P G.1 vwCl [oX6 q_t t_length q_t_text t_size q_t_sign t_otherSize q_t_other q_t_before t_undoMany t_readSize q_t_read q_t_side q_t_tall q_t_endRow q_t_endColumn q_t_endSide q_t_gone t_lineRow t_lineColumn t_lineSide t_lineMany q_t_ways q_t_codes q_t_many, aI (G.2 1) q_t_sign 36 t_sign, aI (G.2 1) q_t_ways 448 m_5_0] H → va_D A [oX6 q_t t_length q_t_text t_size q_t_sign t_otherSize q_t_other q_t_before t_undoMany t_readSize q_t_read q_t_side q_t_tall q_t_endRow q_t_endColumn q_t_endSide q_t_gone t_lineRow t_lineColumn t_lineSide t_lineMany q_t_ways q_t_codes q_t_many, aI (G.2 1) q_t_sign 36 t_sign, aI (G.2 1) q_t_ways 448 m_5_0] → va_S A s.heap H locs → lv_has ls 7 [(0, .ref q_t), (1, .int x1.1), (2, .int x1.2.1), (3, .int x1.2.2)] → W p l e (headSpec wsX6_rank ({ frames := 3, cells := 0, slots := 0, locals := 76 })).room s m ([.ref q_t] : List Value).toArray below meth c H locs 0 0 Q (F0 m 15 ls [])) (fun x1 o_1 hE ih_1 hr_1 => ?_) _ _ hE _ _ ls hP hD hS (lv_sub hl [3, 2, 1, 0] rfl)
  obtain ⟨v1_1, v2_1, v3_1⟩ := x1
  try dsimp only at hE
  intro H locs ls hP hD hS hl
  try dsimp only at hP hD hl ⊢
  refine lv_iload_n hx hb dX6_rank_15 rfl (lv_at hl 3 rfl) ?_
  refine lv_aload_n hx hb dX6_rank_16 rfl (lv_at hl 0 rfl) ?_
  refine va_get (D := G.1) (ci := 6) (v := .int t_size) (C := RX6) (T := TX6) (N := 23) hx hb hts iX6 hown hK hP 0 rfl rfl 2 (by decide) fl_54 (fun _ h9 => h9) rfl dX6_rank_17 ?_
  refine lv_icmp_ge (tgt := 120) hx hb dX6_rank_20 (by decide) (fun c_20 => ?_) (fun c_20 => ?_)
  · replace hE := (if_pos c_20).symm.trans hE
    refine lv_iload_n hx hb dX6_rank_120 rfl (lv_at hl 1 rfl) ?_
    have e_1 := Option.some.inj hE
    have e_0 := hr_1 _ e_1.symm
    subst e_0
    rw [hQ]
    exact W.iret (v := v1_1) hx hb hr (fun t ht _ => ⟨⟨_, (), rfl, rfl, by rw [ht]; exact hP, hD⟩, hS.F ht⟩) hS.2.2 dX6_rank_121
  · replace hE := (if_neg c_20).symm.trans hE
    refine lv_iload_n hx hb dX6_rank_23 rfl (lv_at hl 2 rfl) ?_
    refine lv_istore (lv' := [(4, .int v2_1), (0, .ref q_t), (1, .int v1_1), (2, .int v2_1), (3, .int v3_1)]) hx hb dX6_rank_24 hl (by decide) rfl (fun ls hl => ?_)
    refine lv_iconst (v := 0) hx hb dX6_rank_26 (by decide) ?_
    refine lv_istore (lv' := [(5, .int (0 : Int32)), (4, .int v2_1), (0, .ref q_t), (1, .int v1_1), (2, .int v2_1), (3, .int v3_1)]) hx hb dX6_rank_27 hl (by decide) rfl (fun ls hl => ?_)
    refine itr_ind (fun (x2 : Int32 × Int32) => ∀ (H : Heap) (locs : List Loc) (ls : Array Slot), va_P G.1 vwCl [oX6 q_t t_length q_t_text t_size q_t_sign t_otherSize q_t_other q_t_before t_undoMany t_readSize q_t_read q_t_side q_t_tall q_t_endRow q_t_endColumn q_t_endSide q_t_gone t_lineRow t_lineColumn t_lineSide t_lineMany q_t_ways q_t_codes q_t_many, aI (G.2 1) q_t_sign 36 t_sign, aI (G.2 1) q_t_ways 448 m_5_0] H → va_D A [oX6 q_t t_length q_t_text t_size q_t_sign t_otherSize q_t_other q_t_before t_undoMany t_readSize q_t_read q_t_side q_t_tall q_t_endRow q_t_endColumn q_t_endSide q_t_gone t_lineRow t_lineColumn t_lineSide t_lineMany q_t_ways q_t_codes q_t_many, aI (G.2 1) q_t_sign 36 t_sign, aI (G.2 1) q_t_ways 448 m_5_0] → va_S A s.heap H locs → lv_has ls 7 [(0, .ref q_t), (1, .int v1_1), (2, .int v2_1), (3, .int v3_1), (4, .int x2.1), (5, .int x2.2)] → W p l e (headSpec wsX6_rank ({ frames := 3, cells := 0, slots := 0, locals := 76 })).room s m ([.ref q_t] : List Value).toArray below meth c H locs 0 0 Q (F0 m 29 ls [])) (fun x2 o_2 hE ih_2 hr_2 => ?_) _ _ hE _ _ ls hP hD hS (lv_sub hl [2, 3, 4, 5, 1, 0] rfl)
    obtain ⟨v4_2, v5_2⟩ := x2
    try dsimp only at hE
    intro H locs ls hP hD hS hl
    try dsimp only at hP hD hl ⊢
    refine lv_iload hx hb dX6_rank_29 (lv_at hl 5 rfl) ?_
    refine lv_aload_n hx hb dX6_rank_31 rfl (lv_at hl 0 rfl) ?_
    refine va_get (D := G.1) (ci := 6) (v := .int t_size) (C := RX6) (T := TX6) (N := 23) hx hb hts iX6 hown hK hP 0 rfl rfl 2 (by decide) fl_54 (fun _ h9 => h9) rfl dX6_rank_32 ?_
    refine lv_icmp_ge (tgt := 96) hx hb dX6_rank_35 (by decide) (fun c_35 => ?_) (fun c_35 => ?_)
    · replace hE := (if_pos c_35).symm.trans hE
      refine lv_iload_n hx hb dX6_rank_96 rfl (lv_at hl 1 rfl) ?_
      refine lv_aload_n hx hb dX6_rank_97 rfl (lv_at hl 0 rfl) ?_
      refine lv_aload_n hx hb dX6_rank_98 rfl (lv_at hl 0 rfl) ?_
      refine va_get (D := G.1) (ci := 6) (v := .int t_size) (C := RX6) (T := TX6) (N := 23) hx hb hts iX6 hown hK hP 0 rfl rfl 2 (by decide) fl_54 (fun _ h9 => h9) rfl dX6_rank_99 ?_
      refine lv_iload_n hx hb dX6_rank_102 rfl (lv_at hl 3 rfl) ?_
      refine lv_iload_n hx hb dX6_rank_103 rfl (lv_at hl 2 rfl) ?_
      refine lv_iload hx hb dX6_rank_104 (lv_at hl 4 rfl) ?_
      obtain ⟨y106, hC_106, hE⟩ := Option.bind_eq_some_iff.mp hE
      obtain ⟨r_106, ex9⟩ : ∃ z, z = y106 := ⟨_, rfl⟩
      subst ex9
      try dsimp only at hE
      refine vp_callSi (va_Run.run (va_runV (As := [.int t_size, .int v3_1, .int v2_1, .int v4_2]) (rest := [.int v1_1]) ⟨hx, hb, hml, hown, hts⟩ (c_X6_aheadOf (l := l) (G := G) (p1 := t_size) (p2 := v3_1) (p3 := v2_1) (p4 := v4_2) (q_t := q_t) (t_length := t_length) (q_t_text := q_t_text) (t_size := t_size) (q_t_sign := q_t_sign) (t_otherSize := t_otherSize) (q_t_other := q_t_other) (q_t_before := q_t_before) (t_undoMany := t_undoMany) (t_readSize := t_readSize) (q_t_read := q_t_read) (q_t_side := q_t_side) (q_t_tall := q_t_tall) (q_t_endRow := q_t_endRow) (q_t_endColumn := q_t_endColumn) (q_t_endSide := q_t_endSide) (q_t_gone := q_t_gone) (t_lineRow := t_lineRow) (t_lineColumn := t_lineColumn) (t_lineSide := t_lineSide) (t_lineMany := t_lineMany) (q_t_ways := q_t_ways) (q_t_codes := q_t_codes) (q_t_many := q_t_many) (t_ways := m_5_0) hC_106) (cwV 4 hts gX6_rank_X6_aheadOf rfl rfl rfl kd_X6_aheadOf ⟨Nat.le_of_ble_eq_true rfl, Nat.le_of_ble_eq_true rfl⟩) (pv_V hKW (hP.sub (ws' := [oX6 q_t t_length q_t_text t_size q_t_sign t_otherSize q_t_other q_t_before t_undoMany t_readSize q_t_read q_t_side q_t_tall q_t_endRow q_t_endColumn q_t_endSide q_t_gone t_lineRow t_lineColumn t_lineSide t_lineMany q_t_ways q_t_codes q_t_many, aI (G.2 1) q_t_ways 448 m_5_0]) [0, 2] rfl) (ci := 6) (q0 := 0) rfl rfl) rfl rfl hl.1 rfl (lv_room (Nat.le_of_ble_eq_true rfl)) dX6_rank_106 ⟨Nat.zero_le _, Nat.zero_le _⟩)) (fun r9 hr9 => ?_)
      subst r9
      refine lv_iadd hx hb dX6_rank_109 ?_
      refine lv_istore_n (lv' := [(1, .int (v1_1 + r_106)), (0, .ref q_t), (2, .int v2_1), (3, .int v3_1), (4, .int v4_2), (5, .int v5_2)]) hx hb dX6_rank_110 rfl hl (by decide) rfl (fun ls hl => ?_)
      refine lv_iload hx hb dX6_rank_111 (lv_at hl 4 rfl) ?_
      refine lv_istore_n (lv' := [(2, .int v4_2), (1, .int (v1_1 + r_106)), (0, .ref q_t), (3, .int v3_1), (4, .int v4_2), (5, .int v5_2)]) hx hb dX6_rank_113 rfl hl (by decide) rfl (fun ls hl => ?_)
      refine lv_iinc (v := v3_1 + (1 : Int32)) (lv' := [(3, .int (v3_1 + (1 : Int32))), (2, .int v4_2), (1, .int (v1_1 + r_106)), (0, .ref q_t), (4, .int v4_2), (5, .int v5_2)]) hx hb dX6_rank_114 hl (k := 3) rfl rfl (by decide) rfl (fun ls hl => ?_)
      refine lv_goto (tgt := 15) hx hb dX6_rank_117 (by decide) ?_
      have e_2 := Option.some.inj hE
      have e_1 := hr_2 _ e_2.symm
      exact ih_1 _ e_1.symm _ _ ls hP hD hS (lv_sub hl [3, 2, 1, 0] rfl)
    · replace hE := (if_neg c_35).symm.trans hE
      refine lv_aload_n hx hb dX6_rank_38 rfl (lv_at hl 0 rfl) ?_
      refine va_get (D := G.1) (ci := 6) (v := .ref q_t_sign) (C := RX6) (T := TX6) (N := 23) hx hb hts iX6 hown hK hP 0 rfl rfl 3 (by decide) fl_13 (fun _ h9 => h9) rfl dX6_rank_39 ?_
      refine lv_bipush (v := 6) hx hb dX6_rank_42 (by decide) ?_
      refine lv_iload_n hx hb dX6_rank_44 rfl (lv_at hl 3 rfl) ?_
      refine lv_imul hx hb dX6_rank_45 ?_
      refine lv_iload hx hb dX6_rank_46 (lv_at hl 5 rfl) ?_
      refine lv_iadd hx hb dX6_rank_48 ?_
      obtain ⟨hi_49, hE⟩ := ck_some hE
      refine va_iald hx hb hK hP 1 1 rfl rfl (inb_in hi_49) dX6_rank_49 ?_
      refine lv_istore (lv' := [(6, .int (t_sign (((6 : Int32) * v3_1) + v5_2).toNatClampNeg)), (0, .ref q_t), (1, .int v1_1), (2, .int v2_1), (3, .int v3_1), (4, .int v4_2), (5, .int v5_2)]) hx hb dX6_rank_50 hl (by decide) rfl (fun ls hl => ?_)
      refine lv_iload hx hb dX6_rank_52 (lv_at hl 0 rfl) ?_
      refine lv_iconst (v := 1) hx hb dX6_rank_54 (by decide) ?_
      refine lv_icmp_ne (tgt := 68) hx hb dX6_rank_55 (by decide) (fun c_55 => ?_) (fun c_55 => ?_)
      · replace hE := (if_neg c_55).symm.trans hE
        refine lv_iload hx hb dX6_rank_68 (lv_at hl 0 rfl) ?_
        refine lv_iconst (v := -1) hx hb dX6_rank_70 (by decide) ?_
        refine lv_icmp_ne (tgt := 86) hx hb dX6_rank_71 (by decide) (fun c_71 => ?_) (fun c_71 => ?_)
        · replace hE := (if_neg c_71).symm.trans hE
          refine lv_iload hx hb dX6_rank_86 (lv_at hl 5 rfl) ?_
          refine lv_istore (lv' := [(4, .int v4_2), (6, .int (t_sign (((6 : Int32) * v3_1) + v5_2).toNatClampNeg)), (0, .ref q_t), (1, .int v1_1), (2, .int v2_1), (3, .int v3_1), (5, .int v5_2)]) hx hb dX6_rank_88 hl (by decide) rfl (fun ls hl => ?_)
          refine lv_iinc (v := v5_2 + (1 : Int32)) (lv' := [(5, .int (v5_2 + (1 : Int32))), (4, .int v4_2), (6, .int (t_sign (((6 : Int32) * v3_1) + v5_2).toNatClampNeg)), (0, .ref q_t), (1, .int v1_1), (2, .int v2_1), (3, .int v3_1)]) hx hb dX6_rank_90 hl (k := 6) rfl rfl (by decide) rfl (fun ls hl => ?_)
          refine lv_goto (tgt := 29) hx hb dX6_rank_93 (by decide) ?_
          have e_2 := Option.some.inj hE
          exact ih_2 _ e_2.symm _ _ ls hP hD hS (lv_sub hl [3, 4, 5, 6, 1, 0] rfl)
        · replace hE := (if_pos c_71).symm.trans hE
          refine lv_iload hx hb dX6_rank_74 (lv_at hl 5 rfl) ?_
          refine lv_iconst (v := 1) hx hb dX6_rank_76 (by decide) ?_
          refine lv_iload hx hb dX6_rank_77 (lv_at hl 6 rfl) ?_
          refine lv_ishl hx hb dX6_rank_79 ?_
          refine lv_iconst (v := -1) hx hb dX6_rank_80 (by decide) ?_
          refine lv_ixor hx hb dX6_rank_81 ?_
          refine lv_iand hx hb dX6_rank_82 ?_
          refine lv_goto (tgt := 88) hx hb dX6_rank_83 (by decide) ?_
          refine lv_istore (lv' := [(4, .int (v4_2 &&& (((1 : Int32) <<< (v5_2 &&& 31)) ^^^ (-1 : Int32)))), (6, .int (t_sign (((6 : Int32) * v3_1) + v5_2).toNatClampNeg)), (0, .ref q_t), (1, .int v1_1), (2, .int v2_1), (3, .int v3_1), (5, .int v5_2)]) hx hb dX6_rank_88 hl (by decide) rfl (fun ls hl => ?_)
          refine lv_iinc (v := v5_2 + (1 : Int32)) (lv' := [(5, .int (v5_2 + (1 : Int32))), (4, .int (v4_2 &&& (((1 : Int32) <<< (v5_2 &&& 31)) ^^^ (-1 : Int32)))), (6, .int (t_sign (((6 : Int32) * v3_1) + v5_2).toNatClampNeg)), (0, .ref q_t), (1, .int v1_1), (2, .int v2_1), (3, .int v3_1)]) hx hb dX6_rank_90 hl (k := 6) rfl rfl (by decide) rfl (fun ls hl => ?_)
          refine lv_goto (tgt := 29) hx hb dX6_rank_93 (by decide) ?_
          have e_2 := Option.some.inj hE
          exact ih_2 _ e_2.symm _ _ ls hP hD hS (lv_sub hl [3, 4, 5, 6, 1, 0] rfl)
      · replace hE := (if_pos c_55).symm.trans hE
        refine lv_iload hx hb dX6_rank_58 (lv_at hl 5 rfl) ?_
        refine lv_iconst (v := 1) hx hb dX6_rank_60 (by decide) ?_
        refine lv_iload hx hb dX6_rank_61 (lv_at hl 6 rfl) ?_
        refine lv_ishl hx hb dX6_rank_63 ?_
        refine lv_ior hx hb dX6_rank_64 ?_
        refine lv_goto (tgt := 88) hx hb dX6_rank_65 (by decide) ?_
        refine lv_istore (lv' := [(4, .int (v4_2 ||| ((1 : Int32) <<< (v5_2 &&& 31)))), (6, .int (t_sign (((6 : Int32) * v3_1) + v5_2).toNatClampNeg)), (0, .ref q_t), (1, .int v1_1), (2, .int v2_1), (3, .int v3_1), (5, .int v5_2)]) hx hb dX6_rank_88 hl (by decide) rfl (fun ls hl => ?_)
        refine lv_iinc (v := v5_2 + (1 : Int32)) (lv' := [(5, .int (v5_2 + (1 : Int32))), (4, .int (v4_2 ||| ((1 : Int32) <<< (v5_2 &&& 31)))), (6, .int (t_sign (((6 : Int32) * v3_1) + v5_2).toNatClampNeg)), (0, .ref q_t), (1, .int v1_1), (2, .int v2_1), (3, .int v3_1)]) hx hb dX6_rank_90 hl (k := 6) rfl rfl (by decide) rfl (fun ls hl => ?_)
        refine lv_goto (tgt := 29) hx hb dX6_rank_93 (by decide) ?_
        have e_2 := Option.some.inj hE
        exact ih_2 _ e_2.symm _ _ ls hP hD hS (lv_sub hl [3, 4, 5, 6, 1, 0] rfl)
def S_X6_isRow (p1 : Int32) (p2 : Int32) (p3 : Int32) (p4 : Int32) (p5 : Int32) (t_ways : Nat → Int32) : Option Int32 := (S_X6_leads p1 p3 p4).bind (fun (y4 : Int32) => if y4 = 0 then some (0 : Int32) else ck (inb (((64 : Int32) * (p2 + (1 : Int32))) + p4) 448) (if (t_ways (((64 : Int32) * (p2 + (1 : Int32))) + p4).toNatClampNeg) = 0 then some (0 : Int32) else (S_X6_aheadOf p1 p2 p3 p4 t_ways).bind (fun (y35 : Int32) => ck (inb (((64 : Int32) * (p2 + (1 : Int32))) + p4) 448) ((S_X6_in p5.toInt64 y35.toInt64 (((y35 + (t_ways (((64 : Int32) * (p2 + (1 : Int32))) + p4).toNatClampNeg)) - (1 : Int32)).toInt64)).bind (fun (y66 : Int32) => ck (y66 &&& 1 == y66) (some y66))))))
theorem kd_X6_isRow : yX6_isRow.cls = RX6 ∧ yX6_isRow.cls ≠ "java/lang/invoke/MethodHandle" ∧ yX6_isRow.cls ≠ "java/lang/invoke/VarHandle" ∧ (parseMethodDescriptor yX6_isRow.desc).map (fun d => d.parameters.length) = some 5 := by decide +kernel
set_option maxHeartbeats 4000000 in
set_option maxRecDepth 100000 in
theorem c_X6_isRow {l : Launch} {G : kG} {p1 : Int32} {p2 : Int32} {p3 : Int32} {p4 : Int32} {p5 : Int32} {q_t : Nat} {t_length : Int32} {q_t_text : Nat} {t_size : Int32} {q_t_sign : Nat} {t_otherSize : Int32} {q_t_other : Nat} {q_t_before : Nat} {t_undoMany : Int32} {t_readSize : Int32} {q_t_read : Nat} {q_t_side : Nat} {q_t_tall : Nat} {q_t_endRow : Nat} {q_t_endColumn : Nat} {q_t_endSide : Nat} {q_t_gone : Nat} {t_lineRow : Int32} {t_lineColumn : Int32} {t_lineSide : Int32} {t_lineMany : Int32} {q_t_ways : Nat} {q_t_codes : Nat} {q_t_many : Nat} {t_ways : Nat → Int32} {res : Int32} (hE : S_X6_isRow p1 p2 p3 p4 p5 t_ways = some res) : Met l yX6_isRow wsX6_isRow ({ frames := 3, cells := 0, slots := 0, locals := 76 }) (va_Pc [.ref q_t, .int p1, .int p2, .int p3, .int p4, .int p5] (fun U => va_P G.1 vwCl [oX6 q_t t_length q_t_text t_size q_t_sign t_otherSize q_t_other q_t_before t_undoMany t_readSize q_t_read q_t_side q_t_tall q_t_endRow q_t_endColumn q_t_endSide q_t_gone t_lineRow t_lineColumn t_lineSide t_lineMany q_t_ways q_t_codes q_t_many, aI (G.2 1) q_t_ways 448 t_ways] U.heap ∧ kw G U)) (vp_Si (fun r => r = res)) 0 0 (fun _ => False) := by
  refine Met.ofQ (cc := cX6_isRow) (maxL := 7) (ret := (some .boolean)) (by decide) rfl ?_
  intro p e s m args below meth c s₁ Q hQ B hml hv
  obtain ⟨rfl, hP, hKW⟩ := hv
  have hK := hKW.1
  have hx := B.exec
  have hb := B.bytes
  have hr := B.returns
  have hts := atoms_spec (ws := wsX6_isRow) B.pre
  have hown : s.vm.findClass RX6 = some m.cls := findClass_of_methodNamed B.named
  have hlocks := B.notSynchronized
  have iX6 : ∀ w ∈ u_ws RX6 TX6 23, w ∈ wsX6_isRow := by decide +kernel
  have fl_44 := hts (.fieldLink RX6 44 "AlternateSignsModel" "ways" "[I") (by decide +kernel)
  have hl := lv_entry ([.ref q_t, .int p1, .int p2, .int p3, .int p4, .int p5]) (n := 7) (Nat.le_of_ble_eq_true rfl)
  rw [lg_entry_eq]
  generalize (lg_sl ([.ref q_t, .int p1, .int p2, .int p3, .int p4, .int p5]) ++ List.replicate (7 - (lg_sl ([.ref q_t, .int p1, .int p2, .int p3, .int p4, .int p5])).length) Slot.unset).toArray = ls at hl ⊢
  have hl : lv_has ls 7 [(0, .ref q_t), (1, .int p1), (2, .int p2), (3, .int p3), (4, .int p4), (5, .int p5)] := hl
  unfold S_X6_isRow at hE
  refine lv_iload_n hx hb dX6_isRow_0 rfl (lv_at hl 1 rfl) ?_
  refine lv_iload_n hx hb dX6_isRow_1 rfl (lv_at hl 3 rfl) ?_
  refine lv_iload hx hb dX6_isRow_2 (lv_at hl 4 rfl) ?_
  obtain ⟨y4, hC_4, hE⟩ := Option.bind_eq_some_iff.mp hE
  obtain ⟨r_4, ex9⟩ : ∃ z, z = y4 := ⟨_, rfl⟩
  subst ex9
  try dsimp only at hE
  refine vp_callSi (va_Run.run (va_runS (As := [.int p1, .int p3, .int p4]) (rest := []) ⟨hx, hb, hml, hown, hts⟩ (c_X6_leads (l := l) (G := G) (p1 := p1) (p2 := p3) (p3 := p4) hC_4) (va_cwS 3 hts gX6_isRow_X6_leads rfl rfl rfl kd_X6_leads ⟨Nat.le_of_ble_eq_true rfl, Nat.le_of_ble_eq_true rfl⟩) (pv_S hKW (hP.sub (ws' := []) [] rfl)) rfl rfl hl.1 rfl (lv_room (Nat.le_of_ble_eq_true rfl)) dX6_isRow_4 ⟨Nat.zero_le _, Nat.zero_le _⟩)) (fun r9 hr9 => ?_)
  subst r9
  refine lv_if_eq (tgt := 27) hx hb dX6_isRow_7 (by decide) (fun c_7 => ?_) (fun c_7 => ?_)
  · replace hE := (if_pos c_7).symm.trans hE
    refine lv_iconst (v := 0) hx hb dX6_isRow_27 (by decide) ?_
    have e_0 := Option.some.inj hE
    rw [hQ]
    exact W.zret (v := (0 : Int32)) hx hb hr rfl (fun t ht _ => ⟨_, rfl, e_0, ht⟩) (fun q h => by cases h) dX6_isRow_28
  · replace hE := (if_neg c_7).symm.trans hE
    refine lv_aload_n hx hb dX6_isRow_10 rfl (lv_at hl 0 rfl) ?_
    refine va_get (D := G.1) (ci := 6) (v := .ref q_t_ways) (C := RX6) (T := TX6) (N := 23) hx hb hts iX6 hown hK hP 0 rfl rfl 20 (by decide) fl_44 (fun _ h9 => h9) rfl dX6_isRow_11 ?_
    refine lv_bipush (v := 64) hx hb dX6_isRow_14 (by decide) ?_
    refine lv_iload_n hx hb dX6_isRow_16 rfl (lv_at hl 2 rfl) ?_
    refine lv_iconst (v := 1) hx hb dX6_isRow_17 (by decide) ?_
    refine lv_iadd hx hb dX6_isRow_18 ?_
    refine lv_imul hx hb dX6_isRow_19 ?_
    refine lv_iload hx hb dX6_isRow_20 (lv_at hl 4 rfl) ?_
    refine lv_iadd hx hb dX6_isRow_22 ?_
    obtain ⟨hi_23, hE⟩ := ck_some hE
    refine va_iald hx hb hK hP 1 1 rfl rfl (inb_in hi_23) dX6_isRow_23 ?_
    refine lv_if_ne (tgt := 29) hx hb dX6_isRow_24 (by decide) (fun c_24 => ?_) (fun c_24 => ?_)
    · replace hE := (if_neg c_24).symm.trans hE
      refine lv_aload_n hx hb dX6_isRow_29 rfl (lv_at hl 0 rfl) ?_
      refine lv_iload_n hx hb dX6_isRow_30 rfl (lv_at hl 1 rfl) ?_
      refine lv_iload_n hx hb dX6_isRow_31 rfl (lv_at hl 2 rfl) ?_
      refine lv_iload_n hx hb dX6_isRow_32 rfl (lv_at hl 3 rfl) ?_
      refine lv_iload hx hb dX6_isRow_33 (lv_at hl 4 rfl) ?_
      obtain ⟨y35, hC_35, hE⟩ := Option.bind_eq_some_iff.mp hE
      obtain ⟨r_35, ex9⟩ : ∃ z, z = y35 := ⟨_, rfl⟩
      subst ex9
      try dsimp only at hE
      refine vp_callSi (va_Run.run (va_runV (As := [.int p1, .int p2, .int p3, .int p4]) (rest := []) ⟨hx, hb, hml, hown, hts⟩ (c_X6_aheadOf (l := l) (G := G) (p1 := p1) (p2 := p2) (p3 := p3) (p4 := p4) (q_t := q_t) (t_length := t_length) (q_t_text := q_t_text) (t_size := t_size) (q_t_sign := q_t_sign) (t_otherSize := t_otherSize) (q_t_other := q_t_other) (q_t_before := q_t_before) (t_undoMany := t_undoMany) (t_readSize := t_readSize) (q_t_read := q_t_read) (q_t_side := q_t_side) (q_t_tall := q_t_tall) (q_t_endRow := q_t_endRow) (q_t_endColumn := q_t_endColumn) (q_t_endSide := q_t_endSide) (q_t_gone := q_t_gone) (t_lineRow := t_lineRow) (t_lineColumn := t_lineColumn) (t_lineSide := t_lineSide) (t_lineMany := t_lineMany) (q_t_ways := q_t_ways) (q_t_codes := q_t_codes) (q_t_many := q_t_many) (t_ways := t_ways) hC_35) (cwV 4 hts gX6_isRow_X6_aheadOf rfl rfl rfl kd_X6_aheadOf ⟨Nat.le_of_ble_eq_true rfl, Nat.le_of_ble_eq_true rfl⟩) (pv_V hKW (hP.sub (ws' := [oX6 q_t t_length q_t_text t_size q_t_sign t_otherSize q_t_other q_t_before t_undoMany t_readSize q_t_read q_t_side q_t_tall q_t_endRow q_t_endColumn q_t_endSide q_t_gone t_lineRow t_lineColumn t_lineSide t_lineMany q_t_ways q_t_codes q_t_many, aI (G.2 1) q_t_ways 448 t_ways]) [0, 1] rfl) (ci := 6) (q0 := 0) rfl rfl) rfl rfl hl.1 rfl (lv_room (Nat.le_of_ble_eq_true rfl)) dX6_isRow_35 ⟨Nat.zero_le _, Nat.zero_le _⟩)) (fun r9 hr9 => ?_)
      subst r9
      refine lv_istore (lv' := [(6, .int r_35), (0, .ref q_t), (1, .int p1), (2, .int p2), (3, .int p3), (4, .int p4), (5, .int p5)]) hx hb dX6_isRow_38 hl (by decide) rfl (fun ls hl => ?_)
      refine lv_iload hx hb dX6_isRow_40 (lv_at hl 6 rfl) ?_
      refine lv_i2l (v := p5.toInt64) hx hb dX6_isRow_42 rfl ?_
      refine lv_iload hx hb dX6_isRow_43 (lv_at hl 0 rfl) ?_
      refine lv_i2l (v := r_35.toInt64) hx hb dX6_isRow_45 rfl ?_
      refine lv_iload hx hb dX6_isRow_46 (lv_at hl 0 rfl) ?_
      refine lv_aload_n hx hb dX6_isRow_48 rfl (lv_at hl 1 rfl) ?_
      refine va_get (D := G.1) (ci := 6) (v := .ref q_t_ways) (C := RX6) (T := TX6) (N := 23) hx hb hts iX6 hown hK hP 0 rfl rfl 20 (by decide) fl_44 (fun _ h9 => h9) rfl dX6_isRow_49 ?_
      refine lv_bipush (v := 64) hx hb dX6_isRow_52 (by decide) ?_
      refine lv_iload_n hx hb dX6_isRow_54 rfl (lv_at hl 3 rfl) ?_
      refine lv_iconst (v := 1) hx hb dX6_isRow_55 (by decide) ?_
      refine lv_iadd hx hb dX6_isRow_56 ?_
      refine lv_imul hx hb dX6_isRow_57 ?_
      refine lv_iload hx hb dX6_isRow_58 (lv_at hl 5 rfl) ?_
      refine lv_iadd hx hb dX6_isRow_60 ?_
      obtain ⟨hi_61, hE⟩ := ck_some hE
      refine va_iald hx hb hK hP 1 1 rfl rfl (inb_in hi_61) dX6_isRow_61 ?_
      refine lv_iadd hx hb dX6_isRow_62 ?_
      refine lv_iconst (v := 1) hx hb dX6_isRow_63 (by decide) ?_
      refine lv_isub hx hb dX6_isRow_64 ?_
      refine lv_i2l (v := ((r_35 + (t_ways (((64 : Int32) * (p2 + (1 : Int32))) + p4).toNatClampNeg)) - (1 : Int32)).toInt64) hx hb dX6_isRow_65 rfl ?_
      obtain ⟨y66, hC_66, hE⟩ := Option.bind_eq_some_iff.mp hE
      obtain ⟨r_66, ex9⟩ : ∃ z, z = y66 := ⟨_, rfl⟩
      subst ex9
      try dsimp only at hE
      refine vp_callSi (va_Run.run (va_runS (As := [.long p5.toInt64, .long r_35.toInt64, .long (((r_35 + (t_ways (((64 : Int32) * (p2 + (1 : Int32))) + p4).toNatClampNeg)) - (1 : Int32)).toInt64)]) (rest := []) ⟨hx, hb, hml, hown, hts⟩ (c_X6_in (l := l) (G := G) (p1 := p5.toInt64) (p2 := r_35.toInt64) (p3 := ((r_35 + (t_ways (((64 : Int32) * (p2 + (1 : Int32))) + p4).toNatClampNeg)) - (1 : Int32)).toInt64) hC_66) (va_cwS 3 hts gX6_isRow_X6_in rfl rfl rfl kd_X6_in ⟨Nat.le_of_ble_eq_true rfl, Nat.le_of_ble_eq_true rfl⟩) (pv_S hKW (hP.sub (ws' := []) [] rfl)) rfl rfl hl.1 rfl (lv_room (Nat.le_of_ble_eq_true rfl)) dX6_isRow_66 ⟨Nat.zero_le _, Nat.zero_le _⟩)) (fun r9 hr9 => ?_)
      subst r9
      obtain ⟨hbo, hE⟩ := ck_some hE
      have e_0 := Option.some.inj hE
      rw [hQ]
      exact W.zret (v := r_66) hx hb hr (nar_b hbo) (fun t ht _ => ⟨_, rfl, e_0, ht⟩) (fun q h => by cases h) dX6_isRow_69
    · replace hE := (if_pos c_24).symm.trans hE
      refine lv_iconst (v := 0) hx hb dX6_isRow_27 (by decide) ?_
      have e_0 := Option.some.inj hE
      rw [hQ]
      exact W.zret (v := (0 : Int32)) hx hb hr rfl (fun t ht _ => ⟨_, rfl, e_0, ht⟩) (fun q h => by cases h) dX6_isRow_28
def S_X6_unrank (p1 : Int32) (p2 : Int32) (t_ways : Nat → Int32) (p3 : Nat → Int32) : Option (Nat → Int32) := itr (fun (x1 : Int32 × Int32 × Int32 × (Nat → Int32)) => if p1 ≤ x1.2.2.1 then some (.inr x1.2.2.2) else itr (fun (x2 : Int32) => (S_X6_isRow p1 x1.2.2.1 x1.2.1 x2 x1.1 t_ways).bind (fun (y28 : Int32) => if y28 = 0 then some (.inl (x2 + (1 : Int32))) else (S_X6_aheadOf p1 x1.2.2.1 x1.2.1 x2 t_ways).bind (fun (y50 : Int32) => itr (fun (x3 : Int32 × (Nat → Int32)) => if p1 ≤ x3.1 then some (.inr (.inr (.inl (x1.1 - y50, x2, x1.2.2.1 + (1 : Int32), x3.2)))) else (S_X6_signOf x1.2.1 x2 x3.1).bind (fun (y80 : Int32) => ck (inb (((6 : Int32) * x1.2.2.1) + x3.1) 36) (some (.inl (x3.1 + (1 : Int32), upd x3.2 (((6 : Int32) * x1.2.2.1) + x3.1).toNatClampNeg y80))))) 10000 ((0 : Int32), x1.2.2.2)))) 10000 (0 : Int32)) 10000 (p2, (0 : Int32), (0 : Int32), p3)
theorem kd_X6_unrank : yX6_unrank.cls = RX6 ∧ yX6_unrank.cls ≠ "java/lang/invoke/MethodHandle" ∧ yX6_unrank.cls ≠ "java/lang/invoke/VarHandle" ∧ (parseMethodDescriptor yX6_unrank.desc).map (fun d => d.parameters.length) = some 3 := by decide +kernel
set_option maxHeartbeats 4000000 in
set_option maxRecDepth 100000 in
theorem c_X6_unrank {l : Launch} {G : kG} (sz : Nat) {p1 : Int32} {p2 : Int32} {q_t : Nat} {t_length : Int32} {q_t_text : Nat} {t_size : Int32} {q_t_sign : Nat} {t_otherSize : Int32} {q_t_other : Nat} {q_t_before : Nat} {t_undoMany : Int32} {t_readSize : Int32} {q_t_read : Nat} {q_t_side : Nat} {q_t_tall : Nat} {q_t_endRow : Nat} {q_t_endColumn : Nat} {q_t_endSide : Nat} {q_t_gone : Nat} {t_lineRow : Int32} {t_lineColumn : Int32} {t_lineSide : Int32} {t_lineMany : Int32} {q_t_ways : Nat} {q_t_codes : Nat} {q_t_many : Nat} {t_ways : Nat → Int32} {q_p3 : Nat} {p3 : Nat → Int32} {res : Nat → Int32} (hE : S_X6_unrank p1 p2 t_ways p3 = some res) : Met l yX6_unrank wsX6_unrank ({ frames := 4, cells := 0, slots := 0, locals := 102 }) (va_Pc [.ref q_t, .int p1, .int p2, .ref q_p3] (fun U => U.heap.size = sz ∧ va_P G.1 vwCl [oX6 q_t t_length q_t_text t_size q_t_sign t_otherSize q_t_other q_t_before t_undoMany t_readSize q_t_read q_t_side q_t_tall q_t_endRow q_t_endColumn q_t_endSide q_t_gone t_lineRow t_lineColumn t_lineSide t_lineMany q_t_ways q_t_codes q_t_many, aI (G.2 1) q_t_ways 448 t_ways, aI (G.2 1) q_p3 36 p3] U.heap ∧ kw G U ∧ va_D (fun _ => True) [oX6 q_t t_length q_t_text t_size q_t_sign t_otherSize q_t_other q_t_before t_undoMany t_readSize q_t_read q_t_side q_t_tall q_t_endRow q_t_endColumn q_t_endSide q_t_gone t_lineRow t_lineColumn t_lineSide t_lineMany q_t_ways q_t_codes q_t_many, aI (G.2 1) q_t_ways 448 t_ways, aI (G.2 1) q_p3 36 p3])) (va_Qv (fun (_ : Unit) => True) (fun _ t => va_P G.1 vwCl [oX6 q_t t_length q_t_text t_size q_t_sign t_otherSize q_t_other q_t_before t_undoMany t_readSize q_t_read q_t_side q_t_tall q_t_endRow q_t_endColumn q_t_endSide q_t_gone t_lineRow t_lineColumn t_lineSide t_lineMany q_t_ways q_t_codes q_t_many, aI (G.2 1) q_t_ways 448 t_ways, aI (G.2 1) q_p3 36 res] t.heap ∧ va_D (va_A [oX6 q_t t_length q_t_text t_size q_t_sign t_otherSize q_t_other q_t_before t_undoMany t_readSize q_t_read q_t_side q_t_tall q_t_endRow q_t_endColumn q_t_endSide q_t_gone t_lineRow t_lineColumn t_lineSide t_lineMany q_t_ways q_t_codes q_t_many, aI (G.2 1) q_t_ways 448 t_ways, aI (G.2 1) q_p3 36 p3] sz) [oX6 q_t t_length q_t_text t_size q_t_sign t_otherSize q_t_other q_t_before t_undoMany t_readSize q_t_read q_t_side q_t_tall q_t_endRow q_t_endColumn q_t_endSide q_t_gone t_lineRow t_lineColumn t_lineSide t_lineMany q_t_ways q_t_codes q_t_many, aI (G.2 1) q_t_ways 448 t_ways, aI (G.2 1) q_p3 36 res]) (va_A [oX6 q_t t_length q_t_text t_size q_t_sign t_otherSize q_t_other q_t_before t_undoMany t_readSize q_t_read q_t_side q_t_tall q_t_endRow q_t_endColumn q_t_endSide q_t_gone t_lineRow t_lineColumn t_lineSide t_lineMany q_t_ways q_t_codes q_t_many, aI (G.2 1) q_t_ways 448 t_ways, aI (G.2 1) q_p3 36 p3] sz)) 0 0 (va_A [oX6 q_t t_length q_t_text t_size q_t_sign t_otherSize q_t_other q_t_before t_undoMany t_readSize q_t_read q_t_side q_t_tall q_t_endRow q_t_endColumn q_t_endSide q_t_gone t_lineRow t_lineColumn t_lineSide t_lineMany q_t_ways q_t_codes q_t_many, aI (G.2 1) q_t_ways 448 t_ways, aI (G.2 1) q_p3 36 p3] sz) := by
  refine Met.ofQ (cc := cX6_unrank) (maxL := 9) (ret := none) (by decide) rfl ?_
  intro p e s m args below meth c s₁ Q hQ B hml hv
  obtain ⟨rfl, hsz, hP, hKW, hD0⟩ := hv
  have hK := hKW.1
  have hx := B.exec
  have hb := B.bytes
  have hr := B.returns
  have hts := atoms_spec (ws := wsX6_unrank) B.pre
  have hown : s.vm.findClass RX6 = some m.cls := findClass_of_methodNamed B.named
  have hlocks := B.notSynchronized
  subst hsz
  have hD := hD0.self (sz := s.heap.size)
  generalize hAe : va_A [oX6 q_t t_length q_t_text t_size q_t_sign t_otherSize q_t_other q_t_before t_undoMany t_readSize q_t_read q_t_side q_t_tall q_t_endRow q_t_endColumn q_t_endSide q_t_gone t_lineRow t_lineColumn t_lineSide t_lineMany q_t_ways q_t_codes q_t_many, aI (G.2 1) q_t_ways 448 t_ways, aI (G.2 1) q_p3 36 p3] s.heap.size = A at hD hQ
  have hA : ∀ q : Nat, s.heap.size ≤ q → A q := fun q h => by rw [← hAe]; exact Or.inr h
  have hS : va_S A s.heap s.heap [] := va_S.rf
  have hl := lv_entry ([.ref q_t, .int p1, .int p2, .ref q_p3]) (n := 9) (Nat.le_of_ble_eq_true rfl)
  rw [lg_entry_eq]
  generalize (lg_sl ([.ref q_t, .int p1, .int p2, .ref q_p3]) ++ List.replicate (9 - (lg_sl ([.ref q_t, .int p1, .int p2, .ref q_p3])).length) Slot.unset).toArray = ls at hl ⊢
  have hl : lv_has ls 9 [(0, .ref q_t), (1, .int p1), (2, .int p2), (3, .ref q_p3)] := hl
  unfold S_X6_unrank at hE
  refine lv_iload_n hx hb dX6_unrank_0 rfl (lv_at hl 2 rfl) ?_
  refine lv_istore (lv' := [(4, .int p2), (0, .ref q_t), (1, .int p1), (2, .int p2), (3, .ref q_p3)]) hx hb dX6_unrank_1 hl (by decide) rfl (fun ls hl => ?_)
  refine lv_iconst (v := 0) hx hb dX6_unrank_3 (by decide) ?_
  refine lv_istore (lv' := [(5, .int (0 : Int32)), (4, .int p2), (0, .ref q_t), (1, .int p1), (2, .int p2), (3, .ref q_p3)]) hx hb dX6_unrank_4 hl (by decide) rfl (fun ls hl => ?_)
  refine lv_iconst (v := 0) hx hb dX6_unrank_6 (by decide) ?_
  refine lv_istore (lv' := [(6, .int (0 : Int32)), (5, .int (0 : Int32)), (4, .int p2), (0, .ref q_t), (1, .int p1), (2, .int p2), (3, .ref q_p3)]) hx hb dX6_unrank_7 hl (by decide) rfl (fun ls hl => ?_)
  refine itr_ind (fun (x1 : Int32 × Int32 × Int32 × (Nat → Int32)) => ∀ (H : Heap) (locs : List Loc) (ls : Array Slot), va_P G.1 vwCl [oX6 q_t t_length q_t_text t_size q_t_sign t_otherSize q_t_other q_t_before t_undoMany t_readSize q_t_read q_t_side q_t_tall q_t_endRow q_t_endColumn q_t_endSide q_t_gone t_lineRow t_lineColumn t_lineSide t_lineMany q_t_ways q_t_codes q_t_many, aI (G.2 1) q_t_ways 448 t_ways, aI (G.2 1) q_p3 36 x1.2.2.2] H → va_D A [oX6 q_t t_length q_t_text t_size q_t_sign t_otherSize q_t_other q_t_before t_undoMany t_readSize q_t_read q_t_side q_t_tall q_t_endRow q_t_endColumn q_t_endSide q_t_gone t_lineRow t_lineColumn t_lineSide t_lineMany q_t_ways q_t_codes q_t_many, aI (G.2 1) q_t_ways 448 t_ways, aI (G.2 1) q_p3 36 x1.2.2.2] → va_S A s.heap H locs → lv_has ls 9 [(0, .ref q_t), (1, .int p1), (3, .ref q_p3), (4, .int x1.1), (5, .int x1.2.1), (6, .int x1.2.2.1)] → W p l e (headSpec wsX6_unrank ({ frames := 4, cells := 0, slots := 0, locals := 102 })).room s m ([.ref q_t, .int p1, .int p2, .ref q_p3] : List Value).toArray below meth c H locs 0 0 Q (F0 m 9 ls [])) (fun x1 o_1 hE ih_1 hr_1 => ?_) _ _ hE _ _ ls hP hD hS (lv_sub hl [3, 4, 6, 2, 1, 0] rfl)
  obtain ⟨v4_1, v5_1, v6_1, w_p3_1⟩ := x1
  try dsimp only at hE
  intro H locs ls hP hD hS hl
  try dsimp only at hP hD hl ⊢
  refine lv_iload hx hb dX6_unrank_9 (lv_at hl 5 rfl) ?_
  refine lv_iload_n hx hb dX6_unrank_11 rfl (lv_at hl 1 rfl) ?_
  refine lv_icmp_ge (tgt := 100) hx hb dX6_unrank_12 (by decide) (fun c_12 => ?_) (fun c_12 => ?_)
  · replace hE := (if_pos c_12).symm.trans hE
    have e_1 := Option.some.inj hE
    have e_0 := hr_1 _ e_1.symm
    subst e_0
    rw [hQ]
    exact W.vret hx hb hr (fun t ht _ => ⟨⟨(), rfl, trivial, by rw [ht]; exact hP, hD⟩, hS.F ht⟩) hS.2.2 dX6_unrank_100
  · replace hE := (if_neg c_12).symm.trans hE
    refine lv_iconst (v := 0) hx hb dX6_unrank_15 (by decide) ?_
    refine lv_istore (lv' := [(7, .int (0 : Int32)), (0, .ref q_t), (1, .int p1), (3, .ref q_p3), (4, .int v4_1), (5, .int v5_1), (6, .int v6_1)]) hx hb dX6_unrank_16 hl (by decide) rfl (fun ls hl => ?_)
    refine itr_ind (fun (x2 : Int32) => ∀ (H : Heap) (locs : List Loc) (ls : Array Slot), va_P G.1 vwCl [oX6 q_t t_length q_t_text t_size q_t_sign t_otherSize q_t_other q_t_before t_undoMany t_readSize q_t_read q_t_side q_t_tall q_t_endRow q_t_endColumn q_t_endSide q_t_gone t_lineRow t_lineColumn t_lineSide t_lineMany q_t_ways q_t_codes q_t_many, aI (G.2 1) q_t_ways 448 t_ways, aI (G.2 1) q_p3 36 w_p3_1] H → va_D A [oX6 q_t t_length q_t_text t_size q_t_sign t_otherSize q_t_other q_t_before t_undoMany t_readSize q_t_read q_t_side q_t_tall q_t_endRow q_t_endColumn q_t_endSide q_t_gone t_lineRow t_lineColumn t_lineSide t_lineMany q_t_ways q_t_codes q_t_many, aI (G.2 1) q_t_ways 448 t_ways, aI (G.2 1) q_p3 36 w_p3_1] → va_S A s.heap H locs → lv_has ls 9 [(0, .ref q_t), (1, .int p1), (3, .ref q_p3), (4, .int v4_1), (5, .int v5_1), (6, .int v6_1), (7, .int x2)] → W p l e (headSpec wsX6_unrank ({ frames := 4, cells := 0, slots := 0, locals := 102 })).room s m ([.ref q_t, .int p1, .int p2, .ref q_p3] : List Value).toArray below meth c H locs 0 0 Q (F0 m 18 ls [])) (fun x2 o_2 hE ih_2 hr_2 => ?_) _ _ hE _ _ ls hP hD hS (lv_sub hl [1, 2, 3, 4, 5, 6, 0] rfl)
    obtain ⟨v7_2, ex9⟩ : ∃ z, z = x2 := ⟨_, rfl⟩
    subst ex9
    try dsimp only at hE
    intro H locs ls hP hD hS hl
    try dsimp only at hP hD hl ⊢
    refine lv_aload_n hx hb dX6_unrank_18 rfl (lv_at hl 0 rfl) ?_
    refine lv_iload_n hx hb dX6_unrank_19 rfl (lv_at hl 1 rfl) ?_
    refine lv_iload hx hb dX6_unrank_20 (lv_at hl 5 rfl) ?_
    refine lv_iload hx hb dX6_unrank_22 (lv_at hl 4 rfl) ?_
    refine lv_iload hx hb dX6_unrank_24 (lv_at hl 6 rfl) ?_
    refine lv_iload hx hb dX6_unrank_26 (lv_at hl 3 rfl) ?_
    obtain ⟨y28, hC_28, hE⟩ := Option.bind_eq_some_iff.mp hE
    obtain ⟨r_28, ex9⟩ : ∃ z, z = y28 := ⟨_, rfl⟩
    subst ex9
    try dsimp only at hE
    refine vp_callSi (va_Run.run (va_runV (As := [.int p1, .int v6_1, .int v5_1, .int v7_2, .int v4_1]) (rest := []) ⟨hx, hb, hml, hown, hts⟩ (c_X6_isRow (l := l) (G := G) (p1 := p1) (p2 := v6_1) (p3 := v5_1) (p4 := v7_2) (p5 := v4_1) (q_t := q_t) (t_length := t_length) (q_t_text := q_t_text) (t_size := t_size) (q_t_sign := q_t_sign) (t_otherSize := t_otherSize) (q_t_other := q_t_other) (q_t_before := q_t_before) (t_undoMany := t_undoMany) (t_readSize := t_readSize) (q_t_read := q_t_read) (q_t_side := q_t_side) (q_t_tall := q_t_tall) (q_t_endRow := q_t_endRow) (q_t_endColumn := q_t_endColumn) (q_t_endSide := q_t_endSide) (q_t_gone := q_t_gone) (t_lineRow := t_lineRow) (t_lineColumn := t_lineColumn) (t_lineSide := t_lineSide) (t_lineMany := t_lineMany) (q_t_ways := q_t_ways) (q_t_codes := q_t_codes) (q_t_many := q_t_many) (t_ways := t_ways) hC_28) (cwV 5 hts gX6_unrank_X6_isRow rfl rfl rfl kd_X6_isRow ⟨Nat.le_of_ble_eq_true rfl, Nat.le_of_ble_eq_true rfl⟩) (pv_V hKW (hP.sub (ws' := [oX6 q_t t_length q_t_text t_size q_t_sign t_otherSize q_t_other q_t_before t_undoMany t_readSize q_t_read q_t_side q_t_tall q_t_endRow q_t_endColumn q_t_endSide q_t_gone t_lineRow t_lineColumn t_lineSide t_lineMany q_t_ways q_t_codes q_t_many, aI (G.2 1) q_t_ways 448 t_ways]) [0, 1] rfl) (ci := 6) (q0 := 0) rfl rfl) rfl rfl hl.1 rfl (lv_room (Nat.le_of_ble_eq_true rfl)) dX6_unrank_28 ⟨Nat.zero_le _, Nat.zero_le _⟩)) (fun r9 hr9 => ?_)
    subst r9
    refine lv_if_ne (tgt := 40) hx hb dX6_unrank_31 (by decide) (fun c_31 => ?_) (fun c_31 => ?_)
    · replace hE := (if_neg c_31).symm.trans hE
      refine lv_iload hx hb dX6_unrank_40 (lv_at hl 3 rfl) ?_
      refine lv_aload_n hx hb dX6_unrank_42 rfl (lv_at hl 0 rfl) ?_
      refine lv_iload_n hx hb dX6_unrank_43 rfl (lv_at hl 1 rfl) ?_
      refine lv_iload hx hb dX6_unrank_44 (lv_at hl 5 rfl) ?_
      refine lv_iload hx hb dX6_unrank_46 (lv_at hl 4 rfl) ?_
      refine lv_iload hx hb dX6_unrank_48 (lv_at hl 6 rfl) ?_
      obtain ⟨y50, hC_50, hE⟩ := Option.bind_eq_some_iff.mp hE
      obtain ⟨r_50, ex9⟩ : ∃ z, z = y50 := ⟨_, rfl⟩
      subst ex9
      try dsimp only at hE
      refine vp_callSi (va_Run.run (va_runV (As := [.int p1, .int v6_1, .int v5_1, .int v7_2]) (rest := [.int v4_1]) ⟨hx, hb, hml, hown, hts⟩ (c_X6_aheadOf (l := l) (G := G) (p1 := p1) (p2 := v6_1) (p3 := v5_1) (p4 := v7_2) (q_t := q_t) (t_length := t_length) (q_t_text := q_t_text) (t_size := t_size) (q_t_sign := q_t_sign) (t_otherSize := t_otherSize) (q_t_other := q_t_other) (q_t_before := q_t_before) (t_undoMany := t_undoMany) (t_readSize := t_readSize) (q_t_read := q_t_read) (q_t_side := q_t_side) (q_t_tall := q_t_tall) (q_t_endRow := q_t_endRow) (q_t_endColumn := q_t_endColumn) (q_t_endSide := q_t_endSide) (q_t_gone := q_t_gone) (t_lineRow := t_lineRow) (t_lineColumn := t_lineColumn) (t_lineSide := t_lineSide) (t_lineMany := t_lineMany) (q_t_ways := q_t_ways) (q_t_codes := q_t_codes) (q_t_many := q_t_many) (t_ways := t_ways) hC_50) (cwV 4 hts gX6_unrank_X6_aheadOf rfl rfl rfl kd_X6_aheadOf ⟨Nat.le_of_ble_eq_true rfl, Nat.le_of_ble_eq_true rfl⟩) (pv_V hKW (hP.sub (ws' := [oX6 q_t t_length q_t_text t_size q_t_sign t_otherSize q_t_other q_t_before t_undoMany t_readSize q_t_read q_t_side q_t_tall q_t_endRow q_t_endColumn q_t_endSide q_t_gone t_lineRow t_lineColumn t_lineSide t_lineMany q_t_ways q_t_codes q_t_many, aI (G.2 1) q_t_ways 448 t_ways]) [0, 1] rfl) (ci := 6) (q0 := 0) rfl rfl) rfl rfl hl.1 rfl (lv_room (Nat.le_of_ble_eq_true rfl)) dX6_unrank_50 ⟨Nat.zero_le _, Nat.zero_le _⟩)) (fun r9 hr9 => ?_)
      subst r9
      refine lv_isub hx hb dX6_unrank_53 ?_
      refine lv_istore (lv' := [(4, .int (v4_1 - r_50)), (0, .ref q_t), (1, .int p1), (3, .ref q_p3), (5, .int v5_1), (6, .int v6_1), (7, .int v7_2)]) hx hb dX6_unrank_54 hl (by decide) rfl (fun ls hl => ?_)
      refine lv_iconst (v := 0) hx hb dX6_unrank_56 (by decide) ?_
      refine lv_istore (lv' := [(8, .int (0 : Int32)), (4, .int (v4_1 - r_50)), (0, .ref q_t), (1, .int p1), (3, .ref q_p3), (5, .int v5_1), (6, .int v6_1), (7, .int v7_2)]) hx hb dX6_unrank_57 hl (by decide) rfl (fun ls hl => ?_)
      refine itr_ind (fun (x3 : Int32 × (Nat → Int32)) => ∀ (H : Heap) (locs : List Loc) (ls : Array Slot), va_P G.1 vwCl [oX6 q_t t_length q_t_text t_size q_t_sign t_otherSize q_t_other q_t_before t_undoMany t_readSize q_t_read q_t_side q_t_tall q_t_endRow q_t_endColumn q_t_endSide q_t_gone t_lineRow t_lineColumn t_lineSide t_lineMany q_t_ways q_t_codes q_t_many, aI (G.2 1) q_t_ways 448 t_ways, aI (G.2 1) q_p3 36 x3.2] H → va_D A [oX6 q_t t_length q_t_text t_size q_t_sign t_otherSize q_t_other q_t_before t_undoMany t_readSize q_t_read q_t_side q_t_tall q_t_endRow q_t_endColumn q_t_endSide q_t_gone t_lineRow t_lineColumn t_lineSide t_lineMany q_t_ways q_t_codes q_t_many, aI (G.2 1) q_t_ways 448 t_ways, aI (G.2 1) q_p3 36 x3.2] → va_S A s.heap H locs → lv_has ls 9 [(0, .ref q_t), (1, .int p1), (3, .ref q_p3), (4, .int (v4_1 - r_50)), (5, .int v5_1), (6, .int v6_1), (7, .int v7_2), (8, .int x3.1)] → W p l e (headSpec wsX6_unrank ({ frames := 4, cells := 0, slots := 0, locals := 102 })).room s m ([.ref q_t, .int p1, .int p2, .ref q_p3] : List Value).toArray below meth c H locs 0 0 Q (F0 m 59 ls [])) (fun x3 o_3 hE ih_3 hr_3 => ?_) _ _ hE _ _ ls hP hD hS (lv_sub hl [2, 3, 4, 1, 5, 6, 7, 0] rfl)
      obtain ⟨v8_3, w_p3_3⟩ := x3
      try dsimp only at hE
      intro H locs ls hP hD hS hl
      try dsimp only at hP hD hl ⊢
      refine lv_iload hx hb dX6_unrank_59 (lv_at hl 7 rfl) ?_
      refine lv_iload_n hx hb dX6_unrank_61 rfl (lv_at hl 1 rfl) ?_
      refine lv_icmp_ge (tgt := 90) hx hb dX6_unrank_62 (by decide) (fun c_62 => ?_) (fun c_62 => ?_)
      · replace hE := (if_pos c_62).symm.trans hE
        refine lv_iload hx hb dX6_unrank_90 (lv_at hl 6 rfl) ?_
        refine lv_istore (lv' := [(5, .int v7_2), (0, .ref q_t), (1, .int p1), (3, .ref q_p3), (4, .int (v4_1 - r_50)), (6, .int v6_1), (7, .int v7_2), (8, .int v8_3)]) hx hb dX6_unrank_92 hl (by decide) rfl (fun ls hl => ?_)
        refine lv_iinc (v := v6_1 + (1 : Int32)) (lv' := [(6, .int (v6_1 + (1 : Int32))), (5, .int v7_2), (0, .ref q_t), (1, .int p1), (3, .ref q_p3), (4, .int (v4_1 - r_50)), (7, .int v7_2), (8, .int v8_3)]) hx hb dX6_unrank_94 hl (k := 5) rfl rfl (by decide) rfl (fun ls hl => ?_)
        refine lv_goto (tgt := 9) hx hb dX6_unrank_97 (by decide) ?_
        have e_3 := Option.some.inj hE
        have e_2 := hr_3 _ e_3.symm
        have e_1 := hr_2 _ e_2.symm
        exact ih_1 _ e_1.symm _ _ ls hP hD hS (lv_sub hl [2, 3, 4, 5, 1, 0] rfl)
      · replace hE := (if_neg c_62).symm.trans hE
        refine lv_aload_n hx hb dX6_unrank_65 rfl (lv_at hl 2 rfl) ?_
        refine lv_bipush (v := 6) hx hb dX6_unrank_66 (by decide) ?_
        refine lv_iload hx hb dX6_unrank_68 (lv_at hl 5 rfl) ?_
        refine lv_imul hx hb dX6_unrank_70 ?_
        refine lv_iload hx hb dX6_unrank_71 (lv_at hl 7 rfl) ?_
        refine lv_iadd hx hb dX6_unrank_73 ?_
        refine lv_iload hx hb dX6_unrank_74 (lv_at hl 4 rfl) ?_
        refine lv_iload hx hb dX6_unrank_76 (lv_at hl 6 rfl) ?_
        refine lv_iload hx hb dX6_unrank_78 (lv_at hl 7 rfl) ?_
        obtain ⟨y80, hC_80, hE⟩ := Option.bind_eq_some_iff.mp hE
        obtain ⟨r_80, ex9⟩ : ∃ z, z = y80 := ⟨_, rfl⟩
        subst ex9
        try dsimp only at hE
        refine vp_callSi (va_Run.run (va_runS (As := [.int v5_1, .int v7_2, .int v8_3]) (rest := [.int (((6 : Int32) * v6_1) + v8_3), .ref q_p3]) ⟨hx, hb, hml, hown, hts⟩ (c_X6_signOf (l := l) (G := G) (p1 := v5_1) (p2 := v7_2) (p3 := v8_3) hC_80) (va_cwS 3 hts gX6_unrank_X6_signOf rfl rfl rfl kd_X6_signOf ⟨Nat.le_of_ble_eq_true rfl, Nat.le_of_ble_eq_true rfl⟩) (pv_S hKW (hP.sub (ws' := []) [] rfl)) rfl rfl hl.1 rfl (lv_room (Nat.le_of_ble_eq_true rfl)) dX6_unrank_80 ⟨Nat.zero_le _, Nat.zero_le _⟩)) (fun r9 hr9 => ?_)
        subst r9
        obtain ⟨hi_83, hE⟩ := ck_some hE
        refine va_iast hx hb hK hP hD hS 2 1 rfl rfl (inb_in hi_83) dX6_unrank_83 (fun H locs hP hD hS => ?_)
        have hP : va_P G.1 vwCl [oX6 q_t t_length q_t_text t_size q_t_sign t_otherSize q_t_other q_t_before t_undoMany t_readSize q_t_read q_t_side q_t_tall q_t_endRow q_t_endColumn q_t_endSide q_t_gone t_lineRow t_lineColumn t_lineSide t_lineMany q_t_ways q_t_codes q_t_many, aI (G.2 1) q_t_ways 448 t_ways, aI (G.2 1) q_p3 36 (upd w_p3_3 (((6 : Int32) * v6_1) + v8_3).toNatClampNeg r_80)] H := hP
        have hD : va_D A [oX6 q_t t_length q_t_text t_size q_t_sign t_otherSize q_t_other q_t_before t_undoMany t_readSize q_t_read q_t_side q_t_tall q_t_endRow q_t_endColumn q_t_endSide q_t_gone t_lineRow t_lineColumn t_lineSide t_lineMany q_t_ways q_t_codes q_t_many, aI (G.2 1) q_t_ways 448 t_ways, aI (G.2 1) q_p3 36 (upd w_p3_3 (((6 : Int32) * v6_1) + v8_3).toNatClampNeg r_80)] := hD
        refine lv_iinc (v := v8_3 + (1 : Int32)) (lv' := [(8, .int (v8_3 + (1 : Int32))), (0, .ref q_t), (1, .int p1), (3, .ref q_p3), (4, .int (v4_1 - r_50)), (5, .int v5_1), (6, .int v6_1), (7, .int v7_2)]) hx hb dX6_unrank_84 hl (k := 7) rfl rfl (by decide) rfl (fun ls hl => ?_)
        refine lv_goto (tgt := 59) hx hb dX6_unrank_87 (by decide) ?_
        have e_3 := Option.some.inj hE
        exact ih_3 _ e_3.symm _ _ ls hP hD hS (lv_sub hl [1, 2, 3, 4, 5, 6, 7, 0] rfl)
    · replace hE := (if_pos c_31).symm.trans hE
      refine lv_iinc (v := v7_2 + (1 : Int32)) (lv' := [(7, .int (v7_2 + (1 : Int32))), (0, .ref q_t), (1, .int p1), (3, .ref q_p3), (4, .int v4_1), (5, .int v5_1), (6, .int v6_1)]) hx hb dX6_unrank_34 hl (k := 6) rfl rfl (by decide) rfl (fun ls hl => ?_)
      refine lv_goto (tgt := 18) hx hb dX6_unrank_37 (by decide) ?_
      have e_2 := Option.some.inj hE
      exact ih_2 _ e_2.symm _ _ ls hP hD hS (lv_sub hl [1, 2, 3, 4, 5, 6, 0] rfl)
def S_X6_take (p1 : Int32) (p2 : Int32) (t_size : Int32) (t_undoMany : Int32) (t_sign : Nat → Int32) (t_before : Nat → Int32) (t_ways : Nat → Int32) : Option (Int32 × Int32 × Int32 × (Nat → Int32) × (Nat → Int32) × (Nat → Int32)) := (S_X6_in p1.toInt64 (1 : Int64) (6 : Int64)).bind (fun (y6 : Int32) => if y6 = 0 then some ((-1 : Int32), t_size, t_undoMany, t_sign, t_before, t_ways) else (S_X6_findWays p1 t_ways).bind (fun (y19 : Int32 × (Nat → Int32)) => (S_X6_in p2.toInt64 (0 : Int64) ((y19.1 - (1 : Int32)).toInt64)).bind (fun (y25 : Int32) => if y25 = 0 then some ((-4 : Int32), t_size, t_undoMany, t_sign, t_before, y19.2) else (S_X6_note t_size t_undoMany t_sign t_before).bind (fun (y35 : Int32 × (Nat → Int32)) => (S_X6_unrank p1 p2 y19.2 t_sign).bind (fun (y50 : Nat → Int32) => some (p1, p1, y35.1, y50, y35.2, y19.2))))))
theorem kd_X6_take : yX6_take.cls = RX6 ∧ yX6_take.cls ≠ "java/lang/invoke/MethodHandle" ∧ yX6_take.cls ≠ "java/lang/invoke/VarHandle" ∧ (parseMethodDescriptor yX6_take.desc).map (fun d => d.parameters.length) = some 2 := by decide +kernel
set_option maxHeartbeats 4000000 in
set_option maxRecDepth 100000 in
theorem c_X6_take {l : Launch} {G : kG} (sz : Nat) {p1 : Int32} {p2 : Int32} {q_t : Nat} {t_length : Int32} {q_t_text : Nat} {t_size : Int32} {q_t_sign : Nat} {t_otherSize : Int32} {q_t_other : Nat} {q_t_before : Nat} {t_undoMany : Int32} {t_readSize : Int32} {q_t_read : Nat} {q_t_side : Nat} {q_t_tall : Nat} {q_t_endRow : Nat} {q_t_endColumn : Nat} {q_t_endSide : Nat} {q_t_gone : Nat} {t_lineRow : Int32} {t_lineColumn : Int32} {t_lineSide : Int32} {t_lineMany : Int32} {q_t_ways : Nat} {q_t_codes : Nat} {q_t_many : Nat} {t_sign : Nat → Int32} {t_before : Nat → Int32} {t_ways : Nat → Int32} {res : Int32 × Int32 × Int32 × (Nat → Int32) × (Nat → Int32) × (Nat → Int32)} (hE : S_X6_take p1 p2 t_size t_undoMany t_sign t_before t_ways = some res) : Met l yX6_take wsX6_take ({ frames := 5, cells := 0, slots := 0, locals := 130 }) (va_Pc [.ref q_t, .int p1, .int p2] (fun U => U.heap.size = sz ∧ va_P G.1 vwCl [oX6 q_t t_length q_t_text t_size q_t_sign t_otherSize q_t_other q_t_before t_undoMany t_readSize q_t_read q_t_side q_t_tall q_t_endRow q_t_endColumn q_t_endSide q_t_gone t_lineRow t_lineColumn t_lineSide t_lineMany q_t_ways q_t_codes q_t_many, aI (G.2 1) q_t_sign 36 t_sign, aI (G.2 1) q_t_before 222 t_before, aI (G.2 1) q_t_ways 448 t_ways] U.heap ∧ kw G U ∧ va_D (fun _ => True) [oX6 q_t t_length q_t_text t_size q_t_sign t_otherSize q_t_other q_t_before t_undoMany t_readSize q_t_read q_t_side q_t_tall q_t_endRow q_t_endColumn q_t_endSide q_t_gone t_lineRow t_lineColumn t_lineSide t_lineMany q_t_ways q_t_codes q_t_many, aI (G.2 1) q_t_sign 36 t_sign, aI (G.2 1) q_t_before 222 t_before, aI (G.2 1) q_t_ways 448 t_ways])) (va_Qi (fun r (_ : Unit) => r = res.1) (fun _ t => va_P G.1 vwCl [oX6 q_t t_length q_t_text res.2.1 q_t_sign t_otherSize q_t_other q_t_before res.2.2.1 t_readSize q_t_read q_t_side q_t_tall q_t_endRow q_t_endColumn q_t_endSide q_t_gone t_lineRow t_lineColumn t_lineSide t_lineMany q_t_ways q_t_codes q_t_many, aI (G.2 1) q_t_sign 36 res.2.2.2.1, aI (G.2 1) q_t_before 222 res.2.2.2.2.1, aI (G.2 1) q_t_ways 448 res.2.2.2.2.2] t.heap ∧ va_D (va_A [oX6 q_t t_length q_t_text t_size q_t_sign t_otherSize q_t_other q_t_before t_undoMany t_readSize q_t_read q_t_side q_t_tall q_t_endRow q_t_endColumn q_t_endSide q_t_gone t_lineRow t_lineColumn t_lineSide t_lineMany q_t_ways q_t_codes q_t_many, aI (G.2 1) q_t_sign 36 t_sign, aI (G.2 1) q_t_before 222 t_before, aI (G.2 1) q_t_ways 448 t_ways] sz) [oX6 q_t t_length q_t_text res.2.1 q_t_sign t_otherSize q_t_other q_t_before res.2.2.1 t_readSize q_t_read q_t_side q_t_tall q_t_endRow q_t_endColumn q_t_endSide q_t_gone t_lineRow t_lineColumn t_lineSide t_lineMany q_t_ways q_t_codes q_t_many, aI (G.2 1) q_t_sign 36 res.2.2.2.1, aI (G.2 1) q_t_before 222 res.2.2.2.2.1, aI (G.2 1) q_t_ways 448 res.2.2.2.2.2]) (va_A [oX6 q_t t_length q_t_text t_size q_t_sign t_otherSize q_t_other q_t_before t_undoMany t_readSize q_t_read q_t_side q_t_tall q_t_endRow q_t_endColumn q_t_endSide q_t_gone t_lineRow t_lineColumn t_lineSide t_lineMany q_t_ways q_t_codes q_t_many, aI (G.2 1) q_t_sign 36 t_sign, aI (G.2 1) q_t_before 222 t_before, aI (G.2 1) q_t_ways 448 t_ways] sz)) 0 0 (va_A [oX6 q_t t_length q_t_text t_size q_t_sign t_otherSize q_t_other q_t_before t_undoMany t_readSize q_t_read q_t_side q_t_tall q_t_endRow q_t_endColumn q_t_endSide q_t_gone t_lineRow t_lineColumn t_lineSide t_lineMany q_t_ways q_t_codes q_t_many, aI (G.2 1) q_t_sign 36 t_sign, aI (G.2 1) q_t_before 222 t_before, aI (G.2 1) q_t_ways 448 t_ways] sz) := by
  refine Met.ofQ (cc := cX6_take) (maxL := 3) (ret := (some .int)) (by decide) rfl ?_
  intro p e s m args below meth c s₁ Q hQ B hml hv
  obtain ⟨rfl, hsz, hP, hKW, hD0⟩ := hv
  have hK := hKW.1
  have hx := B.exec
  have hb := B.bytes
  have hr := B.returns
  have hts := atoms_spec (ws := wsX6_take) B.pre
  have hown : s.vm.findClass RX6 = some m.cls := findClass_of_methodNamed B.named
  have hlocks := B.notSynchronized
  have iX6 : ∀ w ∈ u_ws RX6 TX6 23, w ∈ wsX6_take := by decide +kernel
  have fl_54 := hts (.fieldLink RX6 54 "AlternateSignsModel" "size" "I") (by decide +kernel)
  have fl_13 := hts (.fieldLink RX6 13 "AlternateSignsModel" "sign" "[I") (by decide +kernel)
  subst hsz
  have hD := hD0.self (sz := s.heap.size)
  generalize hAe : va_A [oX6 q_t t_length q_t_text t_size q_t_sign t_otherSize q_t_other q_t_before t_undoMany t_readSize q_t_read q_t_side q_t_tall q_t_endRow q_t_endColumn q_t_endSide q_t_gone t_lineRow t_lineColumn t_lineSide t_lineMany q_t_ways q_t_codes q_t_many, aI (G.2 1) q_t_sign 36 t_sign, aI (G.2 1) q_t_before 222 t_before, aI (G.2 1) q_t_ways 448 t_ways] s.heap.size = A at hD hQ
  have hA : ∀ q : Nat, s.heap.size ≤ q → A q := fun q h => by rw [← hAe]; exact Or.inr h
  have hS : va_S A s.heap s.heap [] := va_S.rf
  have hl := lv_entry ([.ref q_t, .int p1, .int p2]) (n := 3) (Nat.le_of_ble_eq_true rfl)
  rw [lg_entry_eq]
  generalize (lg_sl ([.ref q_t, .int p1, .int p2]) ++ List.replicate (3 - (lg_sl ([.ref q_t, .int p1, .int p2])).length) Slot.unset).toArray = ls at hl ⊢
  have hl : lv_has ls 3 [(0, .ref q_t), (1, .int p1), (2, .int p2)] := hl
  unfold S_X6_take at hE
  refine lv_iload_n hx hb dX6_take_0 rfl (lv_at hl 1 rfl) ?_
  refine lv_i2l (v := p1.toInt64) hx hb dX6_take_1 rfl ?_
  refine lv_lconst (v := 1) hx hb dX6_take_2 (by decide) ?_
  refine lv_ldc2 (v := 6) hx hb hown (hts (.constantLong RX6 124 (6)) (by decide +kernel)) dX6_take_3 ?_
  obtain ⟨y6, hC_6, hE⟩ := Option.bind_eq_some_iff.mp hE
  obtain ⟨r_6, ex9⟩ : ∃ z, z = y6 := ⟨_, rfl⟩
  subst ex9
  try dsimp only at hE
  refine vp_callSi (va_Run.run (va_runS (As := [.long p1.toInt64, .long (1 : Int64), .long (6 : Int64)]) (rest := []) ⟨hx, hb, hml, hown, hts⟩ (c_X6_in (l := l) (G := G) (p1 := p1.toInt64) (p2 := (1 : Int64)) (p3 := (6 : Int64)) hC_6) (va_cwS 3 hts gX6_take_X6_in rfl rfl rfl kd_X6_in ⟨Nat.le_of_ble_eq_true rfl, Nat.le_of_ble_eq_true rfl⟩) (pv_S hKW (hP.sub (ws' := []) [] rfl)) rfl rfl hl.1 rfl (lv_room (Nat.le_of_ble_eq_true rfl)) dX6_take_6 ⟨Nat.zero_le _, Nat.zero_le _⟩)) (fun r9 hr9 => ?_)
  subst r9
  refine lv_if_ne (tgt := 14) hx hb dX6_take_9 (by decide) (fun c_9 => ?_) (fun c_9 => ?_)
  · replace hE := (if_neg c_9).symm.trans hE
    refine lv_iload_n hx hb dX6_take_14 rfl (lv_at hl 2 rfl) ?_
    refine lv_i2l (v := p2.toInt64) hx hb dX6_take_15 rfl ?_
    refine lv_lconst (v := 0) hx hb dX6_take_16 (by decide) ?_
    refine lv_aload_n hx hb dX6_take_17 rfl (lv_at hl 0 rfl) ?_
    refine lv_iload_n hx hb dX6_take_18 rfl (lv_at hl 1 rfl) ?_
    obtain ⟨y19, hC_19, hE⟩ := Option.bind_eq_some_iff.mp hE
    obtain ⟨r_19, m_19_0⟩ := y19
    try dsimp only at hE
    have hPc := hP.sub (ws' := [oX6 q_t t_length q_t_text t_size q_t_sign t_otherSize q_t_other q_t_before t_undoMany t_readSize q_t_read q_t_side q_t_tall q_t_endRow q_t_endColumn q_t_endSide q_t_gone t_lineRow t_lineColumn t_lineSide t_lineMany q_t_ways q_t_codes q_t_many, aI (G.2 1) q_t_ways 448 t_ways]) [0, 3] rfl
    have hDc := hD.sub (ws' := [oX6 q_t t_length q_t_text t_size q_t_sign t_otherSize q_t_other q_t_before t_undoMany t_readSize q_t_read q_t_side q_t_tall q_t_endRow q_t_endColumn q_t_endSide q_t_gone t_lineRow t_lineColumn t_lineSide t_lineMany q_t_ways q_t_codes q_t_many, aI (G.2 1) q_t_ways 448 t_ways]) [0, 3] (by decide) rfl
    have hFc := va_free (wc := [oX6 q_t t_length q_t_text t_size q_t_sign t_otherSize q_t_other q_t_before t_undoMany t_readSize q_t_read q_t_side q_t_tall q_t_endRow q_t_endColumn q_t_endSide q_t_gone t_lineRow t_lineColumn t_lineSide t_lineMany q_t_ways q_t_codes q_t_many, aI (G.2 1) q_t_ways 448 t_ways]) hD hS hA [0, 3] rfl
    refine va_calli (va_runV (As := [.int p1]) (rest := [.long (0 : Int64), .long p2.toInt64]) ⟨hx, hb, hml, hown, hts⟩ (c_X6_findWays (l := l) (G := G) _ (p1 := p1) (q_t := q_t) (t_length := t_length) (q_t_text := q_t_text) (t_size := t_size) (q_t_sign := q_t_sign) (t_otherSize := t_otherSize) (q_t_other := q_t_other) (q_t_before := q_t_before) (t_undoMany := t_undoMany) (t_readSize := t_readSize) (q_t_read := q_t_read) (q_t_side := q_t_side) (q_t_tall := q_t_tall) (q_t_endRow := q_t_endRow) (q_t_endColumn := q_t_endColumn) (q_t_endSide := q_t_endSide) (q_t_gone := q_t_gone) (t_lineRow := t_lineRow) (t_lineColumn := t_lineColumn) (t_lineSide := t_lineSide) (t_lineMany := t_lineMany) (q_t_ways := q_t_ways) (q_t_codes := q_t_codes) (q_t_many := q_t_many) (t_ways := t_ways) hC_19) (cwV 1 hts gX6_take_X6_findWays rfl rfl rfl kd_X6_findWays ⟨Nat.le_of_ble_eq_true rfl, Nat.le_of_ble_eq_true rfl⟩) (iv_V hKW hPc hDc (ci := 6) (q0 := 0) rfl rfl) rfl rfl hl.1 rfl (lv_room (Nat.le_of_ble_eq_true rfl)) dX6_take_19 ⟨Nat.zero_le _, Nat.zero_le _⟩) hS (fun q _ h => hFc q h) hFc (fun r9 u9 t9 H1 locs ht9 hvm9 hw9 hB9 hz9 hk9 hS => ?_)
    subst r9
    obtain ⟨hP1, hD1⟩ := hB9
    rw [ht9] at hP1
    obtain ⟨hP, hD⟩ := va_join (wr := [aI (G.2 1) q_t_sign 36 t_sign, aI (G.2 1) q_t_before 222 t_before]) (w1 := [oX6 q_t t_length q_t_text t_size q_t_sign t_otherSize q_t_other q_t_before t_undoMany t_readSize q_t_read q_t_side q_t_tall q_t_endRow q_t_endColumn q_t_endSide q_t_gone t_lineRow t_lineColumn t_lineSide t_lineMany q_t_ways q_t_codes q_t_many, aI (G.2 1) q_t_ways 448 m_19_0]) hP hD [0, 3] [1, 2] rfl rfl (by decide) (by decide) hk9 hFc hP1 hD1
    have hP := hP.sub (ws' := [oX6 q_t t_length q_t_text t_size q_t_sign t_otherSize q_t_other q_t_before t_undoMany t_readSize q_t_read q_t_side q_t_tall q_t_endRow q_t_endColumn q_t_endSide q_t_gone t_lineRow t_lineColumn t_lineSide t_lineMany q_t_ways q_t_codes q_t_many, aI (G.2 1) q_t_sign 36 t_sign, aI (G.2 1) q_t_before 222 t_before, aI (G.2 1) q_t_ways 448 m_19_0]) [2, 0, 1, 3] rfl
    have hD := hD.sub (ws' := [oX6 q_t t_length q_t_text t_size q_t_sign t_otherSize q_t_other q_t_before t_undoMany t_readSize q_t_read q_t_side q_t_tall q_t_endRow q_t_endColumn q_t_endSide q_t_gone t_lineRow t_lineColumn t_lineSide t_lineMany q_t_ways q_t_codes q_t_many, aI (G.2 1) q_t_sign 36 t_sign, aI (G.2 1) q_t_before 222 t_before, aI (G.2 1) q_t_ways 448 m_19_0]) [2, 0, 1, 3] (by decide) rfl
    clear hPc hDc hFc hP1 hD1 hk9 hz9 hvm9
    refine lv_iconst (v := 1) hx hb dX6_take_22 (by decide) ?_
    refine lv_isub hx hb dX6_take_23 ?_
    refine lv_i2l (v := (r_19 - (1 : Int32)).toInt64) hx hb dX6_take_24 rfl ?_
    obtain ⟨y25, hC_25, hE⟩ := Option.bind_eq_some_iff.mp hE
    obtain ⟨r_25, ex9⟩ : ∃ z, z = y25 := ⟨_, rfl⟩
    subst ex9
    try dsimp only at hE
    refine vp_callSi (va_Run.run (va_runS (As := [.long p2.toInt64, .long (0 : Int64), .long ((r_19 - (1 : Int32)).toInt64)]) (rest := []) ⟨hx, hb, hml, hown, hts⟩ (c_X6_in (l := l) (G := G) (p1 := p2.toInt64) (p2 := (0 : Int64)) (p3 := (r_19 - (1 : Int32)).toInt64) hC_25) (va_cwS 3 hts gX6_take_X6_in rfl rfl rfl kd_X6_in ⟨Nat.le_of_ble_eq_true rfl, Nat.le_of_ble_eq_true rfl⟩) (pv_S hKW (hP.sub (ws' := []) [] rfl)) rfl rfl hl.1 rfl (lv_room (Nat.le_of_ble_eq_true rfl)) dX6_take_25 ⟨Nat.zero_le _, Nat.zero_le _⟩)) (fun r9 hr9 => ?_)
    subst r9
    refine lv_if_ne (tgt := 34) hx hb dX6_take_28 (by decide) (fun c_28 => ?_) (fun c_28 => ?_)
    · replace hE := (if_neg c_28).symm.trans hE
      refine lv_aload_n hx hb dX6_take_34 rfl (lv_at hl 0 rfl) ?_
      obtain ⟨y35, hC_35, hE⟩ := Option.bind_eq_some_iff.mp hE
      obtain ⟨m_35_0, m_35_1⟩ := y35
      try dsimp only at hE
      have hPc := hP.sub (ws' := [oX6 q_t t_length q_t_text t_size q_t_sign t_otherSize q_t_other q_t_before t_undoMany t_readSize q_t_read q_t_side q_t_tall q_t_endRow q_t_endColumn q_t_endSide q_t_gone t_lineRow t_lineColumn t_lineSide t_lineMany q_t_ways q_t_codes q_t_many, aI (G.2 1) q_t_sign 36 t_sign, aI (G.2 1) q_t_before 222 t_before]) [0, 1, 2] rfl
      have hDc := hD.sub (ws' := [oX6 q_t t_length q_t_text t_size q_t_sign t_otherSize q_t_other q_t_before t_undoMany t_readSize q_t_read q_t_side q_t_tall q_t_endRow q_t_endColumn q_t_endSide q_t_gone t_lineRow t_lineColumn t_lineSide t_lineMany q_t_ways q_t_codes q_t_many, aI (G.2 1) q_t_sign 36 t_sign, aI (G.2 1) q_t_before 222 t_before]) [0, 1, 2] (by decide) rfl
      have hFc := va_free (wc := [oX6 q_t t_length q_t_text t_size q_t_sign t_otherSize q_t_other q_t_before t_undoMany t_readSize q_t_read q_t_side q_t_tall q_t_endRow q_t_endColumn q_t_endSide q_t_gone t_lineRow t_lineColumn t_lineSide t_lineMany q_t_ways q_t_codes q_t_many, aI (G.2 1) q_t_sign 36 t_sign, aI (G.2 1) q_t_before 222 t_before]) hD hS hA [0, 1, 2] rfl
      refine va_callv (va_runV (As := []) (rest := []) ⟨hx, hb, hml, hown, hts⟩ (c_X6_note (l := l) (G := G) _ (q_t := q_t) (t_length := t_length) (q_t_text := q_t_text) (t_size := t_size) (q_t_sign := q_t_sign) (t_otherSize := t_otherSize) (q_t_other := q_t_other) (q_t_before := q_t_before) (t_undoMany := t_undoMany) (t_readSize := t_readSize) (q_t_read := q_t_read) (q_t_side := q_t_side) (q_t_tall := q_t_tall) (q_t_endRow := q_t_endRow) (q_t_endColumn := q_t_endColumn) (q_t_endSide := q_t_endSide) (q_t_gone := q_t_gone) (t_lineRow := t_lineRow) (t_lineColumn := t_lineColumn) (t_lineSide := t_lineSide) (t_lineMany := t_lineMany) (q_t_ways := q_t_ways) (q_t_codes := q_t_codes) (q_t_many := q_t_many) (t_sign := t_sign) (t_before := t_before) hC_35) (cwV 0 hts gX6_take_X6_note rfl rfl rfl kd_X6_note ⟨Nat.le_of_ble_eq_true rfl, Nat.le_of_ble_eq_true rfl⟩) (iv_V hKW hPc hDc (ci := 6) (q0 := 0) rfl rfl) rfl rfl hl.1 rfl (lv_room (Nat.le_of_ble_eq_true rfl)) dX6_take_35 ⟨Nat.zero_le _, Nat.zero_le _⟩) hS (fun q _ h => hFc q h) hFc (fun u9 t9 H1 locs ht9 hvm9 hw9 hB9 hz9 hk9 hS => ?_)
      obtain ⟨hP1, hD1⟩ := hB9
      rw [ht9] at hP1
      obtain ⟨hP, hD⟩ := va_join (wr := [aI (G.2 1) q_t_ways 448 m_19_0]) (w1 := [oX6 q_t t_length q_t_text t_size q_t_sign t_otherSize q_t_other q_t_before m_35_0 t_readSize q_t_read q_t_side q_t_tall q_t_endRow q_t_endColumn q_t_endSide q_t_gone t_lineRow t_lineColumn t_lineSide t_lineMany q_t_ways q_t_codes q_t_many, aI (G.2 1) q_t_sign 36 t_sign, aI (G.2 1) q_t_before 222 m_35_1]) hP hD [0, 1, 2] [3] rfl rfl (by decide) (by decide) hk9 hFc hP1 hD1
      have hP := hP.sub (ws' := [oX6 q_t t_length q_t_text t_size q_t_sign t_otherSize q_t_other q_t_before m_35_0 t_readSize q_t_read q_t_side q_t_tall q_t_endRow q_t_endColumn q_t_endSide q_t_gone t_lineRow t_lineColumn t_lineSide t_lineMany q_t_ways q_t_codes q_t_many, aI (G.2 1) q_t_sign 36 t_sign, aI (G.2 1) q_t_before 222 m_35_1, aI (G.2 1) q_t_ways 448 m_19_0]) [1, 2, 3, 0] rfl
      have hD := hD.sub (ws' := [oX6 q_t t_length q_t_text t_size q_t_sign t_otherSize q_t_other q_t_before m_35_0 t_readSize q_t_read q_t_side q_t_tall q_t_endRow q_t_endColumn q_t_endSide q_t_gone t_lineRow t_lineColumn t_lineSide t_lineMany q_t_ways q_t_codes q_t_many, aI (G.2 1) q_t_sign 36 t_sign, aI (G.2 1) q_t_before 222 m_35_1, aI (G.2 1) q_t_ways 448 m_19_0]) [1, 2, 3, 0] (by decide) rfl
      clear hPc hDc hFc hP1 hD1 hk9 hz9 hvm9
      refine lv_aload_n hx hb dX6_take_38 rfl (lv_at hl 0 rfl) ?_
      refine lv_iload_n hx hb dX6_take_39 rfl (lv_at hl 1 rfl) ?_
      refine va_put (D := G.1) (ci := 6) (v := .int p1) (ty := .int) (C := RX6) (T := TX6) (N := 23) hx hb hts iX6 tyX6 tyX6_ok nmX6 hown hK hP hD hS 0 rfl rfl 2 (by decide) fl_54 (fun _ h9 => h9) rfl (by decide +kernel) rfl rfl (Nat.le_of_ble_eq_true rfl) dX6_take_40 (fun H locs hP hD hS => ?_)
      have hP : va_P G.1 vwCl [oX6 q_t t_length q_t_text p1 q_t_sign t_otherSize q_t_other q_t_before m_35_0 t_readSize q_t_read q_t_side q_t_tall q_t_endRow q_t_endColumn q_t_endSide q_t_gone t_lineRow t_lineColumn t_lineSide t_lineMany q_t_ways q_t_codes q_t_many, aI (G.2 1) q_t_sign 36 t_sign, aI (G.2 1) q_t_before 222 m_35_1, aI (G.2 1) q_t_ways 448 m_19_0] H := hP
      have hD : va_D A [oX6 q_t t_length q_t_text p1 q_t_sign t_otherSize q_t_other q_t_before m_35_0 t_readSize q_t_read q_t_side q_t_tall q_t_endRow q_t_endColumn q_t_endSide q_t_gone t_lineRow t_lineColumn t_lineSide t_lineMany q_t_ways q_t_codes q_t_many, aI (G.2 1) q_t_sign 36 t_sign, aI (G.2 1) q_t_before 222 m_35_1, aI (G.2 1) q_t_ways 448 m_19_0] := hD
      refine lv_aload_n hx hb dX6_take_43 rfl (lv_at hl 0 rfl) ?_
      refine lv_iload_n hx hb dX6_take_44 rfl (lv_at hl 1 rfl) ?_
      refine lv_iload_n hx hb dX6_take_45 rfl (lv_at hl 2 rfl) ?_
      refine lv_aload_n hx hb dX6_take_46 rfl (lv_at hl 0 rfl) ?_
      refine va_get (D := G.1) (ci := 6) (v := .ref q_t_sign) (C := RX6) (T := TX6) (N := 23) hx hb hts iX6 hown hK hP 0 rfl rfl 3 (by decide) fl_13 (fun _ h9 => h9) rfl dX6_take_47 ?_
      obtain ⟨y50, hC_50, hE⟩ := Option.bind_eq_some_iff.mp hE
      obtain ⟨m_50_0, ex9⟩ : ∃ z, z = y50 := ⟨_, rfl⟩
      subst ex9
      try dsimp only at hE
      have hPc := hP.sub (ws' := [oX6 q_t t_length q_t_text p1 q_t_sign t_otherSize q_t_other q_t_before m_35_0 t_readSize q_t_read q_t_side q_t_tall q_t_endRow q_t_endColumn q_t_endSide q_t_gone t_lineRow t_lineColumn t_lineSide t_lineMany q_t_ways q_t_codes q_t_many, aI (G.2 1) q_t_ways 448 m_19_0, aI (G.2 1) q_t_sign 36 t_sign]) [0, 3, 1] rfl
      have hDc := hD.sub (ws' := [oX6 q_t t_length q_t_text p1 q_t_sign t_otherSize q_t_other q_t_before m_35_0 t_readSize q_t_read q_t_side q_t_tall q_t_endRow q_t_endColumn q_t_endSide q_t_gone t_lineRow t_lineColumn t_lineSide t_lineMany q_t_ways q_t_codes q_t_many, aI (G.2 1) q_t_ways 448 m_19_0, aI (G.2 1) q_t_sign 36 t_sign]) [0, 3, 1] (by decide) rfl
      have hFc := va_free (wc := [oX6 q_t t_length q_t_text p1 q_t_sign t_otherSize q_t_other q_t_before m_35_0 t_readSize q_t_read q_t_side q_t_tall q_t_endRow q_t_endColumn q_t_endSide q_t_gone t_lineRow t_lineColumn t_lineSide t_lineMany q_t_ways q_t_codes q_t_many, aI (G.2 1) q_t_ways 448 m_19_0, aI (G.2 1) q_t_sign 36 t_sign]) hD hS hA [0, 3, 1] rfl
      refine va_callv (va_runV (As := [.int p1, .int p2, .ref q_t_sign]) (rest := []) ⟨hx, hb, hml, hown, hts⟩ (c_X6_unrank (l := l) (G := G) _ (p1 := p1) (p2 := p2) (q_t := q_t) (t_length := t_length) (q_t_text := q_t_text) (t_size := p1) (q_t_sign := q_t_sign) (t_otherSize := t_otherSize) (q_t_other := q_t_other) (q_t_before := q_t_before) (t_undoMany := m_35_0) (t_readSize := t_readSize) (q_t_read := q_t_read) (q_t_side := q_t_side) (q_t_tall := q_t_tall) (q_t_endRow := q_t_endRow) (q_t_endColumn := q_t_endColumn) (q_t_endSide := q_t_endSide) (q_t_gone := q_t_gone) (t_lineRow := t_lineRow) (t_lineColumn := t_lineColumn) (t_lineSide := t_lineSide) (t_lineMany := t_lineMany) (q_t_ways := q_t_ways) (q_t_codes := q_t_codes) (q_t_many := q_t_many) (t_ways := m_19_0) (q_p3 := q_t_sign) (p3 := t_sign) hC_50) (cwV 3 hts gX6_take_X6_unrank rfl rfl rfl kd_X6_unrank ⟨Nat.le_of_ble_eq_true rfl, Nat.le_of_ble_eq_true rfl⟩) (iv_V hKW hPc hDc (ci := 6) (q0 := 0) rfl rfl) rfl rfl hl.1 rfl (lv_room (Nat.le_of_ble_eq_true rfl)) dX6_take_50 ⟨Nat.zero_le _, Nat.zero_le _⟩) hS (fun q _ h => hFc q h) hFc (fun u9 t9 H1 locs ht9 hvm9 hw9 hB9 hz9 hk9 hS => ?_)
      obtain ⟨hP1, hD1⟩ := hB9
      rw [ht9] at hP1
      obtain ⟨hP, hD⟩ := va_join (wr := [aI (G.2 1) q_t_before 222 m_35_1]) (w1 := [oX6 q_t t_length q_t_text p1 q_t_sign t_otherSize q_t_other q_t_before m_35_0 t_readSize q_t_read q_t_side q_t_tall q_t_endRow q_t_endColumn q_t_endSide q_t_gone t_lineRow t_lineColumn t_lineSide t_lineMany q_t_ways q_t_codes q_t_many, aI (G.2 1) q_t_ways 448 m_19_0, aI (G.2 1) q_t_sign 36 m_50_0]) hP hD [0, 3, 1] [2] rfl rfl (by decide) (by decide) hk9 hFc hP1 hD1
      have hP := hP.sub (ws' := [oX6 q_t t_length q_t_text p1 q_t_sign t_otherSize q_t_other q_t_before m_35_0 t_readSize q_t_read q_t_side q_t_tall q_t_endRow q_t_endColumn q_t_endSide q_t_gone t_lineRow t_lineColumn t_lineSide t_lineMany q_t_ways q_t_codes q_t_many, aI (G.2 1) q_t_sign 36 m_50_0, aI (G.2 1) q_t_before 222 m_35_1, aI (G.2 1) q_t_ways 448 m_19_0]) [1, 3, 0, 2] rfl
      have hD := hD.sub (ws' := [oX6 q_t t_length q_t_text p1 q_t_sign t_otherSize q_t_other q_t_before m_35_0 t_readSize q_t_read q_t_side q_t_tall q_t_endRow q_t_endColumn q_t_endSide q_t_gone t_lineRow t_lineColumn t_lineSide t_lineMany q_t_ways q_t_codes q_t_many, aI (G.2 1) q_t_sign 36 m_50_0, aI (G.2 1) q_t_before 222 m_35_1, aI (G.2 1) q_t_ways 448 m_19_0]) [1, 3, 0, 2] (by decide) rfl
      clear hPc hDc hFc hP1 hD1 hk9 hz9 hvm9
      refine lv_iload_n hx hb dX6_take_53 rfl (lv_at hl 1 rfl) ?_
      have e_0 := Option.some.inj hE
      subst e_0
      rw [hQ]
      exact W.iret (v := p1) hx hb hr (fun t ht _ => ⟨⟨_, (), rfl, rfl, by rw [ht]; exact hP, hD⟩, hS.F ht⟩) hS.2.2 dX6_take_54
    · replace hE := (if_pos c_28).symm.trans hE
      refine lv_bipush (v := -4) hx hb dX6_take_31 (by decide) ?_
      have e_0 := Option.some.inj hE
      subst e_0
      rw [hQ]
      exact W.iret (v := (-4 : Int32)) hx hb hr (fun t ht _ => ⟨⟨_, (), rfl, rfl, by rw [ht]; exact hP, hD⟩, hS.F ht⟩) hS.2.2 dX6_take_33
  · replace hE := (if_pos c_9).symm.trans hE
    refine lv_iconst (v := -1) hx hb dX6_take_12 (by decide) ?_
    have e_0 := Option.some.inj hE
    subst e_0
    rw [hQ]
    exact W.iret (v := (-1 : Int32)) hx hb hr (fun t ht _ => ⟨⟨_, (), rfl, rfl, by rw [ht]; exact hP, hD⟩, hS.F ht⟩) hS.2.2 dX6_take_13
def S_X6_many (p1 : Int32) (p2 : Int32) (t_ways : Nat → Int32) : Option (Int32 × (Nat → Int32)) := (S_X6_in p1.toInt64 (1 : Int64) (6 : Int64)).bind (fun (y6 : Int32) => if y6 = 0 then some ((-1 : Int32), t_ways) else (S_X6_in p2.toInt64 (-1 : Int64) ((p1 - (1 : Int32)).toInt64)).bind (fun (y21 : Int32) => if y21 = 0 then some ((-1 : Int32), t_ways) else (S_X6_findWays p1 t_ways).bind (fun (y31 : Int32 × (Nat → Int32)) => if 0 ≤ p2 then ck (inb ((64 : Int32) + ((1 : Int32) <<< (p2 &&& 31))) 448) (some (y31.2 ((64 : Int32) + ((1 : Int32) <<< (p2 &&& 31))).toNatClampNeg, y31.2)) else some (y31.1, y31.2))))
theorem kd_X6_many : yX6_many.cls = RX6 ∧ yX6_many.cls ≠ "java/lang/invoke/MethodHandle" ∧ yX6_many.cls ≠ "java/lang/invoke/VarHandle" ∧ (parseMethodDescriptor yX6_many.desc).map (fun d => d.parameters.length) = some 2 := by decide +kernel
set_option maxHeartbeats 4000000 in
set_option maxRecDepth 100000 in
theorem c_X6_many {l : Launch} {G : kG} (sz : Nat) {p1 : Int32} {p2 : Int32} {q_t : Nat} {t_length : Int32} {q_t_text : Nat} {t_size : Int32} {q_t_sign : Nat} {t_otherSize : Int32} {q_t_other : Nat} {q_t_before : Nat} {t_undoMany : Int32} {t_readSize : Int32} {q_t_read : Nat} {q_t_side : Nat} {q_t_tall : Nat} {q_t_endRow : Nat} {q_t_endColumn : Nat} {q_t_endSide : Nat} {q_t_gone : Nat} {t_lineRow : Int32} {t_lineColumn : Int32} {t_lineSide : Int32} {t_lineMany : Int32} {q_t_ways : Nat} {q_t_codes : Nat} {q_t_many : Nat} {t_ways : Nat → Int32} {res : Int32 × (Nat → Int32)} (hE : S_X6_many p1 p2 t_ways = some res) : Met l yX6_many wsX6_many ({ frames := 3, cells := 0, slots := 0, locals := 74 }) (va_Pc [.ref q_t, .int p1, .int p2] (fun U => U.heap.size = sz ∧ va_P G.1 vwCl [oX6 q_t t_length q_t_text t_size q_t_sign t_otherSize q_t_other q_t_before t_undoMany t_readSize q_t_read q_t_side q_t_tall q_t_endRow q_t_endColumn q_t_endSide q_t_gone t_lineRow t_lineColumn t_lineSide t_lineMany q_t_ways q_t_codes q_t_many, aI (G.2 1) q_t_ways 448 t_ways] U.heap ∧ kw G U ∧ va_D (fun _ => True) [oX6 q_t t_length q_t_text t_size q_t_sign t_otherSize q_t_other q_t_before t_undoMany t_readSize q_t_read q_t_side q_t_tall q_t_endRow q_t_endColumn q_t_endSide q_t_gone t_lineRow t_lineColumn t_lineSide t_lineMany q_t_ways q_t_codes q_t_many, aI (G.2 1) q_t_ways 448 t_ways])) (va_Qi (fun r (_ : Unit) => r = res.1) (fun _ t => va_P G.1 vwCl [oX6 q_t t_length q_t_text t_size q_t_sign t_otherSize q_t_other q_t_before t_undoMany t_readSize q_t_read q_t_side q_t_tall q_t_endRow q_t_endColumn q_t_endSide q_t_gone t_lineRow t_lineColumn t_lineSide t_lineMany q_t_ways q_t_codes q_t_many, aI (G.2 1) q_t_ways 448 res.2] t.heap ∧ va_D (va_A [oX6 q_t t_length q_t_text t_size q_t_sign t_otherSize q_t_other q_t_before t_undoMany t_readSize q_t_read q_t_side q_t_tall q_t_endRow q_t_endColumn q_t_endSide q_t_gone t_lineRow t_lineColumn t_lineSide t_lineMany q_t_ways q_t_codes q_t_many, aI (G.2 1) q_t_ways 448 t_ways] sz) [oX6 q_t t_length q_t_text t_size q_t_sign t_otherSize q_t_other q_t_before t_undoMany t_readSize q_t_read q_t_side q_t_tall q_t_endRow q_t_endColumn q_t_endSide q_t_gone t_lineRow t_lineColumn t_lineSide t_lineMany q_t_ways q_t_codes q_t_many, aI (G.2 1) q_t_ways 448 res.2]) (va_A [oX6 q_t t_length q_t_text t_size q_t_sign t_otherSize q_t_other q_t_before t_undoMany t_readSize q_t_read q_t_side q_t_tall q_t_endRow q_t_endColumn q_t_endSide q_t_gone t_lineRow t_lineColumn t_lineSide t_lineMany q_t_ways q_t_codes q_t_many, aI (G.2 1) q_t_ways 448 t_ways] sz)) 0 0 (va_A [oX6 q_t t_length q_t_text t_size q_t_sign t_otherSize q_t_other q_t_before t_undoMany t_readSize q_t_read q_t_side q_t_tall q_t_endRow q_t_endColumn q_t_endSide q_t_gone t_lineRow t_lineColumn t_lineSide t_lineMany q_t_ways q_t_codes q_t_many, aI (G.2 1) q_t_ways 448 t_ways] sz) := by
  refine Met.ofQ (cc := cX6_many) (maxL := 4) (ret := (some .int)) (by decide) rfl ?_
  intro p e s m args below meth c s₁ Q hQ B hml hv
  obtain ⟨rfl, hsz, hP, hKW, hD0⟩ := hv
  have hK := hKW.1
  have hx := B.exec
  have hb := B.bytes
  have hr := B.returns
  have hts := atoms_spec (ws := wsX6_many) B.pre
  have hown : s.vm.findClass RX6 = some m.cls := findClass_of_methodNamed B.named
  have hlocks := B.notSynchronized
  have iX6 : ∀ w ∈ u_ws RX6 TX6 23, w ∈ wsX6_many := by decide +kernel
  have fl_44 := hts (.fieldLink RX6 44 "AlternateSignsModel" "ways" "[I") (by decide +kernel)
  subst hsz
  have hD := hD0.self (sz := s.heap.size)
  generalize hAe : va_A [oX6 q_t t_length q_t_text t_size q_t_sign t_otherSize q_t_other q_t_before t_undoMany t_readSize q_t_read q_t_side q_t_tall q_t_endRow q_t_endColumn q_t_endSide q_t_gone t_lineRow t_lineColumn t_lineSide t_lineMany q_t_ways q_t_codes q_t_many, aI (G.2 1) q_t_ways 448 t_ways] s.heap.size = A at hD hQ
  have hA : ∀ q : Nat, s.heap.size ≤ q → A q := fun q h => by rw [← hAe]; exact Or.inr h
  have hS : va_S A s.heap s.heap [] := va_S.rf
  have hl := lv_entry ([.ref q_t, .int p1, .int p2]) (n := 4) (Nat.le_of_ble_eq_true rfl)
  rw [lg_entry_eq]
  generalize (lg_sl ([.ref q_t, .int p1, .int p2]) ++ List.replicate (4 - (lg_sl ([.ref q_t, .int p1, .int p2])).length) Slot.unset).toArray = ls at hl ⊢
  have hl : lv_has ls 4 [(0, .ref q_t), (1, .int p1), (2, .int p2)] := hl
  unfold S_X6_many at hE
  refine lv_iload_n hx hb dX6_many_0 rfl (lv_at hl 1 rfl) ?_
  refine lv_i2l (v := p1.toInt64) hx hb dX6_many_1 rfl ?_
  refine lv_lconst (v := 1) hx hb dX6_many_2 (by decide) ?_
  refine lv_ldc2 (v := 6) hx hb hown (hts (.constantLong RX6 124 (6)) (by decide +kernel)) dX6_many_3 ?_
  obtain ⟨y6, hC_6, hE⟩ := Option.bind_eq_some_iff.mp hE
  obtain ⟨r_6, ex9⟩ : ∃ z, z = y6 := ⟨_, rfl⟩
  subst ex9
  try dsimp only at hE
  refine vp_callSi (va_Run.run (va_runS (As := [.long p1.toInt64, .long (1 : Int64), .long (6 : Int64)]) (rest := []) ⟨hx, hb, hml, hown, hts⟩ (c_X6_in (l := l) (G := G) (p1 := p1.toInt64) (p2 := (1 : Int64)) (p3 := (6 : Int64)) hC_6) (va_cwS 3 hts gX6_many_X6_in rfl rfl rfl kd_X6_in ⟨Nat.le_of_ble_eq_true rfl, Nat.le_of_ble_eq_true rfl⟩) (pv_S hKW (hP.sub (ws' := []) [] rfl)) rfl rfl hl.1 rfl (lv_room (Nat.le_of_ble_eq_true rfl)) dX6_many_6 ⟨Nat.zero_le _, Nat.zero_le _⟩)) (fun r9 hr9 => ?_)
  subst r9
  refine lv_if_eq (tgt := 27) hx hb dX6_many_9 (by decide) (fun c_9 => ?_) (fun c_9 => ?_)
  · replace hE := (if_pos c_9).symm.trans hE
    refine lv_iconst (v := -1) hx hb dX6_many_27 (by decide) ?_
    have e_0 := Option.some.inj hE
    subst e_0
    rw [hQ]
    exact W.iret (v := (-1 : Int32)) hx hb hr (fun t ht _ => ⟨⟨_, (), rfl, rfl, by rw [ht]; exact hP, hD⟩, hS.F ht⟩) hS.2.2 dX6_many_28
  · replace hE := (if_neg c_9).symm.trans hE
    refine lv_iload_n hx hb dX6_many_12 rfl (lv_at hl 2 rfl) ?_
    refine lv_i2l (v := p2.toInt64) hx hb dX6_many_13 rfl ?_
    refine lv_ldc2 (v := -1) hx hb hown (hts (.constantLong RX6 193 (-1)) (by decide +kernel)) dX6_many_14 ?_
    refine lv_iload_n hx hb dX6_many_17 rfl (lv_at hl 1 rfl) ?_
    refine lv_iconst (v := 1) hx hb dX6_many_18 (by decide) ?_
    refine lv_isub hx hb dX6_many_19 ?_
    refine lv_i2l (v := (p1 - (1 : Int32)).toInt64) hx hb dX6_many_20 rfl ?_
    obtain ⟨y21, hC_21, hE⟩ := Option.bind_eq_some_iff.mp hE
    obtain ⟨r_21, ex9⟩ : ∃ z, z = y21 := ⟨_, rfl⟩
    subst ex9
    try dsimp only at hE
    refine vp_callSi (va_Run.run (va_runS (As := [.long p2.toInt64, .long (-1 : Int64), .long ((p1 - (1 : Int32)).toInt64)]) (rest := []) ⟨hx, hb, hml, hown, hts⟩ (c_X6_in (l := l) (G := G) (p1 := p2.toInt64) (p2 := (-1 : Int64)) (p3 := (p1 - (1 : Int32)).toInt64) hC_21) (va_cwS 3 hts gX6_many_X6_in rfl rfl rfl kd_X6_in ⟨Nat.le_of_ble_eq_true rfl, Nat.le_of_ble_eq_true rfl⟩) (pv_S hKW (hP.sub (ws' := []) [] rfl)) rfl rfl hl.1 rfl (lv_room (Nat.le_of_ble_eq_true rfl)) dX6_many_21 ⟨Nat.zero_le _, Nat.zero_le _⟩)) (fun r9 hr9 => ?_)
    subst r9
    refine lv_if_ne (tgt := 29) hx hb dX6_many_24 (by decide) (fun c_24 => ?_) (fun c_24 => ?_)
    · replace hE := (if_neg c_24).symm.trans hE
      refine lv_aload_n hx hb dX6_many_29 rfl (lv_at hl 0 rfl) ?_
      refine lv_iload_n hx hb dX6_many_30 rfl (lv_at hl 1 rfl) ?_
      obtain ⟨y31, hC_31, hE⟩ := Option.bind_eq_some_iff.mp hE
      obtain ⟨r_31, m_31_0⟩ := y31
      try dsimp only at hE
      have hPc := hP.sub (ws' := [oX6 q_t t_length q_t_text t_size q_t_sign t_otherSize q_t_other q_t_before t_undoMany t_readSize q_t_read q_t_side q_t_tall q_t_endRow q_t_endColumn q_t_endSide q_t_gone t_lineRow t_lineColumn t_lineSide t_lineMany q_t_ways q_t_codes q_t_many, aI (G.2 1) q_t_ways 448 t_ways]) [0, 1] rfl
      have hDc := hD.sub (ws' := [oX6 q_t t_length q_t_text t_size q_t_sign t_otherSize q_t_other q_t_before t_undoMany t_readSize q_t_read q_t_side q_t_tall q_t_endRow q_t_endColumn q_t_endSide q_t_gone t_lineRow t_lineColumn t_lineSide t_lineMany q_t_ways q_t_codes q_t_many, aI (G.2 1) q_t_ways 448 t_ways]) [0, 1] (by decide) rfl
      have hFc := va_free (wc := [oX6 q_t t_length q_t_text t_size q_t_sign t_otherSize q_t_other q_t_before t_undoMany t_readSize q_t_read q_t_side q_t_tall q_t_endRow q_t_endColumn q_t_endSide q_t_gone t_lineRow t_lineColumn t_lineSide t_lineMany q_t_ways q_t_codes q_t_many, aI (G.2 1) q_t_ways 448 t_ways]) hD hS hA [0, 1] rfl
      refine va_calli (va_runV (As := [.int p1]) (rest := []) ⟨hx, hb, hml, hown, hts⟩ (c_X6_findWays (l := l) (G := G) _ (p1 := p1) (q_t := q_t) (t_length := t_length) (q_t_text := q_t_text) (t_size := t_size) (q_t_sign := q_t_sign) (t_otherSize := t_otherSize) (q_t_other := q_t_other) (q_t_before := q_t_before) (t_undoMany := t_undoMany) (t_readSize := t_readSize) (q_t_read := q_t_read) (q_t_side := q_t_side) (q_t_tall := q_t_tall) (q_t_endRow := q_t_endRow) (q_t_endColumn := q_t_endColumn) (q_t_endSide := q_t_endSide) (q_t_gone := q_t_gone) (t_lineRow := t_lineRow) (t_lineColumn := t_lineColumn) (t_lineSide := t_lineSide) (t_lineMany := t_lineMany) (q_t_ways := q_t_ways) (q_t_codes := q_t_codes) (q_t_many := q_t_many) (t_ways := t_ways) hC_31) (cwV 1 hts gX6_many_X6_findWays rfl rfl rfl kd_X6_findWays ⟨Nat.le_of_ble_eq_true rfl, Nat.le_of_ble_eq_true rfl⟩) (iv_V hKW hPc hDc (ci := 6) (q0 := 0) rfl rfl) rfl rfl hl.1 rfl (lv_room (Nat.le_of_ble_eq_true rfl)) dX6_many_31 ⟨Nat.zero_le _, Nat.zero_le _⟩) hS (fun q _ h => hFc q h) hFc (fun r9 u9 t9 H1 locs ht9 hvm9 hw9 hB9 hz9 hk9 hS => ?_)
      subst r9
      obtain ⟨hP1, hD1⟩ := hB9
      rw [ht9] at hP1
      obtain ⟨hP, hD⟩ := va_join (wr := []) (w1 := [oX6 q_t t_length q_t_text t_size q_t_sign t_otherSize q_t_other q_t_before t_undoMany t_readSize q_t_read q_t_side q_t_tall q_t_endRow q_t_endColumn q_t_endSide q_t_gone t_lineRow t_lineColumn t_lineSide t_lineMany q_t_ways q_t_codes q_t_many, aI (G.2 1) q_t_ways 448 m_31_0]) hP hD [0, 1] [] rfl rfl (by decide) (by decide) hk9 hFc hP1 hD1
      have hP := hP.sub (ws' := [oX6 q_t t_length q_t_text t_size q_t_sign t_otherSize q_t_other q_t_before t_undoMany t_readSize q_t_read q_t_side q_t_tall q_t_endRow q_t_endColumn q_t_endSide q_t_gone t_lineRow t_lineColumn t_lineSide t_lineMany q_t_ways q_t_codes q_t_many, aI (G.2 1) q_t_ways 448 m_31_0]) [0, 1] rfl
      have hD := hD.sub (ws' := [oX6 q_t t_length q_t_text t_size q_t_sign t_otherSize q_t_other q_t_before t_undoMany t_readSize q_t_read q_t_side q_t_tall q_t_endRow q_t_endColumn q_t_endSide q_t_gone t_lineRow t_lineColumn t_lineSide t_lineMany q_t_ways q_t_codes q_t_many, aI (G.2 1) q_t_ways 448 m_31_0]) [0, 1] (by decide) rfl
      clear hPc hDc hFc hP1 hD1 hk9 hz9 hvm9
      refine lv_istore_n (lv' := [(3, .int r_31), (0, .ref q_t), (1, .int p1), (2, .int p2)]) hx hb dX6_many_34 rfl hl (by decide) rfl (fun ls hl => ?_)
      refine lv_iload_n hx hb dX6_many_35 rfl (lv_at hl 3 rfl) ?_
      refine lv_if_ge (tgt := 43) hx hb dX6_many_36 (by decide) (fun c_36 => ?_) (fun c_36 => ?_)
      · replace hE := (if_pos c_36).symm.trans hE
        refine lv_aload_n hx hb dX6_many_43 rfl (lv_at hl 1 rfl) ?_
        refine va_get (D := G.1) (ci := 6) (v := .ref q_t_ways) (C := RX6) (T := TX6) (N := 23) hx hb hts iX6 hown hK hP 0 rfl rfl 20 (by decide) fl_44 (fun _ h9 => h9) rfl dX6_many_44 ?_
        refine lv_bipush (v := 64) hx hb dX6_many_47 (by decide) ?_
        refine lv_iconst (v := 1) hx hb dX6_many_49 (by decide) ?_
        refine lv_iload_n hx hb dX6_many_50 rfl (lv_at hl 3 rfl) ?_
        refine lv_ishl hx hb dX6_many_51 ?_
        refine lv_iadd hx hb dX6_many_52 ?_
        obtain ⟨hi_53, hE⟩ := ck_some hE
        refine va_iald hx hb hK hP 1 1 rfl rfl (inb_in hi_53) dX6_many_53 ?_
        have e_0 := Option.some.inj hE
        subst e_0
        rw [hQ]
        exact W.iret (v := m_31_0 ((64 : Int32) + ((1 : Int32) <<< (p2 &&& 31))).toNatClampNeg) hx hb hr (fun t ht _ => ⟨⟨_, (), rfl, rfl, by rw [ht]; exact hP, hD⟩, hS.F ht⟩) hS.2.2 dX6_many_54
      · replace hE := (if_neg c_36).symm.trans hE
        refine lv_iload_n hx hb dX6_many_39 rfl (lv_at hl 0 rfl) ?_
        refine lv_goto (tgt := 54) hx hb dX6_many_40 (by decide) ?_
        have e_0 := Option.some.inj hE
        subst e_0
        rw [hQ]
        exact W.iret (v := r_31) hx hb hr (fun t ht _ => ⟨⟨_, (), rfl, rfl, by rw [ht]; exact hP, hD⟩, hS.F ht⟩) hS.2.2 dX6_many_54
    · replace hE := (if_pos c_24).symm.trans hE
      refine lv_iconst (v := -1) hx hb dX6_many_27 (by decide) ?_
      have e_0 := Option.some.inj hE
      subst e_0
      rw [hQ]
      exact W.iret (v := (-1 : Int32)) hx hb hr (fun t ht _ => ⟨⟨_, (), rfl, rfl, by rw [ht]; exact hP, hD⟩, hS.F ht⟩) hS.2.2 dX6_many_28
def S_X6_partners (p2 : Int32) (t_lineRow : Int32) (t_lineColumn : Int32) (t_lineSide : Int32) (t_lineMany : Int32) (t_endRow : Nat → Int32) (t_endColumn : Nat → Int32) (t_endSide : Nat → Int32) (t_gone : Nat → Int32) (p1 : Nat → Int32) : Option (Int64 × Int32 × Int32 × Int32 × Int32 × (Nat → Int32) × (Nat → Int32) × (Nat → Int32) × (Nat → Int32)) := (S_X6_findEnds p2 t_endRow t_endColumn t_endSide p1).bind (fun (y3 : (Nat → Int32) × (Nat → Int32) × (Nat → Int32)) => itr (fun (x1 : Int64 × Int32 × Int32 × Int32 × Int32 × Int32 × (Nat → Int32)) => if ((2 : Int32) * p2) ≤ x1.2.1 then some (.inr (x1.1, x1.2.2.1, x1.2.2.2.1, x1.2.2.2.2.1, x1.2.2.2.2.2.1, y3.1, y3.2.1, y3.2.2, x1.2.2.2.2.2.2)) else (S_X6_goes p2 x1.2.1 y3.1 y3.2.1 y3.2.2 x1.2.2.2.2.2.2 p1).bind (fun (y29 : Int32 × Int32 × Int32 × Int32 × Int32 × (Nat → Int32)) => some (.inl (((12 : Int64) * x1.1) + y29.1.toInt64, x1.2.1 + (1 : Int32), y29.2.1, y29.2.2.1, y29.2.2.2.1, y29.2.2.2.2.1, y29.2.2.2.2.2)))) 10000 ((0 : Int64), (0 : Int32), t_lineRow, t_lineColumn, t_lineSide, t_lineMany, t_gone))
theorem kd_X6_partners : yX6_partners.cls = RX6 ∧ yX6_partners.cls ≠ "java/lang/invoke/MethodHandle" ∧ yX6_partners.cls ≠ "java/lang/invoke/VarHandle" ∧ (parseMethodDescriptor yX6_partners.desc).map (fun d => d.parameters.length) = some 2 := by decide +kernel
set_option maxHeartbeats 4000000 in
set_option maxRecDepth 100000 in
theorem c_X6_partners {l : Launch} {G : kG} (sz : Nat) {p2 : Int32} {q_t : Nat} {t_length : Int32} {q_t_text : Nat} {t_size : Int32} {q_t_sign : Nat} {t_otherSize : Int32} {q_t_other : Nat} {q_t_before : Nat} {t_undoMany : Int32} {t_readSize : Int32} {q_t_read : Nat} {q_t_side : Nat} {q_t_tall : Nat} {q_t_endRow : Nat} {q_t_endColumn : Nat} {q_t_endSide : Nat} {q_t_gone : Nat} {t_lineRow : Int32} {t_lineColumn : Int32} {t_lineSide : Int32} {t_lineMany : Int32} {q_t_ways : Nat} {q_t_codes : Nat} {q_t_many : Nat} {t_endRow : Nat → Int32} {t_endColumn : Nat → Int32} {t_endSide : Nat → Int32} {t_gone : Nat → Int32} {q_p1 : Nat} {p1 : Nat → Int32} {res : Int64 × Int32 × Int32 × Int32 × Int32 × (Nat → Int32) × (Nat → Int32) × (Nat → Int32) × (Nat → Int32)} (hE : S_X6_partners p2 t_lineRow t_lineColumn t_lineSide t_lineMany t_endRow t_endColumn t_endSide t_gone p1 = some res) : Met l yX6_partners wsX6_partners ({ frames := 4, cells := 0, slots := 0, locals := 97 }) (va_Pc [.ref q_t, .ref q_p1, .int p2] (fun U => U.heap.size = sz ∧ va_P G.1 vwCl [oX6 q_t t_length q_t_text t_size q_t_sign t_otherSize q_t_other q_t_before t_undoMany t_readSize q_t_read q_t_side q_t_tall q_t_endRow q_t_endColumn q_t_endSide q_t_gone t_lineRow t_lineColumn t_lineSide t_lineMany q_t_ways q_t_codes q_t_many, aI (G.2 1) q_t_endRow 12 t_endRow, aI (G.2 1) q_t_endColumn 12 t_endColumn, aI (G.2 1) q_t_endSide 12 t_endSide, aI (G.2 3) q_t_gone 36 t_gone, aI (G.2 1) q_p1 36 p1] U.heap ∧ kw G U ∧ va_D (fun _ => True) [oX6 q_t t_length q_t_text t_size q_t_sign t_otherSize q_t_other q_t_before t_undoMany t_readSize q_t_read q_t_side q_t_tall q_t_endRow q_t_endColumn q_t_endSide q_t_gone t_lineRow t_lineColumn t_lineSide t_lineMany q_t_ways q_t_codes q_t_many, aI (G.2 1) q_t_endRow 12 t_endRow, aI (G.2 1) q_t_endColumn 12 t_endColumn, aI (G.2 1) q_t_endSide 12 t_endSide, aI (G.2 3) q_t_gone 36 t_gone, aI (G.2 1) q_p1 36 p1])) (va_Ql (fun r (_ : Unit) => r = res.1) (fun _ t => va_P G.1 vwCl [oX6 q_t t_length q_t_text t_size q_t_sign t_otherSize q_t_other q_t_before t_undoMany t_readSize q_t_read q_t_side q_t_tall q_t_endRow q_t_endColumn q_t_endSide q_t_gone res.2.1 res.2.2.1 res.2.2.2.1 res.2.2.2.2.1 q_t_ways q_t_codes q_t_many, aI (G.2 1) q_t_endRow 12 res.2.2.2.2.2.1, aI (G.2 1) q_t_endColumn 12 res.2.2.2.2.2.2.1, aI (G.2 1) q_t_endSide 12 res.2.2.2.2.2.2.2.1, aI (G.2 3) q_t_gone 36 res.2.2.2.2.2.2.2.2, aI (G.2 1) q_p1 36 p1] t.heap ∧ va_D (va_A [oX6 q_t t_length q_t_text t_size q_t_sign t_otherSize q_t_other q_t_before t_undoMany t_readSize q_t_read q_t_side q_t_tall q_t_endRow q_t_endColumn q_t_endSide q_t_gone t_lineRow t_lineColumn t_lineSide t_lineMany q_t_ways q_t_codes q_t_many, aI (G.2 1) q_t_endRow 12 t_endRow, aI (G.2 1) q_t_endColumn 12 t_endColumn, aI (G.2 1) q_t_endSide 12 t_endSide, aI (G.2 3) q_t_gone 36 t_gone, aI (G.2 1) q_p1 36 p1] sz) [oX6 q_t t_length q_t_text t_size q_t_sign t_otherSize q_t_other q_t_before t_undoMany t_readSize q_t_read q_t_side q_t_tall q_t_endRow q_t_endColumn q_t_endSide q_t_gone res.2.1 res.2.2.1 res.2.2.2.1 res.2.2.2.2.1 q_t_ways q_t_codes q_t_many, aI (G.2 1) q_t_endRow 12 res.2.2.2.2.2.1, aI (G.2 1) q_t_endColumn 12 res.2.2.2.2.2.2.1, aI (G.2 1) q_t_endSide 12 res.2.2.2.2.2.2.2.1, aI (G.2 3) q_t_gone 36 res.2.2.2.2.2.2.2.2, aI (G.2 1) q_p1 36 p1]) (va_A [oX6 q_t t_length q_t_text t_size q_t_sign t_otherSize q_t_other q_t_before t_undoMany t_readSize q_t_read q_t_side q_t_tall q_t_endRow q_t_endColumn q_t_endSide q_t_gone t_lineRow t_lineColumn t_lineSide t_lineMany q_t_ways q_t_codes q_t_many, aI (G.2 1) q_t_endRow 12 t_endRow, aI (G.2 1) q_t_endColumn 12 t_endColumn, aI (G.2 1) q_t_endSide 12 t_endSide, aI (G.2 3) q_t_gone 36 t_gone, aI (G.2 1) q_p1 36 p1] sz)) 0 0 (va_A [oX6 q_t t_length q_t_text t_size q_t_sign t_otherSize q_t_other q_t_before t_undoMany t_readSize q_t_read q_t_side q_t_tall q_t_endRow q_t_endColumn q_t_endSide q_t_gone t_lineRow t_lineColumn t_lineSide t_lineMany q_t_ways q_t_codes q_t_many, aI (G.2 1) q_t_endRow 12 t_endRow, aI (G.2 1) q_t_endColumn 12 t_endColumn, aI (G.2 1) q_t_endSide 12 t_endSide, aI (G.2 3) q_t_gone 36 t_gone, aI (G.2 1) q_p1 36 p1] sz) := by
  refine Met.ofQ (cc := cX6_partners) (maxL := 6) (ret := (some .long)) (by decide) rfl ?_
  intro p e s m args below meth c s₁ Q hQ B hml hv
  obtain ⟨rfl, hsz, hP, hKW, hD0⟩ := hv
  have hK := hKW.1
  have hx := B.exec
  have hb := B.bytes
  have hr := B.returns
  have hts := atoms_spec (ws := wsX6_partners) B.pre
  have hown : s.vm.findClass RX6 = some m.cls := findClass_of_methodNamed B.named
  have hlocks := B.notSynchronized
  subst hsz
  have hD := hD0.self (sz := s.heap.size)
  generalize hAe : va_A [oX6 q_t t_length q_t_text t_size q_t_sign t_otherSize q_t_other q_t_before t_undoMany t_readSize q_t_read q_t_side q_t_tall q_t_endRow q_t_endColumn q_t_endSide q_t_gone t_lineRow t_lineColumn t_lineSide t_lineMany q_t_ways q_t_codes q_t_many, aI (G.2 1) q_t_endRow 12 t_endRow, aI (G.2 1) q_t_endColumn 12 t_endColumn, aI (G.2 1) q_t_endSide 12 t_endSide, aI (G.2 3) q_t_gone 36 t_gone, aI (G.2 1) q_p1 36 p1] s.heap.size = A at hD hQ
  have hA : ∀ q : Nat, s.heap.size ≤ q → A q := fun q h => by rw [← hAe]; exact Or.inr h
  have hS : va_S A s.heap s.heap [] := va_S.rf
  have hl := lv_entry ([.ref q_t, .ref q_p1, .int p2]) (n := 6) (Nat.le_of_ble_eq_true rfl)
  rw [lg_entry_eq]
  generalize (lg_sl ([.ref q_t, .ref q_p1, .int p2]) ++ List.replicate (6 - (lg_sl ([.ref q_t, .ref q_p1, .int p2])).length) Slot.unset).toArray = ls at hl ⊢
  have hl : lv_has ls 6 [(0, .ref q_t), (1, .ref q_p1), (2, .int p2)] := hl
  unfold S_X6_partners at hE
  refine lv_aload_n hx hb dX6_partners_0 rfl (lv_at hl 0 rfl) ?_
  refine lv_aload_n hx hb dX6_partners_1 rfl (lv_at hl 1 rfl) ?_
  refine lv_iload_n hx hb dX6_partners_2 rfl (lv_at hl 2 rfl) ?_
  obtain ⟨y3, hC_3, hE⟩ := Option.bind_eq_some_iff.mp hE
  obtain ⟨m_3_0, m_3_1, m_3_2⟩ := y3
  try dsimp only at hE
  have hPc := hP.sub (ws' := [oX6 q_t t_length q_t_text t_size q_t_sign t_otherSize q_t_other q_t_before t_undoMany t_readSize q_t_read q_t_side q_t_tall q_t_endRow q_t_endColumn q_t_endSide q_t_gone t_lineRow t_lineColumn t_lineSide t_lineMany q_t_ways q_t_codes q_t_many, aI (G.2 1) q_t_endRow 12 t_endRow, aI (G.2 1) q_t_endColumn 12 t_endColumn, aI (G.2 1) q_t_endSide 12 t_endSide, aI (G.2 1) q_p1 36 p1]) [0, 1, 2, 3, 5] rfl
  have hDc := hD.sub (ws' := [oX6 q_t t_length q_t_text t_size q_t_sign t_otherSize q_t_other q_t_before t_undoMany t_readSize q_t_read q_t_side q_t_tall q_t_endRow q_t_endColumn q_t_endSide q_t_gone t_lineRow t_lineColumn t_lineSide t_lineMany q_t_ways q_t_codes q_t_many, aI (G.2 1) q_t_endRow 12 t_endRow, aI (G.2 1) q_t_endColumn 12 t_endColumn, aI (G.2 1) q_t_endSide 12 t_endSide, aI (G.2 1) q_p1 36 p1]) [0, 1, 2, 3, 5] (by decide) rfl
  have hFc := va_free (wc := [oX6 q_t t_length q_t_text t_size q_t_sign t_otherSize q_t_other q_t_before t_undoMany t_readSize q_t_read q_t_side q_t_tall q_t_endRow q_t_endColumn q_t_endSide q_t_gone t_lineRow t_lineColumn t_lineSide t_lineMany q_t_ways q_t_codes q_t_many, aI (G.2 1) q_t_endRow 12 t_endRow, aI (G.2 1) q_t_endColumn 12 t_endColumn, aI (G.2 1) q_t_endSide 12 t_endSide, aI (G.2 1) q_p1 36 p1]) hD hS hA [0, 1, 2, 3, 5] rfl
  refine va_callv (va_runV (As := [.ref q_p1, .int p2]) (rest := []) ⟨hx, hb, hml, hown, hts⟩ (c_X6_findEnds (l := l) (G := G) _ (p2 := p2) (q_t := q_t) (t_length := t_length) (q_t_text := q_t_text) (t_size := t_size) (q_t_sign := q_t_sign) (t_otherSize := t_otherSize) (q_t_other := q_t_other) (q_t_before := q_t_before) (t_undoMany := t_undoMany) (t_readSize := t_readSize) (q_t_read := q_t_read) (q_t_side := q_t_side) (q_t_tall := q_t_tall) (q_t_endRow := q_t_endRow) (q_t_endColumn := q_t_endColumn) (q_t_endSide := q_t_endSide) (q_t_gone := q_t_gone) (t_lineRow := t_lineRow) (t_lineColumn := t_lineColumn) (t_lineSide := t_lineSide) (t_lineMany := t_lineMany) (q_t_ways := q_t_ways) (q_t_codes := q_t_codes) (q_t_many := q_t_many) (t_endRow := t_endRow) (t_endColumn := t_endColumn) (t_endSide := t_endSide) (q_p1 := q_p1) (p1 := p1) hC_3) (cwV 2 hts gX6_partners_X6_findEnds rfl rfl rfl kd_X6_findEnds ⟨Nat.le_of_ble_eq_true rfl, Nat.le_of_ble_eq_true rfl⟩) (iv_V hKW hPc hDc (ci := 6) (q0 := 0) rfl rfl) rfl rfl hl.1 rfl (lv_room (Nat.le_of_ble_eq_true rfl)) dX6_partners_3 ⟨Nat.zero_le _, Nat.zero_le _⟩) hS (fun q _ h => hFc q h) hFc (fun u9 t9 H1 locs ht9 hvm9 hw9 hB9 hz9 hk9 hS => ?_)
  obtain ⟨hP1, hD1⟩ := hB9
  rw [ht9] at hP1
  obtain ⟨hP, hD⟩ := va_join (wr := [aI (G.2 3) q_t_gone 36 t_gone]) (w1 := [oX6 q_t t_length q_t_text t_size q_t_sign t_otherSize q_t_other q_t_before t_undoMany t_readSize q_t_read q_t_side q_t_tall q_t_endRow q_t_endColumn q_t_endSide q_t_gone t_lineRow t_lineColumn t_lineSide t_lineMany q_t_ways q_t_codes q_t_many, aI (G.2 1) q_t_endRow 12 m_3_0, aI (G.2 1) q_t_endColumn 12 m_3_1, aI (G.2 1) q_t_endSide 12 m_3_2, aI (G.2 1) q_p1 36 p1]) hP hD [0, 1, 2, 3, 5] [4] rfl rfl (by decide) (by decide) hk9 hFc hP1 hD1
  have hP := hP.sub (ws' := [oX6 q_t t_length q_t_text t_size q_t_sign t_otherSize q_t_other q_t_before t_undoMany t_readSize q_t_read q_t_side q_t_tall q_t_endRow q_t_endColumn q_t_endSide q_t_gone t_lineRow t_lineColumn t_lineSide t_lineMany q_t_ways q_t_codes q_t_many, aI (G.2 1) q_t_endRow 12 m_3_0, aI (G.2 1) q_t_endColumn 12 m_3_1, aI (G.2 1) q_t_endSide 12 m_3_2, aI (G.2 3) q_t_gone 36 t_gone, aI (G.2 1) q_p1 36 p1]) [1, 2, 3, 4, 0, 5] rfl
  have hD := hD.sub (ws' := [oX6 q_t t_length q_t_text t_size q_t_sign t_otherSize q_t_other q_t_before t_undoMany t_readSize q_t_read q_t_side q_t_tall q_t_endRow q_t_endColumn q_t_endSide q_t_gone t_lineRow t_lineColumn t_lineSide t_lineMany q_t_ways q_t_codes q_t_many, aI (G.2 1) q_t_endRow 12 m_3_0, aI (G.2 1) q_t_endColumn 12 m_3_1, aI (G.2 1) q_t_endSide 12 m_3_2, aI (G.2 3) q_t_gone 36 t_gone, aI (G.2 1) q_p1 36 p1]) [1, 2, 3, 4, 0, 5] (by decide) rfl
  clear hPc hDc hFc hP1 hD1 hk9 hz9 hvm9
  refine lv_lconst (v := 0) hx hb dX6_partners_6 (by decide) ?_
  refine lv_lstore_n (lv' := [(3, .long (0 : Int64)), (0, .ref q_t), (1, .ref q_p1), (2, .int p2)]) hx hb dX6_partners_7 rfl hl (by decide) rfl (fun ls hl => ?_)
  refine lv_iconst (v := 0) hx hb dX6_partners_8 (by decide) ?_
  refine lv_istore (lv' := [(5, .int (0 : Int32)), (3, .long (0 : Int64)), (0, .ref q_t), (1, .ref q_p1), (2, .int p2)]) hx hb dX6_partners_9 hl (by decide) rfl (fun ls hl => ?_)
  refine itr_ind (fun (x1 : Int64 × Int32 × Int32 × Int32 × Int32 × Int32 × (Nat → Int32)) => ∀ (H : Heap) (locs : List Loc) (ls : Array Slot), va_P G.1 vwCl [oX6 q_t t_length q_t_text t_size q_t_sign t_otherSize q_t_other q_t_before t_undoMany t_readSize q_t_read q_t_side q_t_tall q_t_endRow q_t_endColumn q_t_endSide q_t_gone x1.2.2.1 x1.2.2.2.1 x1.2.2.2.2.1 x1.2.2.2.2.2.1 q_t_ways q_t_codes q_t_many, aI (G.2 1) q_t_endRow 12 m_3_0, aI (G.2 1) q_t_endColumn 12 m_3_1, aI (G.2 1) q_t_endSide 12 m_3_2, aI (G.2 3) q_t_gone 36 x1.2.2.2.2.2.2, aI (G.2 1) q_p1 36 p1] H → va_D A [oX6 q_t t_length q_t_text t_size q_t_sign t_otherSize q_t_other q_t_before t_undoMany t_readSize q_t_read q_t_side q_t_tall q_t_endRow q_t_endColumn q_t_endSide q_t_gone x1.2.2.1 x1.2.2.2.1 x1.2.2.2.2.1 x1.2.2.2.2.2.1 q_t_ways q_t_codes q_t_many, aI (G.2 1) q_t_endRow 12 m_3_0, aI (G.2 1) q_t_endColumn 12 m_3_1, aI (G.2 1) q_t_endSide 12 m_3_2, aI (G.2 3) q_t_gone 36 x1.2.2.2.2.2.2, aI (G.2 1) q_p1 36 p1] → va_S A s.heap H locs → lv_has ls 6 [(0, .ref q_t), (1, .ref q_p1), (2, .int p2), (3, .long x1.1), (5, .int x1.2.1)] → W p l e (headSpec wsX6_partners ({ frames := 4, cells := 0, slots := 0, locals := 97 })).room s m ([.ref q_t, .ref q_p1, .int p2] : List Value).toArray below meth c H locs 0 0 Q (F0 m 11 ls [])) (fun x1 o_1 hE ih_1 hr_1 => ?_) _ _ hE _ _ ls hP hD hS (lv_sub hl [2, 3, 4, 1, 0] rfl)
  obtain ⟨v3_1, v5_1, w_t_lineRow_1, w_t_lineColumn_1, w_t_lineSide_1, w_t_lineMany_1, w_t_gone_1⟩ := x1
  try dsimp only at hE
  intro H locs ls hP hD hS hl
  try dsimp only at hP hD hl ⊢
  refine lv_iload hx hb dX6_partners_11 (lv_at hl 4 rfl) ?_
  refine lv_iconst (v := 2) hx hb dX6_partners_13 (by decide) ?_
  refine lv_iload_n hx hb dX6_partners_14 rfl (lv_at hl 2 rfl) ?_
  refine lv_imul hx hb dX6_partners_15 ?_
  refine lv_icmp_ge (tgt := 41) hx hb dX6_partners_16 (by decide) (fun c_16 => ?_) (fun c_16 => ?_)
  · replace hE := (if_pos c_16).symm.trans hE
    refine lv_lload_n hx hb dX6_partners_41 rfl (lv_at hl 3 rfl) ?_
    have e_1 := Option.some.inj hE
    have e_0 := hr_1 _ e_1.symm
    subst e_0
    rw [hQ]
    exact W.lret (v := v3_1) hx hb hr (fun t ht _ => ⟨⟨_, (), rfl, rfl, by rw [ht]; exact hP, hD⟩, hS.F ht⟩) hS.2.2 dX6_partners_42
  · replace hE := (if_neg c_16).symm.trans hE
    refine lv_ldc2 (v := 12) hx hb hown (hts (.constantLong RX6 195 (12)) (by decide +kernel)) dX6_partners_19 ?_
    refine lv_lload_n hx hb dX6_partners_22 rfl (lv_at hl 3 rfl) ?_
    refine lv_lmul hx hb dX6_partners_23 ?_
    refine lv_aload_n hx hb dX6_partners_24 rfl (lv_at hl 0 rfl) ?_
    refine lv_aload_n hx hb dX6_partners_25 rfl (lv_at hl 1 rfl) ?_
    refine lv_iload_n hx hb dX6_partners_26 rfl (lv_at hl 2 rfl) ?_
    refine lv_iload hx hb dX6_partners_27 (lv_at hl 4 rfl) ?_
    obtain ⟨y29, hC_29, hE⟩ := Option.bind_eq_some_iff.mp hE
    obtain ⟨r_29, m_29_0, m_29_1, m_29_2, m_29_3, m_29_4⟩ := y29
    try dsimp only at hE
    have hPc := hP.sub (ws' := [oX6 q_t t_length q_t_text t_size q_t_sign t_otherSize q_t_other q_t_before t_undoMany t_readSize q_t_read q_t_side q_t_tall q_t_endRow q_t_endColumn q_t_endSide q_t_gone w_t_lineRow_1 w_t_lineColumn_1 w_t_lineSide_1 w_t_lineMany_1 q_t_ways q_t_codes q_t_many, aI (G.2 1) q_t_endRow 12 m_3_0, aI (G.2 1) q_t_endColumn 12 m_3_1, aI (G.2 1) q_t_endSide 12 m_3_2, aI (G.2 3) q_t_gone 36 w_t_gone_1, aI (G.2 1) q_p1 36 p1]) [0, 1, 2, 3, 4, 5] rfl
    have hDc := hD.sub (ws' := [oX6 q_t t_length q_t_text t_size q_t_sign t_otherSize q_t_other q_t_before t_undoMany t_readSize q_t_read q_t_side q_t_tall q_t_endRow q_t_endColumn q_t_endSide q_t_gone w_t_lineRow_1 w_t_lineColumn_1 w_t_lineSide_1 w_t_lineMany_1 q_t_ways q_t_codes q_t_many, aI (G.2 1) q_t_endRow 12 m_3_0, aI (G.2 1) q_t_endColumn 12 m_3_1, aI (G.2 1) q_t_endSide 12 m_3_2, aI (G.2 3) q_t_gone 36 w_t_gone_1, aI (G.2 1) q_p1 36 p1]) [0, 1, 2, 3, 4, 5] (by decide) rfl
    have hFc := va_free (wc := [oX6 q_t t_length q_t_text t_size q_t_sign t_otherSize q_t_other q_t_before t_undoMany t_readSize q_t_read q_t_side q_t_tall q_t_endRow q_t_endColumn q_t_endSide q_t_gone w_t_lineRow_1 w_t_lineColumn_1 w_t_lineSide_1 w_t_lineMany_1 q_t_ways q_t_codes q_t_many, aI (G.2 1) q_t_endRow 12 m_3_0, aI (G.2 1) q_t_endColumn 12 m_3_1, aI (G.2 1) q_t_endSide 12 m_3_2, aI (G.2 3) q_t_gone 36 w_t_gone_1, aI (G.2 1) q_p1 36 p1]) hD hS hA [0, 1, 2, 3, 4, 5] rfl
    refine va_calli (va_runV (As := [.ref q_p1, .int p2, .int v5_1]) (rest := [.long ((12 : Int64) * v3_1)]) ⟨hx, hb, hml, hown, hts⟩ (c_X6_goes (l := l) (G := G) _ (p2 := p2) (p3 := v5_1) (q_t := q_t) (t_length := t_length) (q_t_text := q_t_text) (t_size := t_size) (q_t_sign := q_t_sign) (t_otherSize := t_otherSize) (q_t_other := q_t_other) (q_t_before := q_t_before) (t_undoMany := t_undoMany) (t_readSize := t_readSize) (q_t_read := q_t_read) (q_t_side := q_t_side) (q_t_tall := q_t_tall) (q_t_endRow := q_t_endRow) (q_t_endColumn := q_t_endColumn) (q_t_endSide := q_t_endSide) (q_t_gone := q_t_gone) (t_lineRow := w_t_lineRow_1) (t_lineColumn := w_t_lineColumn_1) (t_lineSide := w_t_lineSide_1) (t_lineMany := w_t_lineMany_1) (q_t_ways := q_t_ways) (q_t_codes := q_t_codes) (q_t_many := q_t_many) (t_endRow := m_3_0) (t_endColumn := m_3_1) (t_endSide := m_3_2) (t_gone := w_t_gone_1) (q_p1 := q_p1) (p1 := p1) hC_29) (cwV 3 hts gX6_partners_X6_goes rfl rfl rfl kd_X6_goes ⟨Nat.le_of_ble_eq_true rfl, Nat.le_of_ble_eq_true rfl⟩) (iv_V hKW hPc hDc (ci := 6) (q0 := 0) rfl rfl) rfl rfl hl.1 rfl (lv_room (Nat.le_of_ble_eq_true rfl)) dX6_partners_29 ⟨Nat.zero_le _, Nat.zero_le _⟩) hS (fun q _ h => hFc q h) hFc (fun r9 u9 t9 H1 locs ht9 hvm9 hw9 hB9 hz9 hk9 hS => ?_)
    subst r9
    obtain ⟨hP1, hD1⟩ := hB9
    rw [ht9] at hP1
    obtain ⟨hP, hD⟩ := va_join (wr := []) (w1 := [oX6 q_t t_length q_t_text t_size q_t_sign t_otherSize q_t_other q_t_before t_undoMany t_readSize q_t_read q_t_side q_t_tall q_t_endRow q_t_endColumn q_t_endSide q_t_gone m_29_0 m_29_1 m_29_2 m_29_3 q_t_ways q_t_codes q_t_many, aI (G.2 1) q_t_endRow 12 m_3_0, aI (G.2 1) q_t_endColumn 12 m_3_1, aI (G.2 1) q_t_endSide 12 m_3_2, aI (G.2 3) q_t_gone 36 m_29_4, aI (G.2 1) q_p1 36 p1]) hP hD [0, 1, 2, 3, 4, 5] [] rfl rfl (by decide) (by decide) hk9 hFc hP1 hD1
    have hP := hP.sub (ws' := [oX6 q_t t_length q_t_text t_size q_t_sign t_otherSize q_t_other q_t_before t_undoMany t_readSize q_t_read q_t_side q_t_tall q_t_endRow q_t_endColumn q_t_endSide q_t_gone m_29_0 m_29_1 m_29_2 m_29_3 q_t_ways q_t_codes q_t_many, aI (G.2 1) q_t_endRow 12 m_3_0, aI (G.2 1) q_t_endColumn 12 m_3_1, aI (G.2 1) q_t_endSide 12 m_3_2, aI (G.2 3) q_t_gone 36 m_29_4, aI (G.2 1) q_p1 36 p1]) [0, 1, 2, 3, 4, 5] rfl
    have hD := hD.sub (ws' := [oX6 q_t t_length q_t_text t_size q_t_sign t_otherSize q_t_other q_t_before t_undoMany t_readSize q_t_read q_t_side q_t_tall q_t_endRow q_t_endColumn q_t_endSide q_t_gone m_29_0 m_29_1 m_29_2 m_29_3 q_t_ways q_t_codes q_t_many, aI (G.2 1) q_t_endRow 12 m_3_0, aI (G.2 1) q_t_endColumn 12 m_3_1, aI (G.2 1) q_t_endSide 12 m_3_2, aI (G.2 3) q_t_gone 36 m_29_4, aI (G.2 1) q_p1 36 p1]) [0, 1, 2, 3, 4, 5] (by decide) rfl
    clear hPc hDc hFc hP1 hD1 hk9 hz9 hvm9
    refine lv_i2l (v := r_29.toInt64) hx hb dX6_partners_32 rfl ?_
    refine lv_ladd hx hb dX6_partners_33 ?_
    refine lv_lstore_n (lv' := [(3, .long (((12 : Int64) * v3_1) + r_29.toInt64)), (0, .ref q_t), (1, .ref q_p1), (2, .int p2), (5, .int v5_1)]) hx hb dX6_partners_34 rfl hl (by decide) rfl (fun ls hl => ?_)
    refine lv_iinc (v := v5_1 + (1 : Int32)) (lv' := [(5, .int (v5_1 + (1 : Int32))), (3, .long (((12 : Int64) * v3_1) + r_29.toInt64)), (0, .ref q_t), (1, .ref q_p1), (2, .int p2)]) hx hb dX6_partners_35 hl (k := 4) rfl rfl (by decide) rfl (fun ls hl => ?_)
    refine lv_goto (tgt := 11) hx hb dX6_partners_38 (by decide) ?_
    have e_1 := Option.some.inj hE
    exact ih_1 _ e_1.symm _ _ ls hP hD hS (lv_sub hl [2, 3, 4, 1, 0] rfl)
def S_X6_alike (t_size : Int32) (t_lineRow : Int32) (t_lineColumn : Int32) (t_lineSide : Int32) (t_lineMany : Int32) (t_sign : Nat → Int32) (t_side : Nat → Int32) (t_endRow : Nat → Int32) (t_endColumn : Nat → Int32) (t_endSide : Nat → Int32) (t_gone : Nat → Int32) (t_ways : Nat → Int32) : Option (Int32 × Int32 × Int32 × Int32 × Int32 × (Nat → Int32) × (Nat → Int32) × (Nat → Int32) × (Nat → Int32) × (Nat → Int32) × (Nat → Int32)) := if t_size = (6 : Int32) then some ((-2 : Int32), t_lineRow, t_lineColumn, t_lineSide, t_lineMany, t_side, t_endRow, t_endColumn, t_endSide, t_gone, t_ways) else (S_X6_partners t_size t_lineRow t_lineColumn t_lineSide t_lineMany t_endRow t_endColumn t_endSide t_gone t_sign).bind (fun (y21 : Int64 × Int32 × Int32 × Int32 × Int32 × (Nat → Int32) × (Nat → Int32) × (Nat → Int32) × (Nat → Int32)) => (S_X6_findWays t_size t_ways).bind (fun (y30 : Int32 × (Nat → Int32)) => itr (fun (x1 : Int32 × Int32 × Int32 × Int32 × Int32 × Int32 × (Nat → Int32) × (Nat → Int32) × (Nat → Int32) × (Nat → Int32) × (Nat → Int32)) => if y30.1 ≤ x1.2.1 then some (.inr (x1.1, x1.2.2.1, x1.2.2.2.1, x1.2.2.2.2.1, x1.2.2.2.2.2.1, x1.2.2.2.2.2.2.1, x1.2.2.2.2.2.2.2.1, x1.2.2.2.2.2.2.2.2.1, x1.2.2.2.2.2.2.2.2.2.1, x1.2.2.2.2.2.2.2.2.2.2, y30.2)) else (S_X6_unrank t_size x1.2.1 y30.2 x1.2.2.2.2.2.2.1).bind (fun (y57 : Nat → Int32) => (S_X6_partners t_size x1.2.2.1 x1.2.2.2.1 x1.2.2.2.2.1 x1.2.2.2.2.2.1 x1.2.2.2.2.2.2.2.1 x1.2.2.2.2.2.2.2.2.1 x1.2.2.2.2.2.2.2.2.2.1 x1.2.2.2.2.2.2.2.2.2.2 y57).bind (fun (y71 : Int64 × Int32 × Int32 × Int32 × Int32 × (Nat → Int32) × (Nat → Int32) × (Nat → Int32) × (Nat → Int32)) => if (lg_cmp y71.1 y21.1) = 0 then some (.inl (x1.1 + (1 : Int32), x1.2.1 + (1 : Int32), y71.2.1, y71.2.2.1, y71.2.2.2.1, y71.2.2.2.2.1, y57, y71.2.2.2.2.2.1, y71.2.2.2.2.2.2.1, y71.2.2.2.2.2.2.2.1, y71.2.2.2.2.2.2.2.2)) else some (.inl (x1.1 + (0 : Int32), x1.2.1 + (1 : Int32), y71.2.1, y71.2.2.1, y71.2.2.2.1, y71.2.2.2.2.1, y57, y71.2.2.2.2.2.1, y71.2.2.2.2.2.2.1, y71.2.2.2.2.2.2.2.1, y71.2.2.2.2.2.2.2.2))))) 10000 ((0 : Int32), (0 : Int32), y21.2.1, y21.2.2.1, y21.2.2.2.1, y21.2.2.2.2.1, t_side, y21.2.2.2.2.2.1, y21.2.2.2.2.2.2.1, y21.2.2.2.2.2.2.2.1, y21.2.2.2.2.2.2.2.2)))
theorem kd_X6_alike : yX6_alike.cls = RX6 ∧ yX6_alike.cls ≠ "java/lang/invoke/MethodHandle" ∧ yX6_alike.cls ≠ "java/lang/invoke/VarHandle" ∧ (parseMethodDescriptor yX6_alike.desc).map (fun d => d.parameters.length) = some 0 := by decide +kernel
set_option maxHeartbeats 4000000 in
set_option maxRecDepth 100000 in
theorem c_X6_alike {l : Launch} {G : kG} (sz : Nat) {q_t : Nat} {t_length : Int32} {q_t_text : Nat} {t_size : Int32} {q_t_sign : Nat} {t_otherSize : Int32} {q_t_other : Nat} {q_t_before : Nat} {t_undoMany : Int32} {t_readSize : Int32} {q_t_read : Nat} {q_t_side : Nat} {q_t_tall : Nat} {q_t_endRow : Nat} {q_t_endColumn : Nat} {q_t_endSide : Nat} {q_t_gone : Nat} {t_lineRow : Int32} {t_lineColumn : Int32} {t_lineSide : Int32} {t_lineMany : Int32} {q_t_ways : Nat} {q_t_codes : Nat} {q_t_many : Nat} {t_sign : Nat → Int32} {t_side : Nat → Int32} {t_endRow : Nat → Int32} {t_endColumn : Nat → Int32} {t_endSide : Nat → Int32} {t_gone : Nat → Int32} {t_ways : Nat → Int32} {res : Int32 × Int32 × Int32 × Int32 × Int32 × (Nat → Int32) × (Nat → Int32) × (Nat → Int32) × (Nat → Int32) × (Nat → Int32) × (Nat → Int32)} (hE : S_X6_alike t_size t_lineRow t_lineColumn t_lineSide t_lineMany t_sign t_side t_endRow t_endColumn t_endSide t_gone t_ways = some res) : Met l yX6_alike wsX6_alike ({ frames := 5, cells := 0, slots := 0, locals := 130 }) (va_Pc [.ref q_t] (fun U => U.heap.size = sz ∧ va_P G.1 vwCl [oX6 q_t t_length q_t_text t_size q_t_sign t_otherSize q_t_other q_t_before t_undoMany t_readSize q_t_read q_t_side q_t_tall q_t_endRow q_t_endColumn q_t_endSide q_t_gone t_lineRow t_lineColumn t_lineSide t_lineMany q_t_ways q_t_codes q_t_many, aI (G.2 1) q_t_sign 36 t_sign, aI (G.2 1) q_t_side 36 t_side, aI (G.2 1) q_t_endRow 12 t_endRow, aI (G.2 1) q_t_endColumn 12 t_endColumn, aI (G.2 1) q_t_endSide 12 t_endSide, aI (G.2 3) q_t_gone 36 t_gone, aI (G.2 1) q_t_ways 448 t_ways] U.heap ∧ kw G U ∧ va_D (fun _ => True) [oX6 q_t t_length q_t_text t_size q_t_sign t_otherSize q_t_other q_t_before t_undoMany t_readSize q_t_read q_t_side q_t_tall q_t_endRow q_t_endColumn q_t_endSide q_t_gone t_lineRow t_lineColumn t_lineSide t_lineMany q_t_ways q_t_codes q_t_many, aI (G.2 1) q_t_sign 36 t_sign, aI (G.2 1) q_t_side 36 t_side, aI (G.2 1) q_t_endRow 12 t_endRow, aI (G.2 1) q_t_endColumn 12 t_endColumn, aI (G.2 1) q_t_endSide 12 t_endSide, aI (G.2 3) q_t_gone 36 t_gone, aI (G.2 1) q_t_ways 448 t_ways])) (va_Qi (fun r (_ : Unit) => r = res.1) (fun _ t => va_P G.1 vwCl [oX6 q_t t_length q_t_text t_size q_t_sign t_otherSize q_t_other q_t_before t_undoMany t_readSize q_t_read q_t_side q_t_tall q_t_endRow q_t_endColumn q_t_endSide q_t_gone res.2.1 res.2.2.1 res.2.2.2.1 res.2.2.2.2.1 q_t_ways q_t_codes q_t_many, aI (G.2 1) q_t_sign 36 t_sign, aI (G.2 1) q_t_side 36 res.2.2.2.2.2.1, aI (G.2 1) q_t_endRow 12 res.2.2.2.2.2.2.1, aI (G.2 1) q_t_endColumn 12 res.2.2.2.2.2.2.2.1, aI (G.2 1) q_t_endSide 12 res.2.2.2.2.2.2.2.2.1, aI (G.2 3) q_t_gone 36 res.2.2.2.2.2.2.2.2.2.1, aI (G.2 1) q_t_ways 448 res.2.2.2.2.2.2.2.2.2.2] t.heap ∧ va_D (va_A [oX6 q_t t_length q_t_text t_size q_t_sign t_otherSize q_t_other q_t_before t_undoMany t_readSize q_t_read q_t_side q_t_tall q_t_endRow q_t_endColumn q_t_endSide q_t_gone t_lineRow t_lineColumn t_lineSide t_lineMany q_t_ways q_t_codes q_t_many, aI (G.2 1) q_t_sign 36 t_sign, aI (G.2 1) q_t_side 36 t_side, aI (G.2 1) q_t_endRow 12 t_endRow, aI (G.2 1) q_t_endColumn 12 t_endColumn, aI (G.2 1) q_t_endSide 12 t_endSide, aI (G.2 3) q_t_gone 36 t_gone, aI (G.2 1) q_t_ways 448 t_ways] sz) [oX6 q_t t_length q_t_text t_size q_t_sign t_otherSize q_t_other q_t_before t_undoMany t_readSize q_t_read q_t_side q_t_tall q_t_endRow q_t_endColumn q_t_endSide q_t_gone res.2.1 res.2.2.1 res.2.2.2.1 res.2.2.2.2.1 q_t_ways q_t_codes q_t_many, aI (G.2 1) q_t_sign 36 t_sign, aI (G.2 1) q_t_side 36 res.2.2.2.2.2.1, aI (G.2 1) q_t_endRow 12 res.2.2.2.2.2.2.1, aI (G.2 1) q_t_endColumn 12 res.2.2.2.2.2.2.2.1, aI (G.2 1) q_t_endSide 12 res.2.2.2.2.2.2.2.2.1, aI (G.2 3) q_t_gone 36 res.2.2.2.2.2.2.2.2.2.1, aI (G.2 1) q_t_ways 448 res.2.2.2.2.2.2.2.2.2.2]) (va_A [oX6 q_t t_length q_t_text t_size q_t_sign t_otherSize q_t_other q_t_before t_undoMany t_readSize q_t_read q_t_side q_t_tall q_t_endRow q_t_endColumn q_t_endSide q_t_gone t_lineRow t_lineColumn t_lineSide t_lineMany q_t_ways q_t_codes q_t_many, aI (G.2 1) q_t_sign 36 t_sign, aI (G.2 1) q_t_side 36 t_side, aI (G.2 1) q_t_endRow 12 t_endRow, aI (G.2 1) q_t_endColumn 12 t_endColumn, aI (G.2 1) q_t_endSide 12 t_endSide, aI (G.2 3) q_t_gone 36 t_gone, aI (G.2 1) q_t_ways 448 t_ways] sz)) 0 0 (va_A [oX6 q_t t_length q_t_text t_size q_t_sign t_otherSize q_t_other q_t_before t_undoMany t_readSize q_t_read q_t_side q_t_tall q_t_endRow q_t_endColumn q_t_endSide q_t_gone t_lineRow t_lineColumn t_lineSide t_lineMany q_t_ways q_t_codes q_t_many, aI (G.2 1) q_t_sign 36 t_sign, aI (G.2 1) q_t_side 36 t_side, aI (G.2 1) q_t_endRow 12 t_endRow, aI (G.2 1) q_t_endColumn 12 t_endColumn, aI (G.2 1) q_t_endSide 12 t_endSide, aI (G.2 3) q_t_gone 36 t_gone, aI (G.2 1) q_t_ways 448 t_ways] sz) := by
  refine Met.ofQ (cc := cX6_alike) (maxL := 6) (ret := (some .int)) (by decide) rfl ?_
  intro p e s m args below meth c s₁ Q hQ B hml hv
  obtain ⟨rfl, hsz, hP, hKW, hD0⟩ := hv
  have hK := hKW.1
  have hx := B.exec
  have hb := B.bytes
  have hr := B.returns
  have hts := atoms_spec (ws := wsX6_alike) B.pre
  have hown : s.vm.findClass RX6 = some m.cls := findClass_of_methodNamed B.named
  have hlocks := B.notSynchronized
  have iX6 : ∀ w ∈ u_ws RX6 TX6 23, w ∈ wsX6_alike := by decide +kernel
  have fl_54 := hts (.fieldLink RX6 54 "AlternateSignsModel" "size" "I") (by decide +kernel)
  have fl_13 := hts (.fieldLink RX6 13 "AlternateSignsModel" "sign" "[I") (by decide +kernel)
  have fl_25 := hts (.fieldLink RX6 25 "AlternateSignsModel" "side" "[I") (by decide +kernel)
  subst hsz
  have hD := hD0.self (sz := s.heap.size)
  generalize hAe : va_A [oX6 q_t t_length q_t_text t_size q_t_sign t_otherSize q_t_other q_t_before t_undoMany t_readSize q_t_read q_t_side q_t_tall q_t_endRow q_t_endColumn q_t_endSide q_t_gone t_lineRow t_lineColumn t_lineSide t_lineMany q_t_ways q_t_codes q_t_many, aI (G.2 1) q_t_sign 36 t_sign, aI (G.2 1) q_t_side 36 t_side, aI (G.2 1) q_t_endRow 12 t_endRow, aI (G.2 1) q_t_endColumn 12 t_endColumn, aI (G.2 1) q_t_endSide 12 t_endSide, aI (G.2 3) q_t_gone 36 t_gone, aI (G.2 1) q_t_ways 448 t_ways] s.heap.size = A at hD hQ
  have hA : ∀ q : Nat, s.heap.size ≤ q → A q := fun q h => by rw [← hAe]; exact Or.inr h
  have hS : va_S A s.heap s.heap [] := va_S.rf
  have hl := lv_entry ([.ref q_t]) (n := 6) (Nat.le_of_ble_eq_true rfl)
  rw [lg_entry_eq]
  generalize (lg_sl ([.ref q_t]) ++ List.replicate (6 - (lg_sl ([.ref q_t])).length) Slot.unset).toArray = ls at hl ⊢
  have hl : lv_has ls 6 [(0, .ref q_t)] := hl
  unfold S_X6_alike at hE
  refine lv_aload_n hx hb dX6_alike_0 rfl (lv_at hl 0 rfl) ?_
  refine va_get (D := G.1) (ci := 6) (v := .int t_size) (C := RX6) (T := TX6) (N := 23) hx hb hts iX6 hown hK hP 0 rfl rfl 2 (by decide) fl_54 (fun _ h9 => h9) rfl dX6_alike_1 ?_
  refine lv_bipush (v := 6) hx hb dX6_alike_4 (by decide) ?_
  refine lv_icmp_ne (tgt := 12) hx hb dX6_alike_6 (by decide) (fun c_6 => ?_) (fun c_6 => ?_)
  · replace hE := (if_neg c_6).symm.trans hE
    refine lv_aload_n hx hb dX6_alike_12 rfl (lv_at hl 0 rfl) ?_
    refine lv_aload_n hx hb dX6_alike_13 rfl (lv_at hl 0 rfl) ?_
    refine va_get (D := G.1) (ci := 6) (v := .ref q_t_sign) (C := RX6) (T := TX6) (N := 23) hx hb hts iX6 hown hK hP 0 rfl rfl 3 (by decide) fl_13 (fun _ h9 => h9) rfl dX6_alike_14 ?_
    refine lv_aload_n hx hb dX6_alike_17 rfl (lv_at hl 0 rfl) ?_
    refine va_get (D := G.1) (ci := 6) (v := .int t_size) (C := RX6) (T := TX6) (N := 23) hx hb hts iX6 hown hK hP 0 rfl rfl 2 (by decide) fl_54 (fun _ h9 => h9) rfl dX6_alike_18 ?_
    obtain ⟨y21, hC_21, hE⟩ := Option.bind_eq_some_iff.mp hE
    obtain ⟨r_21, m_21_0, m_21_1, m_21_2, m_21_3, m_21_4, m_21_5, m_21_6, m_21_7⟩ := y21
    try dsimp only at hE
    have hPc := hP.sub (ws' := [oX6 q_t t_length q_t_text t_size q_t_sign t_otherSize q_t_other q_t_before t_undoMany t_readSize q_t_read q_t_side q_t_tall q_t_endRow q_t_endColumn q_t_endSide q_t_gone t_lineRow t_lineColumn t_lineSide t_lineMany q_t_ways q_t_codes q_t_many, aI (G.2 1) q_t_endRow 12 t_endRow, aI (G.2 1) q_t_endColumn 12 t_endColumn, aI (G.2 1) q_t_endSide 12 t_endSide, aI (G.2 3) q_t_gone 36 t_gone, aI (G.2 1) q_t_sign 36 t_sign]) [0, 3, 4, 5, 6, 1] rfl
    have hDc := hD.sub (ws' := [oX6 q_t t_length q_t_text t_size q_t_sign t_otherSize q_t_other q_t_before t_undoMany t_readSize q_t_read q_t_side q_t_tall q_t_endRow q_t_endColumn q_t_endSide q_t_gone t_lineRow t_lineColumn t_lineSide t_lineMany q_t_ways q_t_codes q_t_many, aI (G.2 1) q_t_endRow 12 t_endRow, aI (G.2 1) q_t_endColumn 12 t_endColumn, aI (G.2 1) q_t_endSide 12 t_endSide, aI (G.2 3) q_t_gone 36 t_gone, aI (G.2 1) q_t_sign 36 t_sign]) [0, 3, 4, 5, 6, 1] (by decide) rfl
    have hFc := va_free (wc := [oX6 q_t t_length q_t_text t_size q_t_sign t_otherSize q_t_other q_t_before t_undoMany t_readSize q_t_read q_t_side q_t_tall q_t_endRow q_t_endColumn q_t_endSide q_t_gone t_lineRow t_lineColumn t_lineSide t_lineMany q_t_ways q_t_codes q_t_many, aI (G.2 1) q_t_endRow 12 t_endRow, aI (G.2 1) q_t_endColumn 12 t_endColumn, aI (G.2 1) q_t_endSide 12 t_endSide, aI (G.2 3) q_t_gone 36 t_gone, aI (G.2 1) q_t_sign 36 t_sign]) hD hS hA [0, 3, 4, 5, 6, 1] rfl
    refine va_calll (va_runV (As := [.ref q_t_sign, .int t_size]) (rest := []) ⟨hx, hb, hml, hown, hts⟩ (c_X6_partners (l := l) (G := G) _ (p2 := t_size) (q_t := q_t) (t_length := t_length) (q_t_text := q_t_text) (t_size := t_size) (q_t_sign := q_t_sign) (t_otherSize := t_otherSize) (q_t_other := q_t_other) (q_t_before := q_t_before) (t_undoMany := t_undoMany) (t_readSize := t_readSize) (q_t_read := q_t_read) (q_t_side := q_t_side) (q_t_tall := q_t_tall) (q_t_endRow := q_t_endRow) (q_t_endColumn := q_t_endColumn) (q_t_endSide := q_t_endSide) (q_t_gone := q_t_gone) (t_lineRow := t_lineRow) (t_lineColumn := t_lineColumn) (t_lineSide := t_lineSide) (t_lineMany := t_lineMany) (q_t_ways := q_t_ways) (q_t_codes := q_t_codes) (q_t_many := q_t_many) (t_endRow := t_endRow) (t_endColumn := t_endColumn) (t_endSide := t_endSide) (t_gone := t_gone) (q_p1 := q_t_sign) (p1 := t_sign) hC_21) (cwV 2 hts gX6_alike_X6_partners rfl rfl rfl kd_X6_partners ⟨Nat.le_of_ble_eq_true rfl, Nat.le_of_ble_eq_true rfl⟩) (iv_V hKW hPc hDc (ci := 6) (q0 := 0) rfl rfl) rfl rfl hl.1 rfl (lv_room (Nat.le_of_ble_eq_true rfl)) dX6_alike_21 ⟨Nat.zero_le _, Nat.zero_le _⟩) hS (fun q _ h => hFc q h) hFc (fun r9 u9 t9 H1 locs ht9 hvm9 hw9 hB9 hz9 hk9 hS => ?_)
    subst r9
    obtain ⟨hP1, hD1⟩ := hB9
    rw [ht9] at hP1
    obtain ⟨hP, hD⟩ := va_join (wr := [aI (G.2 1) q_t_side 36 t_side, aI (G.2 1) q_t_ways 448 t_ways]) (w1 := [oX6 q_t t_length q_t_text t_size q_t_sign t_otherSize q_t_other q_t_before t_undoMany t_readSize q_t_read q_t_side q_t_tall q_t_endRow q_t_endColumn q_t_endSide q_t_gone m_21_0 m_21_1 m_21_2 m_21_3 q_t_ways q_t_codes q_t_many, aI (G.2 1) q_t_endRow 12 m_21_4, aI (G.2 1) q_t_endColumn 12 m_21_5, aI (G.2 1) q_t_endSide 12 m_21_6, aI (G.2 3) q_t_gone 36 m_21_7, aI (G.2 1) q_t_sign 36 t_sign]) hP hD [0, 3, 4, 5, 6, 1] [2, 7] rfl rfl (by decide) (by decide) hk9 hFc hP1 hD1
    have hP := hP.sub (ws' := [oX6 q_t t_length q_t_text t_size q_t_sign t_otherSize q_t_other q_t_before t_undoMany t_readSize q_t_read q_t_side q_t_tall q_t_endRow q_t_endColumn q_t_endSide q_t_gone m_21_0 m_21_1 m_21_2 m_21_3 q_t_ways q_t_codes q_t_many, aI (G.2 1) q_t_sign 36 t_sign, aI (G.2 1) q_t_side 36 t_side, aI (G.2 1) q_t_endRow 12 m_21_4, aI (G.2 1) q_t_endColumn 12 m_21_5, aI (G.2 1) q_t_endSide 12 m_21_6, aI (G.2 3) q_t_gone 36 m_21_7, aI (G.2 1) q_t_ways 448 t_ways]) [2, 7, 0, 3, 4, 5, 6, 1] rfl
    have hD := hD.sub (ws' := [oX6 q_t t_length q_t_text t_size q_t_sign t_otherSize q_t_other q_t_before t_undoMany t_readSize q_t_read q_t_side q_t_tall q_t_endRow q_t_endColumn q_t_endSide q_t_gone m_21_0 m_21_1 m_21_2 m_21_3 q_t_ways q_t_codes q_t_many, aI (G.2 1) q_t_sign 36 t_sign, aI (G.2 1) q_t_side 36 t_side, aI (G.2 1) q_t_endRow 12 m_21_4, aI (G.2 1) q_t_endColumn 12 m_21_5, aI (G.2 1) q_t_endSide 12 m_21_6, aI (G.2 3) q_t_gone 36 m_21_7, aI (G.2 1) q_t_ways 448 t_ways]) [2, 7, 0, 3, 4, 5, 6, 1] (by decide) rfl
    clear hPc hDc hFc hP1 hD1 hk9 hz9 hvm9
    refine lv_lstore_n (lv' := [(1, .long r_21), (0, .ref q_t)]) hx hb dX6_alike_24 rfl hl (by decide) rfl (fun ls hl => ?_)
    refine lv_aload_n hx hb dX6_alike_25 rfl (lv_at hl 1 rfl) ?_
    refine lv_aload_n hx hb dX6_alike_26 rfl (lv_at hl 1 rfl) ?_
    refine va_get (D := G.1) (ci := 6) (v := .int t_size) (C := RX6) (T := TX6) (N := 23) hx hb hts iX6 hown hK hP 0 rfl rfl 2 (by decide) fl_54 (fun _ h9 => h9) rfl dX6_alike_27 ?_
    obtain ⟨y30, hC_30, hE⟩ := Option.bind_eq_some_iff.mp hE
    obtain ⟨r_30, m_30_0⟩ := y30
    try dsimp only at hE
    have hPc := hP.sub (ws' := [oX6 q_t t_length q_t_text t_size q_t_sign t_otherSize q_t_other q_t_before t_undoMany t_readSize q_t_read q_t_side q_t_tall q_t_endRow q_t_endColumn q_t_endSide q_t_gone m_21_0 m_21_1 m_21_2 m_21_3 q_t_ways q_t_codes q_t_many, aI (G.2 1) q_t_ways 448 t_ways]) [0, 7] rfl
    have hDc := hD.sub (ws' := [oX6 q_t t_length q_t_text t_size q_t_sign t_otherSize q_t_other q_t_before t_undoMany t_readSize q_t_read q_t_side q_t_tall q_t_endRow q_t_endColumn q_t_endSide q_t_gone m_21_0 m_21_1 m_21_2 m_21_3 q_t_ways q_t_codes q_t_many, aI (G.2 1) q_t_ways 448 t_ways]) [0, 7] (by decide) rfl
    have hFc := va_free (wc := [oX6 q_t t_length q_t_text t_size q_t_sign t_otherSize q_t_other q_t_before t_undoMany t_readSize q_t_read q_t_side q_t_tall q_t_endRow q_t_endColumn q_t_endSide q_t_gone m_21_0 m_21_1 m_21_2 m_21_3 q_t_ways q_t_codes q_t_many, aI (G.2 1) q_t_ways 448 t_ways]) hD hS hA [0, 7] rfl
    refine va_calli (va_runV (As := [.int t_size]) (rest := []) ⟨hx, hb, hml, hown, hts⟩ (c_X6_findWays (l := l) (G := G) _ (p1 := t_size) (q_t := q_t) (t_length := t_length) (q_t_text := q_t_text) (t_size := t_size) (q_t_sign := q_t_sign) (t_otherSize := t_otherSize) (q_t_other := q_t_other) (q_t_before := q_t_before) (t_undoMany := t_undoMany) (t_readSize := t_readSize) (q_t_read := q_t_read) (q_t_side := q_t_side) (q_t_tall := q_t_tall) (q_t_endRow := q_t_endRow) (q_t_endColumn := q_t_endColumn) (q_t_endSide := q_t_endSide) (q_t_gone := q_t_gone) (t_lineRow := m_21_0) (t_lineColumn := m_21_1) (t_lineSide := m_21_2) (t_lineMany := m_21_3) (q_t_ways := q_t_ways) (q_t_codes := q_t_codes) (q_t_many := q_t_many) (t_ways := t_ways) hC_30) (cwV 1 hts gX6_alike_X6_findWays rfl rfl rfl kd_X6_findWays ⟨Nat.le_of_ble_eq_true rfl, Nat.le_of_ble_eq_true rfl⟩) (iv_V hKW hPc hDc (ci := 6) (q0 := 0) rfl rfl) rfl rfl hl.1 rfl (lv_room (Nat.le_of_ble_eq_true rfl)) dX6_alike_30 ⟨Nat.zero_le _, Nat.zero_le _⟩) hS (fun q _ h => hFc q h) hFc (fun r9 u9 t9 H1 locs ht9 hvm9 hw9 hB9 hz9 hk9 hS => ?_)
    subst r9
    obtain ⟨hP1, hD1⟩ := hB9
    rw [ht9] at hP1
    obtain ⟨hP, hD⟩ := va_join (wr := [aI (G.2 1) q_t_sign 36 t_sign, aI (G.2 1) q_t_side 36 t_side, aI (G.2 1) q_t_endRow 12 m_21_4, aI (G.2 1) q_t_endColumn 12 m_21_5, aI (G.2 1) q_t_endSide 12 m_21_6, aI (G.2 3) q_t_gone 36 m_21_7]) (w1 := [oX6 q_t t_length q_t_text t_size q_t_sign t_otherSize q_t_other q_t_before t_undoMany t_readSize q_t_read q_t_side q_t_tall q_t_endRow q_t_endColumn q_t_endSide q_t_gone m_21_0 m_21_1 m_21_2 m_21_3 q_t_ways q_t_codes q_t_many, aI (G.2 1) q_t_ways 448 m_30_0]) hP hD [0, 7] [1, 2, 3, 4, 5, 6] rfl rfl (by decide) (by decide) hk9 hFc hP1 hD1
    have hP := hP.sub (ws' := [oX6 q_t t_length q_t_text t_size q_t_sign t_otherSize q_t_other q_t_before t_undoMany t_readSize q_t_read q_t_side q_t_tall q_t_endRow q_t_endColumn q_t_endSide q_t_gone m_21_0 m_21_1 m_21_2 m_21_3 q_t_ways q_t_codes q_t_many, aI (G.2 1) q_t_sign 36 t_sign, aI (G.2 1) q_t_side 36 t_side, aI (G.2 1) q_t_endRow 12 m_21_4, aI (G.2 1) q_t_endColumn 12 m_21_5, aI (G.2 1) q_t_endSide 12 m_21_6, aI (G.2 3) q_t_gone 36 m_21_7, aI (G.2 1) q_t_ways 448 m_30_0]) [6, 0, 1, 2, 3, 4, 5, 7] rfl
    have hD := hD.sub (ws' := [oX6 q_t t_length q_t_text t_size q_t_sign t_otherSize q_t_other q_t_before t_undoMany t_readSize q_t_read q_t_side q_t_tall q_t_endRow q_t_endColumn q_t_endSide q_t_gone m_21_0 m_21_1 m_21_2 m_21_3 q_t_ways q_t_codes q_t_many, aI (G.2 1) q_t_sign 36 t_sign, aI (G.2 1) q_t_side 36 t_side, aI (G.2 1) q_t_endRow 12 m_21_4, aI (G.2 1) q_t_endColumn 12 m_21_5, aI (G.2 1) q_t_endSide 12 m_21_6, aI (G.2 3) q_t_gone 36 m_21_7, aI (G.2 1) q_t_ways 448 m_30_0]) [6, 0, 1, 2, 3, 4, 5, 7] (by decide) rfl
    clear hPc hDc hFc hP1 hD1 hk9 hz9 hvm9
    refine lv_istore_n (lv' := [(3, .int r_30), (1, .long r_21), (0, .ref q_t)]) hx hb dX6_alike_33 rfl hl (by decide) rfl (fun ls hl => ?_)
    refine lv_iconst (v := 0) hx hb dX6_alike_34 (by decide) ?_
    refine lv_istore (lv' := [(4, .int (0 : Int32)), (3, .int r_30), (1, .long r_21), (0, .ref q_t)]) hx hb dX6_alike_35 hl (by decide) rfl (fun ls hl => ?_)
    refine lv_iconst (v := 0) hx hb dX6_alike_37 (by decide) ?_
    refine lv_istore (lv' := [(5, .int (0 : Int32)), (4, .int (0 : Int32)), (3, .int r_30), (1, .long r_21), (0, .ref q_t)]) hx hb dX6_alike_38 hl (by decide) rfl (fun ls hl => ?_)
    refine itr_ind (fun (x1 : Int32 × Int32 × Int32 × Int32 × Int32 × Int32 × (Nat → Int32) × (Nat → Int32) × (Nat → Int32) × (Nat → Int32) × (Nat → Int32)) => ∀ (H : Heap) (locs : List Loc) (ls : Array Slot), va_P G.1 vwCl [oX6 q_t t_length q_t_text t_size q_t_sign t_otherSize q_t_other q_t_before t_undoMany t_readSize q_t_read q_t_side q_t_tall q_t_endRow q_t_endColumn q_t_endSide q_t_gone x1.2.2.1 x1.2.2.2.1 x1.2.2.2.2.1 x1.2.2.2.2.2.1 q_t_ways q_t_codes q_t_many, aI (G.2 1) q_t_sign 36 t_sign, aI (G.2 1) q_t_side 36 x1.2.2.2.2.2.2.1, aI (G.2 1) q_t_endRow 12 x1.2.2.2.2.2.2.2.1, aI (G.2 1) q_t_endColumn 12 x1.2.2.2.2.2.2.2.2.1, aI (G.2 1) q_t_endSide 12 x1.2.2.2.2.2.2.2.2.2.1, aI (G.2 3) q_t_gone 36 x1.2.2.2.2.2.2.2.2.2.2, aI (G.2 1) q_t_ways 448 m_30_0] H → va_D A [oX6 q_t t_length q_t_text t_size q_t_sign t_otherSize q_t_other q_t_before t_undoMany t_readSize q_t_read q_t_side q_t_tall q_t_endRow q_t_endColumn q_t_endSide q_t_gone x1.2.2.1 x1.2.2.2.1 x1.2.2.2.2.1 x1.2.2.2.2.2.1 q_t_ways q_t_codes q_t_many, aI (G.2 1) q_t_sign 36 t_sign, aI (G.2 1) q_t_side 36 x1.2.2.2.2.2.2.1, aI (G.2 1) q_t_endRow 12 x1.2.2.2.2.2.2.2.1, aI (G.2 1) q_t_endColumn 12 x1.2.2.2.2.2.2.2.2.1, aI (G.2 1) q_t_endSide 12 x1.2.2.2.2.2.2.2.2.2.1, aI (G.2 3) q_t_gone 36 x1.2.2.2.2.2.2.2.2.2.2, aI (G.2 1) q_t_ways 448 m_30_0] → va_S A s.heap H locs → lv_has ls 6 [(0, .ref q_t), (1, .long r_21), (3, .int r_30), (4, .int x1.1), (5, .int x1.2.1)] → W p l e (headSpec wsX6_alike ({ frames := 5, cells := 0, slots := 0, locals := 130 })).room s m ([.ref q_t] : List Value).toArray below meth c H locs 0 0 Q (F0 m 40 ls [])) (fun x1 o_1 hE ih_1 hr_1 => ?_) _ _ hE _ _ ls hP hD hS (lv_sub hl [4, 3, 2, 1, 0] rfl)
    obtain ⟨v4_1, v5_1, w_t_lineRow_1, w_t_lineColumn_1, w_t_lineSide_1, w_t_lineMany_1, w_t_side_1, w_t_endRow_1, w_t_endColumn_1, w_t_endSide_1, w_t_gone_1⟩ := x1
    try dsimp only at hE
    intro H locs ls hP hD hS hl
    try dsimp only at hP hD hl ⊢
    refine lv_iload hx hb dX6_alike_40 (lv_at hl 4 rfl) ?_
    refine lv_iload_n hx hb dX6_alike_42 rfl (lv_at hl 2 rfl) ?_
    refine lv_icmp_ge (tgt := 93) hx hb dX6_alike_43 (by decide) (fun c_43 => ?_) (fun c_43 => ?_)
    · replace hE := (if_pos c_43).symm.trans hE
      refine lv_iload hx hb dX6_alike_93 (lv_at hl 3 rfl) ?_
      have e_1 := Option.some.inj hE
      have e_0 := hr_1 _ e_1.symm
      subst e_0
      rw [hQ]
      exact W.iret (v := v4_1) hx hb hr (fun t ht _ => ⟨⟨_, (), rfl, rfl, by rw [ht]; exact hP, hD⟩, hS.F ht⟩) hS.2.2 dX6_alike_95
    · replace hE := (if_neg c_43).symm.trans hE
      refine lv_aload_n hx hb dX6_alike_46 rfl (lv_at hl 0 rfl) ?_
      refine lv_aload_n hx hb dX6_alike_47 rfl (lv_at hl 0 rfl) ?_
      refine va_get (D := G.1) (ci := 6) (v := .int t_size) (C := RX6) (T := TX6) (N := 23) hx hb hts iX6 hown hK hP 0 rfl rfl 2 (by decide) fl_54 (fun _ h9 => h9) rfl dX6_alike_48 ?_
      refine lv_iload hx hb dX6_alike_51 (lv_at hl 4 rfl) ?_
      refine lv_aload_n hx hb dX6_alike_53 rfl (lv_at hl 0 rfl) ?_
      refine va_get (D := G.1) (ci := 6) (v := .ref q_t_side) (C := RX6) (T := TX6) (N := 23) hx hb hts iX6 hown hK hP 0 rfl rfl 10 (by decide) fl_25 (fun _ h9 => h9) rfl dX6_alike_54 ?_
      obtain ⟨y57, hC_57, hE⟩ := Option.bind_eq_some_iff.mp hE
      obtain ⟨m_57_0, ex9⟩ : ∃ z, z = y57 := ⟨_, rfl⟩
      subst ex9
      try dsimp only at hE
      have hPc := hP.sub (ws' := [oX6 q_t t_length q_t_text t_size q_t_sign t_otherSize q_t_other q_t_before t_undoMany t_readSize q_t_read q_t_side q_t_tall q_t_endRow q_t_endColumn q_t_endSide q_t_gone w_t_lineRow_1 w_t_lineColumn_1 w_t_lineSide_1 w_t_lineMany_1 q_t_ways q_t_codes q_t_many, aI (G.2 1) q_t_ways 448 m_30_0, aI (G.2 1) q_t_side 36 w_t_side_1]) [0, 7, 2] rfl
      have hDc := hD.sub (ws' := [oX6 q_t t_length q_t_text t_size q_t_sign t_otherSize q_t_other q_t_before t_undoMany t_readSize q_t_read q_t_side q_t_tall q_t_endRow q_t_endColumn q_t_endSide q_t_gone w_t_lineRow_1 w_t_lineColumn_1 w_t_lineSide_1 w_t_lineMany_1 q_t_ways q_t_codes q_t_many, aI (G.2 1) q_t_ways 448 m_30_0, aI (G.2 1) q_t_side 36 w_t_side_1]) [0, 7, 2] (by decide) rfl
      have hFc := va_free (wc := [oX6 q_t t_length q_t_text t_size q_t_sign t_otherSize q_t_other q_t_before t_undoMany t_readSize q_t_read q_t_side q_t_tall q_t_endRow q_t_endColumn q_t_endSide q_t_gone w_t_lineRow_1 w_t_lineColumn_1 w_t_lineSide_1 w_t_lineMany_1 q_t_ways q_t_codes q_t_many, aI (G.2 1) q_t_ways 448 m_30_0, aI (G.2 1) q_t_side 36 w_t_side_1]) hD hS hA [0, 7, 2] rfl
      refine va_callv (va_runV (As := [.int t_size, .int v5_1, .ref q_t_side]) (rest := []) ⟨hx, hb, hml, hown, hts⟩ (c_X6_unrank (l := l) (G := G) _ (p1 := t_size) (p2 := v5_1) (q_t := q_t) (t_length := t_length) (q_t_text := q_t_text) (t_size := t_size) (q_t_sign := q_t_sign) (t_otherSize := t_otherSize) (q_t_other := q_t_other) (q_t_before := q_t_before) (t_undoMany := t_undoMany) (t_readSize := t_readSize) (q_t_read := q_t_read) (q_t_side := q_t_side) (q_t_tall := q_t_tall) (q_t_endRow := q_t_endRow) (q_t_endColumn := q_t_endColumn) (q_t_endSide := q_t_endSide) (q_t_gone := q_t_gone) (t_lineRow := w_t_lineRow_1) (t_lineColumn := w_t_lineColumn_1) (t_lineSide := w_t_lineSide_1) (t_lineMany := w_t_lineMany_1) (q_t_ways := q_t_ways) (q_t_codes := q_t_codes) (q_t_many := q_t_many) (t_ways := m_30_0) (q_p3 := q_t_side) (p3 := w_t_side_1) hC_57) (cwV 3 hts gX6_alike_X6_unrank rfl rfl rfl kd_X6_unrank ⟨Nat.le_of_ble_eq_true rfl, Nat.le_of_ble_eq_true rfl⟩) (iv_V hKW hPc hDc (ci := 6) (q0 := 0) rfl rfl) rfl rfl hl.1 rfl (lv_room (Nat.le_of_ble_eq_true rfl)) dX6_alike_57 ⟨Nat.zero_le _, Nat.zero_le _⟩) hS (fun q _ h => hFc q h) hFc (fun u9 t9 H1 locs ht9 hvm9 hw9 hB9 hz9 hk9 hS => ?_)
      obtain ⟨hP1, hD1⟩ := hB9
      rw [ht9] at hP1
      obtain ⟨hP, hD⟩ := va_join (wr := [aI (G.2 1) q_t_sign 36 t_sign, aI (G.2 1) q_t_endRow 12 w_t_endRow_1, aI (G.2 1) q_t_endColumn 12 w_t_endColumn_1, aI (G.2 1) q_t_endSide 12 w_t_endSide_1, aI (G.2 3) q_t_gone 36 w_t_gone_1]) (w1 := [oX6 q_t t_length q_t_text t_size q_t_sign t_otherSize q_t_other q_t_before t_undoMany t_readSize q_t_read q_t_side q_t_tall q_t_endRow q_t_endColumn q_t_endSide q_t_gone w_t_lineRow_1 w_t_lineColumn_1 w_t_lineSide_1 w_t_lineMany_1 q_t_ways q_t_codes q_t_many, aI (G.2 1) q_t_ways 448 m_30_0, aI (G.2 1) q_t_side 36 m_57_0]) hP hD [0, 7, 2] [1, 3, 4, 5, 6] rfl rfl (by decide) (by decide) hk9 hFc hP1 hD1
      have hP := hP.sub (ws' := [oX6 q_t t_length q_t_text t_size q_t_sign t_otherSize q_t_other q_t_before t_undoMany t_readSize q_t_read q_t_side q_t_tall q_t_endRow q_t_endColumn q_t_endSide q_t_gone w_t_lineRow_1 w_t_lineColumn_1 w_t_lineSide_1 w_t_lineMany_1 q_t_ways q_t_codes q_t_many, aI (G.2 1) q_t_sign 36 t_sign, aI (G.2 1) q_t_side 36 m_57_0, aI (G.2 1) q_t_endRow 12 w_t_endRow_1, aI (G.2 1) q_t_endColumn 12 w_t_endColumn_1, aI (G.2 1) q_t_endSide 12 w_t_endSide_1, aI (G.2 3) q_t_gone 36 w_t_gone_1, aI (G.2 1) q_t_ways 448 m_30_0]) [5, 0, 7, 1, 2, 3, 4, 6] rfl
      have hD := hD.sub (ws' := [oX6 q_t t_length q_t_text t_size q_t_sign t_otherSize q_t_other q_t_before t_undoMany t_readSize q_t_read q_t_side q_t_tall q_t_endRow q_t_endColumn q_t_endSide q_t_gone w_t_lineRow_1 w_t_lineColumn_1 w_t_lineSide_1 w_t_lineMany_1 q_t_ways q_t_codes q_t_many, aI (G.2 1) q_t_sign 36 t_sign, aI (G.2 1) q_t_side 36 m_57_0, aI (G.2 1) q_t_endRow 12 w_t_endRow_1, aI (G.2 1) q_t_endColumn 12 w_t_endColumn_1, aI (G.2 1) q_t_endSide 12 w_t_endSide_1, aI (G.2 3) q_t_gone 36 w_t_gone_1, aI (G.2 1) q_t_ways 448 m_30_0]) [5, 0, 7, 1, 2, 3, 4, 6] (by decide) rfl
      clear hPc hDc hFc hP1 hD1 hk9 hz9 hvm9
      refine lv_iload hx hb dX6_alike_60 (lv_at hl 3 rfl) ?_
      refine lv_aload_n hx hb dX6_alike_62 rfl (lv_at hl 0 rfl) ?_
      refine lv_aload_n hx hb dX6_alike_63 rfl (lv_at hl 0 rfl) ?_
      refine va_get (D := G.1) (ci := 6) (v := .ref q_t_side) (C := RX6) (T := TX6) (N := 23) hx hb hts iX6 hown hK hP 0 rfl rfl 10 (by decide) fl_25 (fun _ h9 => h9) rfl dX6_alike_64 ?_
      refine lv_aload_n hx hb dX6_alike_67 rfl (lv_at hl 0 rfl) ?_
      refine va_get (D := G.1) (ci := 6) (v := .int t_size) (C := RX6) (T := TX6) (N := 23) hx hb hts iX6 hown hK hP 0 rfl rfl 2 (by decide) fl_54 (fun _ h9 => h9) rfl dX6_alike_68 ?_
      obtain ⟨y71, hC_71, hE⟩ := Option.bind_eq_some_iff.mp hE
      obtain ⟨r_71, m_71_0, m_71_1, m_71_2, m_71_3, m_71_4, m_71_5, m_71_6, m_71_7⟩ := y71
      try dsimp only at hE
      have hPc := hP.sub (ws' := [oX6 q_t t_length q_t_text t_size q_t_sign t_otherSize q_t_other q_t_before t_undoMany t_readSize q_t_read q_t_side q_t_tall q_t_endRow q_t_endColumn q_t_endSide q_t_gone w_t_lineRow_1 w_t_lineColumn_1 w_t_lineSide_1 w_t_lineMany_1 q_t_ways q_t_codes q_t_many, aI (G.2 1) q_t_endRow 12 w_t_endRow_1, aI (G.2 1) q_t_endColumn 12 w_t_endColumn_1, aI (G.2 1) q_t_endSide 12 w_t_endSide_1, aI (G.2 3) q_t_gone 36 w_t_gone_1, aI (G.2 1) q_t_side 36 m_57_0]) [0, 3, 4, 5, 6, 2] rfl
      have hDc := hD.sub (ws' := [oX6 q_t t_length q_t_text t_size q_t_sign t_otherSize q_t_other q_t_before t_undoMany t_readSize q_t_read q_t_side q_t_tall q_t_endRow q_t_endColumn q_t_endSide q_t_gone w_t_lineRow_1 w_t_lineColumn_1 w_t_lineSide_1 w_t_lineMany_1 q_t_ways q_t_codes q_t_many, aI (G.2 1) q_t_endRow 12 w_t_endRow_1, aI (G.2 1) q_t_endColumn 12 w_t_endColumn_1, aI (G.2 1) q_t_endSide 12 w_t_endSide_1, aI (G.2 3) q_t_gone 36 w_t_gone_1, aI (G.2 1) q_t_side 36 m_57_0]) [0, 3, 4, 5, 6, 2] (by decide) rfl
      have hFc := va_free (wc := [oX6 q_t t_length q_t_text t_size q_t_sign t_otherSize q_t_other q_t_before t_undoMany t_readSize q_t_read q_t_side q_t_tall q_t_endRow q_t_endColumn q_t_endSide q_t_gone w_t_lineRow_1 w_t_lineColumn_1 w_t_lineSide_1 w_t_lineMany_1 q_t_ways q_t_codes q_t_many, aI (G.2 1) q_t_endRow 12 w_t_endRow_1, aI (G.2 1) q_t_endColumn 12 w_t_endColumn_1, aI (G.2 1) q_t_endSide 12 w_t_endSide_1, aI (G.2 3) q_t_gone 36 w_t_gone_1, aI (G.2 1) q_t_side 36 m_57_0]) hD hS hA [0, 3, 4, 5, 6, 2] rfl
      refine va_calll (va_runV (As := [.ref q_t_side, .int t_size]) (rest := [.int v4_1]) ⟨hx, hb, hml, hown, hts⟩ (c_X6_partners (l := l) (G := G) _ (p2 := t_size) (q_t := q_t) (t_length := t_length) (q_t_text := q_t_text) (t_size := t_size) (q_t_sign := q_t_sign) (t_otherSize := t_otherSize) (q_t_other := q_t_other) (q_t_before := q_t_before) (t_undoMany := t_undoMany) (t_readSize := t_readSize) (q_t_read := q_t_read) (q_t_side := q_t_side) (q_t_tall := q_t_tall) (q_t_endRow := q_t_endRow) (q_t_endColumn := q_t_endColumn) (q_t_endSide := q_t_endSide) (q_t_gone := q_t_gone) (t_lineRow := w_t_lineRow_1) (t_lineColumn := w_t_lineColumn_1) (t_lineSide := w_t_lineSide_1) (t_lineMany := w_t_lineMany_1) (q_t_ways := q_t_ways) (q_t_codes := q_t_codes) (q_t_many := q_t_many) (t_endRow := w_t_endRow_1) (t_endColumn := w_t_endColumn_1) (t_endSide := w_t_endSide_1) (t_gone := w_t_gone_1) (q_p1 := q_t_side) (p1 := m_57_0) hC_71) (cwV 2 hts gX6_alike_X6_partners rfl rfl rfl kd_X6_partners ⟨Nat.le_of_ble_eq_true rfl, Nat.le_of_ble_eq_true rfl⟩) (iv_V hKW hPc hDc (ci := 6) (q0 := 0) rfl rfl) rfl rfl hl.1 rfl (lv_room (Nat.le_of_ble_eq_true rfl)) dX6_alike_71 ⟨Nat.zero_le _, Nat.zero_le _⟩) hS (fun q _ h => hFc q h) hFc (fun r9 u9 t9 H1 locs ht9 hvm9 hw9 hB9 hz9 hk9 hS => ?_)
      subst r9
      obtain ⟨hP1, hD1⟩ := hB9
      rw [ht9] at hP1
      obtain ⟨hP, hD⟩ := va_join (wr := [aI (G.2 1) q_t_sign 36 t_sign, aI (G.2 1) q_t_ways 448 m_30_0]) (w1 := [oX6 q_t t_length q_t_text t_size q_t_sign t_otherSize q_t_other q_t_before t_undoMany t_readSize q_t_read q_t_side q_t_tall q_t_endRow q_t_endColumn q_t_endSide q_t_gone m_71_0 m_71_1 m_71_2 m_71_3 q_t_ways q_t_codes q_t_many, aI (G.2 1) q_t_endRow 12 m_71_4, aI (G.2 1) q_t_endColumn 12 m_71_5, aI (G.2 1) q_t_endSide 12 m_71_6, aI (G.2 3) q_t_gone 36 m_71_7, aI (G.2 1) q_t_side 36 m_57_0]) hP hD [0, 3, 4, 5, 6, 2] [1, 7] rfl rfl (by decide) (by decide) hk9 hFc hP1 hD1
      have hP := hP.sub (ws' := [oX6 q_t t_length q_t_text t_size q_t_sign t_otherSize q_t_other q_t_before t_undoMany t_readSize q_t_read q_t_side q_t_tall q_t_endRow q_t_endColumn q_t_endSide q_t_gone m_71_0 m_71_1 m_71_2 m_71_3 q_t_ways q_t_codes q_t_many, aI (G.2 1) q_t_sign 36 t_sign, aI (G.2 1) q_t_side 36 m_57_0, aI (G.2 1) q_t_endRow 12 m_71_4, aI (G.2 1) q_t_endColumn 12 m_71_5, aI (G.2 1) q_t_endSide 12 m_71_6, aI (G.2 3) q_t_gone 36 m_71_7, aI (G.2 1) q_t_ways 448 m_30_0]) [2, 0, 7, 3, 4, 5, 6, 1] rfl
      have hD := hD.sub (ws' := [oX6 q_t t_length q_t_text t_size q_t_sign t_otherSize q_t_other q_t_before t_undoMany t_readSize q_t_read q_t_side q_t_tall q_t_endRow q_t_endColumn q_t_endSide q_t_gone m_71_0 m_71_1 m_71_2 m_71_3 q_t_ways q_t_codes q_t_many, aI (G.2 1) q_t_sign 36 t_sign, aI (G.2 1) q_t_side 36 m_57_0, aI (G.2 1) q_t_endRow 12 m_71_4, aI (G.2 1) q_t_endColumn 12 m_71_5, aI (G.2 1) q_t_endSide 12 m_71_6, aI (G.2 3) q_t_gone 36 m_71_7, aI (G.2 1) q_t_ways 448 m_30_0]) [2, 0, 7, 3, 4, 5, 6, 1] (by decide) rfl
      clear hPc hDc hFc hP1 hD1 hk9 hz9 hvm9
      refine lv_lload_n hx hb dX6_alike_74 rfl (lv_at hl 1 rfl) ?_
      refine W.lcmp hx hb dX6_alike_75 ?_
      refine lv_if_ne (tgt := 83) hx hb dX6_alike_76 (by decide) (fun c_76 => ?_) (fun c_76 => ?_)
      · replace hE := (if_neg c_76).symm.trans hE
        refine lv_iconst (v := 0) hx hb dX6_alike_83 (by decide) ?_
        refine lv_iadd hx hb dX6_alike_84 ?_
        refine lv_istore (lv' := [(4, .int (v4_1 + (0 : Int32))), (0, .ref q_t), (1, .long r_21), (3, .int r_30), (5, .int v5_1)]) hx hb dX6_alike_85 hl (by decide) rfl (fun ls hl => ?_)
        refine lv_iinc (v := v5_1 + (1 : Int32)) (lv' := [(5, .int (v5_1 + (1 : Int32))), (4, .int (v4_1 + (0 : Int32))), (0, .ref q_t), (1, .long r_21), (3, .int r_30)]) hx hb dX6_alike_87 hl (k := 4) rfl rfl (by decide) rfl (fun ls hl => ?_)
        refine lv_goto (tgt := 40) hx hb dX6_alike_90 (by decide) ?_
        have e_1 := Option.some.inj hE
        exact ih_1 _ e_1.symm _ _ ls hP hD hS (lv_sub hl [2, 3, 4, 1, 0] rfl)
      · replace hE := (if_pos c_76).symm.trans hE
        refine lv_iconst (v := 1) hx hb dX6_alike_79 (by decide) ?_
        refine lv_goto (tgt := 84) hx hb dX6_alike_80 (by decide) ?_
        refine lv_iadd hx hb dX6_alike_84 ?_
        refine lv_istore (lv' := [(4, .int (v4_1 + (1 : Int32))), (0, .ref q_t), (1, .long r_21), (3, .int r_30), (5, .int v5_1)]) hx hb dX6_alike_85 hl (by decide) rfl (fun ls hl => ?_)
        refine lv_iinc (v := v5_1 + (1 : Int32)) (lv' := [(5, .int (v5_1 + (1 : Int32))), (4, .int (v4_1 + (1 : Int32))), (0, .ref q_t), (1, .long r_21), (3, .int r_30)]) hx hb dX6_alike_87 hl (k := 4) rfl rfl (by decide) rfl (fun ls hl => ?_)
        refine lv_goto (tgt := 40) hx hb dX6_alike_90 (by decide) ?_
        have e_1 := Option.some.inj hE
        exact ih_1 _ e_1.symm _ _ ls hP hD hS (lv_sub hl [2, 3, 4, 1, 0] rfl)
  · replace hE := (if_pos c_6).symm.trans hE
    refine lv_bipush (v := -2) hx hb dX6_alike_9 (by decide) ?_
    have e_0 := Option.some.inj hE
    subst e_0
    rw [hQ]
    exact W.iret (v := (-2 : Int32)) hx hb hr (fun t ht _ => ⟨⟨_, (), rfl, rfl, by rw [ht]; exact hP, hD⟩, hS.F ht⟩) hS.2.2 dX6_alike_11
def S_X6_ways (p1 : Int32) (p2 : Int32) (t_lineRow : Int32) (t_lineColumn : Int32) (t_lineSide : Int32) (t_lineMany : Int32) (t_side : Nat → Int32) (t_endRow : Nat → Int32) (t_endColumn : Nat → Int32) (t_endSide : Nat → Int32) (t_gone : Nat → Int32) (t_ways : Nat → Int32) (t_codes : Nat → Int64) (t_many : Nat → Int32) : Option (Int32 × Int32 × Int32 × Int32 × Int32 × (Nat → Int32) × (Nat → Int32) × (Nat → Int32) × (Nat → Int32) × (Nat → Int32) × (Nat → Int32) × (Nat → Int64) × (Nat → Int32)) := (S_X6_in p1.toInt64 (1 : Int64) (5 : Int64)).bind (fun (y6 : Int32) => if y6 = 0 then some ((-1 : Int32), t_lineRow, t_lineColumn, t_lineSide, t_lineMany, t_side, t_endRow, t_endColumn, t_endSide, t_gone, t_ways, t_codes, t_many) else if (-1 : Int32) ≤ p2 then (S_X6_findWays p1 t_ways).bind (fun (y21 : Int32 × (Nat → Int32)) => itr (fun (x1 : Int32 × Int32 × Int32 × Int32 × Int32 × Int32 × (Nat → Int32) × (Nat → Int32) × (Nat → Int32) × (Nat → Int32) × (Nat → Int32) × (Nat → Int64) × (Nat → Int32)) => if y21.1 ≤ x1.2.1 then if 0 ≤ p2 then if x1.1 ≤ p2 then some (.inr ((-4 : Int32), x1.2.2.1, x1.2.2.2.1, x1.2.2.2.2.1, x1.2.2.2.2.2.1, x1.2.2.2.2.2.2.1, x1.2.2.2.2.2.2.2.1, x1.2.2.2.2.2.2.2.2.1, x1.2.2.2.2.2.2.2.2.2.1, x1.2.2.2.2.2.2.2.2.2.2.1, y21.2, x1.2.2.2.2.2.2.2.2.2.2.2.1, x1.2.2.2.2.2.2.2.2.2.2.2.2)) else ck (inb p2 429) (some (.inr (x1.2.2.2.2.2.2.2.2.2.2.2.2 p2.toNatClampNeg, x1.2.2.1, x1.2.2.2.1, x1.2.2.2.2.1, x1.2.2.2.2.2.1, x1.2.2.2.2.2.2.1, x1.2.2.2.2.2.2.2.1, x1.2.2.2.2.2.2.2.2.1, x1.2.2.2.2.2.2.2.2.2.1, x1.2.2.2.2.2.2.2.2.2.2.1, y21.2, x1.2.2.2.2.2.2.2.2.2.2.2.1, x1.2.2.2.2.2.2.2.2.2.2.2.2))) else some (.inr (x1.1, x1.2.2.1, x1.2.2.2.1, x1.2.2.2.2.1, x1.2.2.2.2.2.1, x1.2.2.2.2.2.2.1, x1.2.2.2.2.2.2.2.1, x1.2.2.2.2.2.2.2.2.1, x1.2.2.2.2.2.2.2.2.2.1, x1.2.2.2.2.2.2.2.2.2.2.1, y21.2, x1.2.2.2.2.2.2.2.2.2.2.2.1, x1.2.2.2.2.2.2.2.2.2.2.2.2)) else (S_X6_unrank p1 x1.2.1 y21.2 x1.2.2.2.2.2.2.1).bind (fun (y45 : Nat → Int32) => (S_X6_partners p1 x1.2.2.1 x1.2.2.2.1 x1.2.2.2.2.1 x1.2.2.2.2.2.1 x1.2.2.2.2.2.2.2.1 x1.2.2.2.2.2.2.2.2.1 x1.2.2.2.2.2.2.2.2.2.1 x1.2.2.2.2.2.2.2.2.2.2.1 y45).bind (fun (y60 : Int64 × Int32 × Int32 × Int32 × Int32 × (Nat → Int32) × (Nat → Int32) × (Nat → Int32) × (Nat → Int32)) => ck (inb x1.1 429) (itr (fun (x2 : Int32) => ck (inb x2 429) (ck (inb x1.1 429) (if (lg_cmp ((vp_updL x1.2.2.2.2.2.2.2.2.2.2.2.1 x1.1.toNatClampNeg y60.1) x2.toNatClampNeg) ((vp_updL x1.2.2.2.2.2.2.2.2.2.2.2.1 x1.1.toNatClampNeg y60.1) x1.1.toNatClampNeg)) = 0 then jn (if x2 = x1.1 then some (.inl (1 : Int32)) else ck (inb x2 429) (some (.inl ((x1.2.2.2.2.2.2.2.2.2.2.2.2 x2.toNatClampNeg) + (1 : Int32))))) (fun (x3 : Int32) => ck (inb x2 429) (if x2 = x1.1 then some (.inr (.inl (x1.1 + (1 : Int32), x1.2.1 + (1 : Int32), y60.2.1, y60.2.2.1, y60.2.2.2.1, y60.2.2.2.2.1, y45, y60.2.2.2.2.2.1, y60.2.2.2.2.2.2.1, y60.2.2.2.2.2.2.2.1, y60.2.2.2.2.2.2.2.2, vp_updL x1.2.2.2.2.2.2.2.2.2.2.2.1 x1.1.toNatClampNeg y60.1, upd x1.2.2.2.2.2.2.2.2.2.2.2.2 x2.toNatClampNeg x3))) else some (.inr (.inl (x1.1 + (0 : Int32), x1.2.1 + (1 : Int32), y60.2.1, y60.2.2.1, y60.2.2.2.1, y60.2.2.2.2.1, y45, y60.2.2.2.2.2.1, y60.2.2.2.2.2.2.1, y60.2.2.2.2.2.2.2.1, y60.2.2.2.2.2.2.2.2, vp_updL x1.2.2.2.2.2.2.2.2.2.2.2.1 x1.1.toNatClampNeg y60.1, upd x1.2.2.2.2.2.2.2.2.2.2.2.2 x2.toNatClampNeg x3))))) else some (.inl (x2 + (1 : Int32)))))) 10000 (0 : Int32))))) 10000 ((0 : Int32), (0 : Int32), t_lineRow, t_lineColumn, t_lineSide, t_lineMany, t_side, t_endRow, t_endColumn, t_endSide, t_gone, t_codes, t_many)) else some ((-1 : Int32), t_lineRow, t_lineColumn, t_lineSide, t_lineMany, t_side, t_endRow, t_endColumn, t_endSide, t_gone, t_ways, t_codes, t_many))
theorem kd_X6_ways : yX6_ways.cls = RX6 ∧ yX6_ways.cls ≠ "java/lang/invoke/MethodHandle" ∧ yX6_ways.cls ≠ "java/lang/invoke/VarHandle" ∧ (parseMethodDescriptor yX6_ways.desc).map (fun d => d.parameters.length) = some 2 := by decide +kernel
set_option maxHeartbeats 4000000 in
set_option maxRecDepth 100000 in
theorem c_X6_ways {l : Launch} {G : kG} (sz : Nat) {p1 : Int32} {p2 : Int32} {q_t : Nat} {t_length : Int32} {q_t_text : Nat} {t_size : Int32} {q_t_sign : Nat} {t_otherSize : Int32} {q_t_other : Nat} {q_t_before : Nat} {t_undoMany : Int32} {t_readSize : Int32} {q_t_read : Nat} {q_t_side : Nat} {q_t_tall : Nat} {q_t_endRow : Nat} {q_t_endColumn : Nat} {q_t_endSide : Nat} {q_t_gone : Nat} {t_lineRow : Int32} {t_lineColumn : Int32} {t_lineSide : Int32} {t_lineMany : Int32} {q_t_ways : Nat} {q_t_codes : Nat} {q_t_many : Nat} {t_side : Nat → Int32} {t_endRow : Nat → Int32} {t_endColumn : Nat → Int32} {t_endSide : Nat → Int32} {t_gone : Nat → Int32} {t_ways : Nat → Int32} {t_codes : Nat → Int64} {t_many : Nat → Int32} {res : Int32 × Int32 × Int32 × Int32 × Int32 × (Nat → Int32) × (Nat → Int32) × (Nat → Int32) × (Nat → Int32) × (Nat → Int32) × (Nat → Int32) × (Nat → Int64) × (Nat → Int32)} (hE : S_X6_ways p1 p2 t_lineRow t_lineColumn t_lineSide t_lineMany t_side t_endRow t_endColumn t_endSide t_gone t_ways t_codes t_many = some res) : Met l yX6_ways wsX6_ways ({ frames := 5, cells := 0, slots := 0, locals := 130 }) (va_Pc [.ref q_t, .int p1, .int p2] (fun U => U.heap.size = sz ∧ va_P G.1 vwCl [oX6 q_t t_length q_t_text t_size q_t_sign t_otherSize q_t_other q_t_before t_undoMany t_readSize q_t_read q_t_side q_t_tall q_t_endRow q_t_endColumn q_t_endSide q_t_gone t_lineRow t_lineColumn t_lineSide t_lineMany q_t_ways q_t_codes q_t_many, aI (G.2 1) q_t_side 36 t_side, aI (G.2 1) q_t_endRow 12 t_endRow, aI (G.2 1) q_t_endColumn 12 t_endColumn, aI (G.2 1) q_t_endSide 12 t_endSide, aI (G.2 3) q_t_gone 36 t_gone, aI (G.2 1) q_t_ways 448 t_ways, aJ (G.2 2) q_t_codes 429 t_codes, aI (G.2 1) q_t_many 429 t_many] U.heap ∧ kw G U ∧ va_D (fun _ => True) [oX6 q_t t_length q_t_text t_size q_t_sign t_otherSize q_t_other q_t_before t_undoMany t_readSize q_t_read q_t_side q_t_tall q_t_endRow q_t_endColumn q_t_endSide q_t_gone t_lineRow t_lineColumn t_lineSide t_lineMany q_t_ways q_t_codes q_t_many, aI (G.2 1) q_t_side 36 t_side, aI (G.2 1) q_t_endRow 12 t_endRow, aI (G.2 1) q_t_endColumn 12 t_endColumn, aI (G.2 1) q_t_endSide 12 t_endSide, aI (G.2 3) q_t_gone 36 t_gone, aI (G.2 1) q_t_ways 448 t_ways, aJ (G.2 2) q_t_codes 429 t_codes, aI (G.2 1) q_t_many 429 t_many])) (va_Qi (fun r (_ : Unit) => r = res.1) (fun _ t => va_P G.1 vwCl [oX6 q_t t_length q_t_text t_size q_t_sign t_otherSize q_t_other q_t_before t_undoMany t_readSize q_t_read q_t_side q_t_tall q_t_endRow q_t_endColumn q_t_endSide q_t_gone res.2.1 res.2.2.1 res.2.2.2.1 res.2.2.2.2.1 q_t_ways q_t_codes q_t_many, aI (G.2 1) q_t_side 36 res.2.2.2.2.2.1, aI (G.2 1) q_t_endRow 12 res.2.2.2.2.2.2.1, aI (G.2 1) q_t_endColumn 12 res.2.2.2.2.2.2.2.1, aI (G.2 1) q_t_endSide 12 res.2.2.2.2.2.2.2.2.1, aI (G.2 3) q_t_gone 36 res.2.2.2.2.2.2.2.2.2.1, aI (G.2 1) q_t_ways 448 res.2.2.2.2.2.2.2.2.2.2.1, aJ (G.2 2) q_t_codes 429 res.2.2.2.2.2.2.2.2.2.2.2.1, aI (G.2 1) q_t_many 429 res.2.2.2.2.2.2.2.2.2.2.2.2] t.heap ∧ va_D (va_A [oX6 q_t t_length q_t_text t_size q_t_sign t_otherSize q_t_other q_t_before t_undoMany t_readSize q_t_read q_t_side q_t_tall q_t_endRow q_t_endColumn q_t_endSide q_t_gone t_lineRow t_lineColumn t_lineSide t_lineMany q_t_ways q_t_codes q_t_many, aI (G.2 1) q_t_side 36 t_side, aI (G.2 1) q_t_endRow 12 t_endRow, aI (G.2 1) q_t_endColumn 12 t_endColumn, aI (G.2 1) q_t_endSide 12 t_endSide, aI (G.2 3) q_t_gone 36 t_gone, aI (G.2 1) q_t_ways 448 t_ways, aJ (G.2 2) q_t_codes 429 t_codes, aI (G.2 1) q_t_many 429 t_many] sz) [oX6 q_t t_length q_t_text t_size q_t_sign t_otherSize q_t_other q_t_before t_undoMany t_readSize q_t_read q_t_side q_t_tall q_t_endRow q_t_endColumn q_t_endSide q_t_gone res.2.1 res.2.2.1 res.2.2.2.1 res.2.2.2.2.1 q_t_ways q_t_codes q_t_many, aI (G.2 1) q_t_side 36 res.2.2.2.2.2.1, aI (G.2 1) q_t_endRow 12 res.2.2.2.2.2.2.1, aI (G.2 1) q_t_endColumn 12 res.2.2.2.2.2.2.2.1, aI (G.2 1) q_t_endSide 12 res.2.2.2.2.2.2.2.2.1, aI (G.2 3) q_t_gone 36 res.2.2.2.2.2.2.2.2.2.1, aI (G.2 1) q_t_ways 448 res.2.2.2.2.2.2.2.2.2.2.1, aJ (G.2 2) q_t_codes 429 res.2.2.2.2.2.2.2.2.2.2.2.1, aI (G.2 1) q_t_many 429 res.2.2.2.2.2.2.2.2.2.2.2.2]) (va_A [oX6 q_t t_length q_t_text t_size q_t_sign t_otherSize q_t_other q_t_before t_undoMany t_readSize q_t_read q_t_side q_t_tall q_t_endRow q_t_endColumn q_t_endSide q_t_gone t_lineRow t_lineColumn t_lineSide t_lineMany q_t_ways q_t_codes q_t_many, aI (G.2 1) q_t_side 36 t_side, aI (G.2 1) q_t_endRow 12 t_endRow, aI (G.2 1) q_t_endColumn 12 t_endColumn, aI (G.2 1) q_t_endSide 12 t_endSide, aI (G.2 3) q_t_gone 36 t_gone, aI (G.2 1) q_t_ways 448 t_ways, aJ (G.2 2) q_t_codes 429 t_codes, aI (G.2 1) q_t_many 429 t_many] sz)) 0 0 (va_A [oX6 q_t t_length q_t_text t_size q_t_sign t_otherSize q_t_other q_t_before t_undoMany t_readSize q_t_read q_t_side q_t_tall q_t_endRow q_t_endColumn q_t_endSide q_t_gone t_lineRow t_lineColumn t_lineSide t_lineMany q_t_ways q_t_codes q_t_many, aI (G.2 1) q_t_side 36 t_side, aI (G.2 1) q_t_endRow 12 t_endRow, aI (G.2 1) q_t_endColumn 12 t_endColumn, aI (G.2 1) q_t_endSide 12 t_endSide, aI (G.2 3) q_t_gone 36 t_gone, aI (G.2 1) q_t_ways 448 t_ways, aJ (G.2 2) q_t_codes 429 t_codes, aI (G.2 1) q_t_many 429 t_many] sz) := by
  refine Met.ofQ (cc := cX6_ways) (maxL := 7) (ret := (some .int)) (by decide) rfl ?_
  intro p e s m args below meth c s₁ Q hQ B hml hv
  obtain ⟨rfl, hsz, hP, hKW, hD0⟩ := hv
  have hK := hKW.1
  have hx := B.exec
  have hb := B.bytes
  have hr := B.returns
  have hts := atoms_spec (ws := wsX6_ways) B.pre
  have hown : s.vm.findClass RX6 = some m.cls := findClass_of_methodNamed B.named
  have hlocks := B.notSynchronized
  have iX6 : ∀ w ∈ u_ws RX6 TX6 23, w ∈ wsX6_ways := by decide +kernel
  have fl_25 := hts (.fieldLink RX6 25 "AlternateSignsModel" "side" "[I") (by decide +kernel)
  have fl_47 := hts (.fieldLink RX6 47 "AlternateSignsModel" "codes" "[J") (by decide +kernel)
  have fl_51 := hts (.fieldLink RX6 51 "AlternateSignsModel" "many" "[I") (by decide +kernel)
  subst hsz
  have hD := hD0.self (sz := s.heap.size)
  generalize hAe : va_A [oX6 q_t t_length q_t_text t_size q_t_sign t_otherSize q_t_other q_t_before t_undoMany t_readSize q_t_read q_t_side q_t_tall q_t_endRow q_t_endColumn q_t_endSide q_t_gone t_lineRow t_lineColumn t_lineSide t_lineMany q_t_ways q_t_codes q_t_many, aI (G.2 1) q_t_side 36 t_side, aI (G.2 1) q_t_endRow 12 t_endRow, aI (G.2 1) q_t_endColumn 12 t_endColumn, aI (G.2 1) q_t_endSide 12 t_endSide, aI (G.2 3) q_t_gone 36 t_gone, aI (G.2 1) q_t_ways 448 t_ways, aJ (G.2 2) q_t_codes 429 t_codes, aI (G.2 1) q_t_many 429 t_many] s.heap.size = A at hD hQ
  have hA : ∀ q : Nat, s.heap.size ≤ q → A q := fun q h => by rw [← hAe]; exact Or.inr h
  have hS : va_S A s.heap s.heap [] := va_S.rf
  have hl := lv_entry ([.ref q_t, .int p1, .int p2]) (n := 7) (Nat.le_of_ble_eq_true rfl)
  rw [lg_entry_eq]
  generalize (lg_sl ([.ref q_t, .int p1, .int p2]) ++ List.replicate (7 - (lg_sl ([.ref q_t, .int p1, .int p2])).length) Slot.unset).toArray = ls at hl ⊢
  have hl : lv_has ls 7 [(0, .ref q_t), (1, .int p1), (2, .int p2)] := hl
  unfold S_X6_ways at hE
  refine lv_iload_n hx hb dX6_ways_0 rfl (lv_at hl 1 rfl) ?_
  refine lv_i2l (v := p1.toInt64) hx hb dX6_ways_1 rfl ?_
  refine lv_lconst (v := 1) hx hb dX6_ways_2 (by decide) ?_
  refine lv_ldc2 (v := 5) hx hb hown (hts (.constantLong RX6 201 (5)) (by decide +kernel)) dX6_ways_3 ?_
  obtain ⟨y6, hC_6, hE⟩ := Option.bind_eq_some_iff.mp hE
  obtain ⟨r_6, ex9⟩ : ∃ z, z = y6 := ⟨_, rfl⟩
  subst ex9
  try dsimp only at hE
  refine vp_callSi (va_Run.run (va_runS (As := [.long p1.toInt64, .long (1 : Int64), .long (5 : Int64)]) (rest := []) ⟨hx, hb, hml, hown, hts⟩ (c_X6_in (l := l) (G := G) (p1 := p1.toInt64) (p2 := (1 : Int64)) (p3 := (5 : Int64)) hC_6) (va_cwS 3 hts gX6_ways_X6_in rfl rfl rfl kd_X6_in ⟨Nat.le_of_ble_eq_true rfl, Nat.le_of_ble_eq_true rfl⟩) (pv_S hKW (hP.sub (ws' := []) [] rfl)) rfl rfl hl.1 rfl (lv_room (Nat.le_of_ble_eq_true rfl)) dX6_ways_6 ⟨Nat.zero_le _, Nat.zero_le _⟩)) (fun r9 hr9 => ?_)
  subst r9
  refine lv_if_eq (tgt := 17) hx hb dX6_ways_9 (by decide) (fun c_9 => ?_) (fun c_9 => ?_)
  · replace hE := (if_pos c_9).symm.trans hE
    refine lv_iconst (v := -1) hx hb dX6_ways_17 (by decide) ?_
    have e_0 := Option.some.inj hE
    subst e_0
    rw [hQ]
    exact W.iret (v := (-1 : Int32)) hx hb hr (fun t ht _ => ⟨⟨_, (), rfl, rfl, by rw [ht]; exact hP, hD⟩, hS.F ht⟩) hS.2.2 dX6_ways_18
  · replace hE := (if_neg c_9).symm.trans hE
    refine lv_iload_n hx hb dX6_ways_12 rfl (lv_at hl 2 rfl) ?_
    refine lv_iconst (v := -1) hx hb dX6_ways_13 (by decide) ?_
    refine lv_icmp_ge (tgt := 19) hx hb dX6_ways_14 (by decide) (fun c_14 => ?_) (fun c_14 => ?_)
    · replace hE := (if_pos c_14).symm.trans hE
      refine lv_aload_n hx hb dX6_ways_19 rfl (lv_at hl 0 rfl) ?_
      refine lv_iload_n hx hb dX6_ways_20 rfl (lv_at hl 1 rfl) ?_
      obtain ⟨y21, hC_21, hE⟩ := Option.bind_eq_some_iff.mp hE
      obtain ⟨r_21, m_21_0⟩ := y21
      try dsimp only at hE
      have hPc := hP.sub (ws' := [oX6 q_t t_length q_t_text t_size q_t_sign t_otherSize q_t_other q_t_before t_undoMany t_readSize q_t_read q_t_side q_t_tall q_t_endRow q_t_endColumn q_t_endSide q_t_gone t_lineRow t_lineColumn t_lineSide t_lineMany q_t_ways q_t_codes q_t_many, aI (G.2 1) q_t_ways 448 t_ways]) [0, 6] rfl
      have hDc := hD.sub (ws' := [oX6 q_t t_length q_t_text t_size q_t_sign t_otherSize q_t_other q_t_before t_undoMany t_readSize q_t_read q_t_side q_t_tall q_t_endRow q_t_endColumn q_t_endSide q_t_gone t_lineRow t_lineColumn t_lineSide t_lineMany q_t_ways q_t_codes q_t_many, aI (G.2 1) q_t_ways 448 t_ways]) [0, 6] (by decide) rfl
      have hFc := va_free (wc := [oX6 q_t t_length q_t_text t_size q_t_sign t_otherSize q_t_other q_t_before t_undoMany t_readSize q_t_read q_t_side q_t_tall q_t_endRow q_t_endColumn q_t_endSide q_t_gone t_lineRow t_lineColumn t_lineSide t_lineMany q_t_ways q_t_codes q_t_many, aI (G.2 1) q_t_ways 448 t_ways]) hD hS hA [0, 6] rfl
      refine va_calli (va_runV (As := [.int p1]) (rest := []) ⟨hx, hb, hml, hown, hts⟩ (c_X6_findWays (l := l) (G := G) _ (p1 := p1) (q_t := q_t) (t_length := t_length) (q_t_text := q_t_text) (t_size := t_size) (q_t_sign := q_t_sign) (t_otherSize := t_otherSize) (q_t_other := q_t_other) (q_t_before := q_t_before) (t_undoMany := t_undoMany) (t_readSize := t_readSize) (q_t_read := q_t_read) (q_t_side := q_t_side) (q_t_tall := q_t_tall) (q_t_endRow := q_t_endRow) (q_t_endColumn := q_t_endColumn) (q_t_endSide := q_t_endSide) (q_t_gone := q_t_gone) (t_lineRow := t_lineRow) (t_lineColumn := t_lineColumn) (t_lineSide := t_lineSide) (t_lineMany := t_lineMany) (q_t_ways := q_t_ways) (q_t_codes := q_t_codes) (q_t_many := q_t_many) (t_ways := t_ways) hC_21) (cwV 1 hts gX6_ways_X6_findWays rfl rfl rfl kd_X6_findWays ⟨Nat.le_of_ble_eq_true rfl, Nat.le_of_ble_eq_true rfl⟩) (iv_V hKW hPc hDc (ci := 6) (q0 := 0) rfl rfl) rfl rfl hl.1 rfl (lv_room (Nat.le_of_ble_eq_true rfl)) dX6_ways_21 ⟨Nat.zero_le _, Nat.zero_le _⟩) hS (fun q _ h => hFc q h) hFc (fun r9 u9 t9 H1 locs ht9 hvm9 hw9 hB9 hz9 hk9 hS => ?_)
      subst r9
      obtain ⟨hP1, hD1⟩ := hB9
      rw [ht9] at hP1
      obtain ⟨hP, hD⟩ := va_join (wr := [aI (G.2 1) q_t_side 36 t_side, aI (G.2 1) q_t_endRow 12 t_endRow, aI (G.2 1) q_t_endColumn 12 t_endColumn, aI (G.2 1) q_t_endSide 12 t_endSide, aI (G.2 3) q_t_gone 36 t_gone, aJ (G.2 2) q_t_codes 429 t_codes, aI (G.2 1) q_t_many 429 t_many]) (w1 := [oX6 q_t t_length q_t_text t_size q_t_sign t_otherSize q_t_other q_t_before t_undoMany t_readSize q_t_read q_t_side q_t_tall q_t_endRow q_t_endColumn q_t_endSide q_t_gone t_lineRow t_lineColumn t_lineSide t_lineMany q_t_ways q_t_codes q_t_many, aI (G.2 1) q_t_ways 448 m_21_0]) hP hD [0, 6] [1, 2, 3, 4, 5, 7, 8] rfl rfl (by decide) (by decide) hk9 hFc hP1 hD1
      have hP := hP.sub (ws' := [oX6 q_t t_length q_t_text t_size q_t_sign t_otherSize q_t_other q_t_before t_undoMany t_readSize q_t_read q_t_side q_t_tall q_t_endRow q_t_endColumn q_t_endSide q_t_gone t_lineRow t_lineColumn t_lineSide t_lineMany q_t_ways q_t_codes q_t_many, aI (G.2 1) q_t_side 36 t_side, aI (G.2 1) q_t_endRow 12 t_endRow, aI (G.2 1) q_t_endColumn 12 t_endColumn, aI (G.2 1) q_t_endSide 12 t_endSide, aI (G.2 3) q_t_gone 36 t_gone, aI (G.2 1) q_t_ways 448 m_21_0, aJ (G.2 2) q_t_codes 429 t_codes, aI (G.2 1) q_t_many 429 t_many]) [7, 0, 1, 2, 3, 4, 8, 5, 6] rfl
      have hD := hD.sub (ws' := [oX6 q_t t_length q_t_text t_size q_t_sign t_otherSize q_t_other q_t_before t_undoMany t_readSize q_t_read q_t_side q_t_tall q_t_endRow q_t_endColumn q_t_endSide q_t_gone t_lineRow t_lineColumn t_lineSide t_lineMany q_t_ways q_t_codes q_t_many, aI (G.2 1) q_t_side 36 t_side, aI (G.2 1) q_t_endRow 12 t_endRow, aI (G.2 1) q_t_endColumn 12 t_endColumn, aI (G.2 1) q_t_endSide 12 t_endSide, aI (G.2 3) q_t_gone 36 t_gone, aI (G.2 1) q_t_ways 448 m_21_0, aJ (G.2 2) q_t_codes 429 t_codes, aI (G.2 1) q_t_many 429 t_many]) [7, 0, 1, 2, 3, 4, 8, 5, 6] (by decide) rfl
      clear hPc hDc hFc hP1 hD1 hk9 hz9 hvm9
      refine lv_istore_n (lv' := [(3, .int r_21), (0, .ref q_t), (1, .int p1), (2, .int p2)]) hx hb dX6_ways_24 rfl hl (by decide) rfl (fun ls hl => ?_)
      refine lv_iconst (v := 0) hx hb dX6_ways_25 (by decide) ?_
      refine lv_istore (lv' := [(4, .int (0 : Int32)), (3, .int r_21), (0, .ref q_t), (1, .int p1), (2, .int p2)]) hx hb dX6_ways_26 hl (by decide) rfl (fun ls hl => ?_)
      refine lv_iconst (v := 0) hx hb dX6_ways_28 (by decide) ?_
      refine lv_istore (lv' := [(5, .int (0 : Int32)), (4, .int (0 : Int32)), (3, .int r_21), (0, .ref q_t), (1, .int p1), (2, .int p2)]) hx hb dX6_ways_29 hl (by decide) rfl (fun ls hl => ?_)
      refine itr_ind (fun (x1 : Int32 × Int32 × Int32 × Int32 × Int32 × Int32 × (Nat → Int32) × (Nat → Int32) × (Nat → Int32) × (Nat → Int32) × (Nat → Int32) × (Nat → Int64) × (Nat → Int32)) => ∀ (H : Heap) (locs : List Loc) (ls : Array Slot), va_P G.1 vwCl [oX6 q_t t_length q_t_text t_size q_t_sign t_otherSize q_t_other q_t_before t_undoMany t_readSize q_t_read q_t_side q_t_tall q_t_endRow q_t_endColumn q_t_endSide q_t_gone x1.2.2.1 x1.2.2.2.1 x1.2.2.2.2.1 x1.2.2.2.2.2.1 q_t_ways q_t_codes q_t_many, aI (G.2 1) q_t_side 36 x1.2.2.2.2.2.2.1, aI (G.2 1) q_t_endRow 12 x1.2.2.2.2.2.2.2.1, aI (G.2 1) q_t_endColumn 12 x1.2.2.2.2.2.2.2.2.1, aI (G.2 1) q_t_endSide 12 x1.2.2.2.2.2.2.2.2.2.1, aI (G.2 3) q_t_gone 36 x1.2.2.2.2.2.2.2.2.2.2.1, aI (G.2 1) q_t_ways 448 m_21_0, aJ (G.2 2) q_t_codes 429 x1.2.2.2.2.2.2.2.2.2.2.2.1, aI (G.2 1) q_t_many 429 x1.2.2.2.2.2.2.2.2.2.2.2.2] H → va_D A [oX6 q_t t_length q_t_text t_size q_t_sign t_otherSize q_t_other q_t_before t_undoMany t_readSize q_t_read q_t_side q_t_tall q_t_endRow q_t_endColumn q_t_endSide q_t_gone x1.2.2.1 x1.2.2.2.1 x1.2.2.2.2.1 x1.2.2.2.2.2.1 q_t_ways q_t_codes q_t_many, aI (G.2 1) q_t_side 36 x1.2.2.2.2.2.2.1, aI (G.2 1) q_t_endRow 12 x1.2.2.2.2.2.2.2.1, aI (G.2 1) q_t_endColumn 12 x1.2.2.2.2.2.2.2.2.1, aI (G.2 1) q_t_endSide 12 x1.2.2.2.2.2.2.2.2.2.1, aI (G.2 3) q_t_gone 36 x1.2.2.2.2.2.2.2.2.2.2.1, aI (G.2 1) q_t_ways 448 m_21_0, aJ (G.2 2) q_t_codes 429 x1.2.2.2.2.2.2.2.2.2.2.2.1, aI (G.2 1) q_t_many 429 x1.2.2.2.2.2.2.2.2.2.2.2.2] → va_S A s.heap H locs → lv_has ls 7 [(0, .ref q_t), (1, .int p1), (2, .int p2), (3, .int r_21), (4, .int x1.1), (5, .int x1.2.1)] → W p l e (headSpec wsX6_ways ({ frames := 5, cells := 0, slots := 0, locals := 130 })).room s m ([.ref q_t, .int p1, .int p2] : List Value).toArray below meth c H locs 0 0 Q (F0 m 31 ls [])) (fun x1 o_1 hE ih_1 hr_1 => ?_) _ _ hE _ _ ls hP hD hS (lv_sub hl [3, 4, 5, 2, 1, 0] rfl)
      obtain ⟨v4_1, v5_1, w_t_lineRow_1, w_t_lineColumn_1, w_t_lineSide_1, w_t_lineMany_1, w_t_side_1, w_t_endRow_1, w_t_endColumn_1, w_t_endSide_1, w_t_gone_1, w_t_codes_1, w_t_many_1⟩ := x1
      try dsimp only at hE
      intro H locs ls hP hD hS hl
      try dsimp only at hP hD hl ⊢
      refine lv_iload hx hb dX6_ways_31 (lv_at hl 5 rfl) ?_
      refine lv_iload_n hx hb dX6_ways_33 rfl (lv_at hl 3 rfl) ?_
      refine lv_icmp_ge (tgt := 141) hx hb dX6_ways_34 (by decide) (fun c_34 => ?_) (fun c_34 => ?_)
      · replace hE := (if_pos c_34).symm.trans hE
        refine lv_iload_n hx hb dX6_ways_141 rfl (lv_at hl 2 rfl) ?_
        refine lv_if_ge (tgt := 150) hx hb dX6_ways_142 (by decide) (fun c_142 => ?_) (fun c_142 => ?_)
        · replace hE := (if_pos c_142).symm.trans hE
          refine lv_iload_n hx hb dX6_ways_150 rfl (lv_at hl 2 rfl) ?_
          refine lv_iload hx hb dX6_ways_151 (lv_at hl 4 rfl) ?_
          refine lv_icmp_ge (tgt := 165) hx hb dX6_ways_153 (by decide) (fun c_153 => ?_) (fun c_153 => ?_)
          · replace hE := (if_pos c_153).symm.trans hE
            refine lv_bipush (v := -4) hx hb dX6_ways_165 (by decide) ?_
            have e_1 := Option.some.inj hE
            have e_0 := hr_1 _ e_1.symm
            subst e_0
            rw [hQ]
            exact W.iret (v := (-4 : Int32)) hx hb hr (fun t ht _ => ⟨⟨_, (), rfl, rfl, by rw [ht]; exact hP, hD⟩, hS.F ht⟩) hS.2.2 dX6_ways_167
          · replace hE := (if_neg c_153).symm.trans hE
            refine lv_aload_n hx hb dX6_ways_156 rfl (lv_at hl 0 rfl) ?_
            refine va_get (D := G.1) (ci := 6) (v := .ref q_t_many) (C := RX6) (T := TX6) (N := 23) hx hb hts iX6 hown hK hP 0 rfl rfl 22 (by decide) fl_51 (fun _ h9 => h9) rfl dX6_ways_157 ?_
            refine lv_iload_n hx hb dX6_ways_160 rfl (lv_at hl 2 rfl) ?_
            obtain ⟨hi_161, hE⟩ := ck_some hE
            refine va_iald hx hb hK hP 8 1 rfl rfl (inb_in hi_161) dX6_ways_161 ?_
            refine lv_goto (tgt := 167) hx hb dX6_ways_162 (by decide) ?_
            have e_1 := Option.some.inj hE
            have e_0 := hr_1 _ e_1.symm
            subst e_0
            rw [hQ]
            exact W.iret (v := w_t_many_1 p2.toNatClampNeg) hx hb hr (fun t ht _ => ⟨⟨_, (), rfl, rfl, by rw [ht]; exact hP, hD⟩, hS.F ht⟩) hS.2.2 dX6_ways_167
        · replace hE := (if_neg c_142).symm.trans hE
          refine lv_iload hx hb dX6_ways_145 (lv_at hl 4 rfl) ?_
          refine lv_goto (tgt := 167) hx hb dX6_ways_147 (by decide) ?_
          have e_1 := Option.some.inj hE
          have e_0 := hr_1 _ e_1.symm
          subst e_0
          rw [hQ]
          exact W.iret (v := v4_1) hx hb hr (fun t ht _ => ⟨⟨_, (), rfl, rfl, by rw [ht]; exact hP, hD⟩, hS.F ht⟩) hS.2.2 dX6_ways_167
      · replace hE := (if_neg c_34).symm.trans hE
        refine lv_aload_n hx hb dX6_ways_37 rfl (lv_at hl 0 rfl) ?_
        refine lv_iload_n hx hb dX6_ways_38 rfl (lv_at hl 1 rfl) ?_
        refine lv_iload hx hb dX6_ways_39 (lv_at hl 5 rfl) ?_
        refine lv_aload_n hx hb dX6_ways_41 rfl (lv_at hl 0 rfl) ?_
        refine va_get (D := G.1) (ci := 6) (v := .ref q_t_side) (C := RX6) (T := TX6) (N := 23) hx hb hts iX6 hown hK hP 0 rfl rfl 10 (by decide) fl_25 (fun _ h9 => h9) rfl dX6_ways_42 ?_
        obtain ⟨y45, hC_45, hE⟩ := Option.bind_eq_some_iff.mp hE
        obtain ⟨m_45_0, ex9⟩ : ∃ z, z = y45 := ⟨_, rfl⟩
        subst ex9
        try dsimp only at hE
        have hPc := hP.sub (ws' := [oX6 q_t t_length q_t_text t_size q_t_sign t_otherSize q_t_other q_t_before t_undoMany t_readSize q_t_read q_t_side q_t_tall q_t_endRow q_t_endColumn q_t_endSide q_t_gone w_t_lineRow_1 w_t_lineColumn_1 w_t_lineSide_1 w_t_lineMany_1 q_t_ways q_t_codes q_t_many, aI (G.2 1) q_t_ways 448 m_21_0, aI (G.2 1) q_t_side 36 w_t_side_1]) [0, 6, 1] rfl
        have hDc := hD.sub (ws' := [oX6 q_t t_length q_t_text t_size q_t_sign t_otherSize q_t_other q_t_before t_undoMany t_readSize q_t_read q_t_side q_t_tall q_t_endRow q_t_endColumn q_t_endSide q_t_gone w_t_lineRow_1 w_t_lineColumn_1 w_t_lineSide_1 w_t_lineMany_1 q_t_ways q_t_codes q_t_many, aI (G.2 1) q_t_ways 448 m_21_0, aI (G.2 1) q_t_side 36 w_t_side_1]) [0, 6, 1] (by decide) rfl
        have hFc := va_free (wc := [oX6 q_t t_length q_t_text t_size q_t_sign t_otherSize q_t_other q_t_before t_undoMany t_readSize q_t_read q_t_side q_t_tall q_t_endRow q_t_endColumn q_t_endSide q_t_gone w_t_lineRow_1 w_t_lineColumn_1 w_t_lineSide_1 w_t_lineMany_1 q_t_ways q_t_codes q_t_many, aI (G.2 1) q_t_ways 448 m_21_0, aI (G.2 1) q_t_side 36 w_t_side_1]) hD hS hA [0, 6, 1] rfl
        refine va_callv (va_runV (As := [.int p1, .int v5_1, .ref q_t_side]) (rest := []) ⟨hx, hb, hml, hown, hts⟩ (c_X6_unrank (l := l) (G := G) _ (p1 := p1) (p2 := v5_1) (q_t := q_t) (t_length := t_length) (q_t_text := q_t_text) (t_size := t_size) (q_t_sign := q_t_sign) (t_otherSize := t_otherSize) (q_t_other := q_t_other) (q_t_before := q_t_before) (t_undoMany := t_undoMany) (t_readSize := t_readSize) (q_t_read := q_t_read) (q_t_side := q_t_side) (q_t_tall := q_t_tall) (q_t_endRow := q_t_endRow) (q_t_endColumn := q_t_endColumn) (q_t_endSide := q_t_endSide) (q_t_gone := q_t_gone) (t_lineRow := w_t_lineRow_1) (t_lineColumn := w_t_lineColumn_1) (t_lineSide := w_t_lineSide_1) (t_lineMany := w_t_lineMany_1) (q_t_ways := q_t_ways) (q_t_codes := q_t_codes) (q_t_many := q_t_many) (t_ways := m_21_0) (q_p3 := q_t_side) (p3 := w_t_side_1) hC_45) (cwV 3 hts gX6_ways_X6_unrank rfl rfl rfl kd_X6_unrank ⟨Nat.le_of_ble_eq_true rfl, Nat.le_of_ble_eq_true rfl⟩) (iv_V hKW hPc hDc (ci := 6) (q0 := 0) rfl rfl) rfl rfl hl.1 rfl (lv_room (Nat.le_of_ble_eq_true rfl)) dX6_ways_45 ⟨Nat.zero_le _, Nat.zero_le _⟩) hS (fun q _ h => hFc q h) hFc (fun u9 t9 H1 locs ht9 hvm9 hw9 hB9 hz9 hk9 hS => ?_)
        obtain ⟨hP1, hD1⟩ := hB9
        rw [ht9] at hP1
        obtain ⟨hP, hD⟩ := va_join (wr := [aI (G.2 1) q_t_endRow 12 w_t_endRow_1, aI (G.2 1) q_t_endColumn 12 w_t_endColumn_1, aI (G.2 1) q_t_endSide 12 w_t_endSide_1, aI (G.2 3) q_t_gone 36 w_t_gone_1, aJ (G.2 2) q_t_codes 429 w_t_codes_1, aI (G.2 1) q_t_many 429 w_t_many_1]) (w1 := [oX6 q_t t_length q_t_text t_size q_t_sign t_otherSize q_t_other q_t_before t_undoMany t_readSize q_t_read q_t_side q_t_tall q_t_endRow q_t_endColumn q_t_endSide q_t_gone w_t_lineRow_1 w_t_lineColumn_1 w_t_lineSide_1 w_t_lineMany_1 q_t_ways q_t_codes q_t_many, aI (G.2 1) q_t_ways 448 m_21_0, aI (G.2 1) q_t_side 36 m_45_0]) hP hD [0, 6, 1] [2, 3, 4, 5, 7, 8] rfl rfl (by decide) (by decide) hk9 hFc hP1 hD1
        have hP := hP.sub (ws' := [oX6 q_t t_length q_t_text t_size q_t_sign t_otherSize q_t_other q_t_before t_undoMany t_readSize q_t_read q_t_side q_t_tall q_t_endRow q_t_endColumn q_t_endSide q_t_gone w_t_lineRow_1 w_t_lineColumn_1 w_t_lineSide_1 w_t_lineMany_1 q_t_ways q_t_codes q_t_many, aI (G.2 1) q_t_side 36 m_45_0, aI (G.2 1) q_t_endRow 12 w_t_endRow_1, aI (G.2 1) q_t_endColumn 12 w_t_endColumn_1, aI (G.2 1) q_t_endSide 12 w_t_endSide_1, aI (G.2 3) q_t_gone 36 w_t_gone_1, aI (G.2 1) q_t_ways 448 m_21_0, aJ (G.2 2) q_t_codes 429 w_t_codes_1, aI (G.2 1) q_t_many 429 w_t_many_1]) [6, 8, 0, 1, 2, 3, 7, 4, 5] rfl
        have hD := hD.sub (ws' := [oX6 q_t t_length q_t_text t_size q_t_sign t_otherSize q_t_other q_t_before t_undoMany t_readSize q_t_read q_t_side q_t_tall q_t_endRow q_t_endColumn q_t_endSide q_t_gone w_t_lineRow_1 w_t_lineColumn_1 w_t_lineSide_1 w_t_lineMany_1 q_t_ways q_t_codes q_t_many, aI (G.2 1) q_t_side 36 m_45_0, aI (G.2 1) q_t_endRow 12 w_t_endRow_1, aI (G.2 1) q_t_endColumn 12 w_t_endColumn_1, aI (G.2 1) q_t_endSide 12 w_t_endSide_1, aI (G.2 3) q_t_gone 36 w_t_gone_1, aI (G.2 1) q_t_ways 448 m_21_0, aJ (G.2 2) q_t_codes 429 w_t_codes_1, aI (G.2 1) q_t_many 429 w_t_many_1]) [6, 8, 0, 1, 2, 3, 7, 4, 5] (by decide) rfl
        clear hPc hDc hFc hP1 hD1 hk9 hz9 hvm9
        refine lv_aload_n hx hb dX6_ways_48 rfl (lv_at hl 0 rfl) ?_
        refine va_get (D := G.1) (ci := 6) (v := .ref q_t_codes) (C := RX6) (T := TX6) (N := 23) hx hb hts iX6 hown hK hP 0 rfl rfl 21 (by decide) fl_47 (fun _ h9 => h9) rfl dX6_ways_49 ?_
        refine lv_iload hx hb dX6_ways_52 (lv_at hl 4 rfl) ?_
        refine lv_aload_n hx hb dX6_ways_54 rfl (lv_at hl 0 rfl) ?_
        refine lv_aload_n hx hb dX6_ways_55 rfl (lv_at hl 0 rfl) ?_
        refine va_get (D := G.1) (ci := 6) (v := .ref q_t_side) (C := RX6) (T := TX6) (N := 23) hx hb hts iX6 hown hK hP 0 rfl rfl 10 (by decide) fl_25 (fun _ h9 => h9) rfl dX6_ways_56 ?_
        refine lv_iload_n hx hb dX6_ways_59 rfl (lv_at hl 1 rfl) ?_
        obtain ⟨y60, hC_60, hE⟩ := Option.bind_eq_some_iff.mp hE
        obtain ⟨r_60, m_60_0, m_60_1, m_60_2, m_60_3, m_60_4, m_60_5, m_60_6, m_60_7⟩ := y60
        try dsimp only at hE
        have hPc := hP.sub (ws' := [oX6 q_t t_length q_t_text t_size q_t_sign t_otherSize q_t_other q_t_before t_undoMany t_readSize q_t_read q_t_side q_t_tall q_t_endRow q_t_endColumn q_t_endSide q_t_gone w_t_lineRow_1 w_t_lineColumn_1 w_t_lineSide_1 w_t_lineMany_1 q_t_ways q_t_codes q_t_many, aI (G.2 1) q_t_endRow 12 w_t_endRow_1, aI (G.2 1) q_t_endColumn 12 w_t_endColumn_1, aI (G.2 1) q_t_endSide 12 w_t_endSide_1, aI (G.2 3) q_t_gone 36 w_t_gone_1, aI (G.2 1) q_t_side 36 m_45_0]) [0, 2, 3, 4, 5, 1] rfl
        have hDc := hD.sub (ws' := [oX6 q_t t_length q_t_text t_size q_t_sign t_otherSize q_t_other q_t_before t_undoMany t_readSize q_t_read q_t_side q_t_tall q_t_endRow q_t_endColumn q_t_endSide q_t_gone w_t_lineRow_1 w_t_lineColumn_1 w_t_lineSide_1 w_t_lineMany_1 q_t_ways q_t_codes q_t_many, aI (G.2 1) q_t_endRow 12 w_t_endRow_1, aI (G.2 1) q_t_endColumn 12 w_t_endColumn_1, aI (G.2 1) q_t_endSide 12 w_t_endSide_1, aI (G.2 3) q_t_gone 36 w_t_gone_1, aI (G.2 1) q_t_side 36 m_45_0]) [0, 2, 3, 4, 5, 1] (by decide) rfl
        have hFc := va_free (wc := [oX6 q_t t_length q_t_text t_size q_t_sign t_otherSize q_t_other q_t_before t_undoMany t_readSize q_t_read q_t_side q_t_tall q_t_endRow q_t_endColumn q_t_endSide q_t_gone w_t_lineRow_1 w_t_lineColumn_1 w_t_lineSide_1 w_t_lineMany_1 q_t_ways q_t_codes q_t_many, aI (G.2 1) q_t_endRow 12 w_t_endRow_1, aI (G.2 1) q_t_endColumn 12 w_t_endColumn_1, aI (G.2 1) q_t_endSide 12 w_t_endSide_1, aI (G.2 3) q_t_gone 36 w_t_gone_1, aI (G.2 1) q_t_side 36 m_45_0]) hD hS hA [0, 2, 3, 4, 5, 1] rfl
        refine va_calll (va_runV (As := [.ref q_t_side, .int p1]) (rest := [.int v4_1, .ref q_t_codes]) ⟨hx, hb, hml, hown, hts⟩ (c_X6_partners (l := l) (G := G) _ (p2 := p1) (q_t := q_t) (t_length := t_length) (q_t_text := q_t_text) (t_size := t_size) (q_t_sign := q_t_sign) (t_otherSize := t_otherSize) (q_t_other := q_t_other) (q_t_before := q_t_before) (t_undoMany := t_undoMany) (t_readSize := t_readSize) (q_t_read := q_t_read) (q_t_side := q_t_side) (q_t_tall := q_t_tall) (q_t_endRow := q_t_endRow) (q_t_endColumn := q_t_endColumn) (q_t_endSide := q_t_endSide) (q_t_gone := q_t_gone) (t_lineRow := w_t_lineRow_1) (t_lineColumn := w_t_lineColumn_1) (t_lineSide := w_t_lineSide_1) (t_lineMany := w_t_lineMany_1) (q_t_ways := q_t_ways) (q_t_codes := q_t_codes) (q_t_many := q_t_many) (t_endRow := w_t_endRow_1) (t_endColumn := w_t_endColumn_1) (t_endSide := w_t_endSide_1) (t_gone := w_t_gone_1) (q_p1 := q_t_side) (p1 := m_45_0) hC_60) (cwV 2 hts gX6_ways_X6_partners rfl rfl rfl kd_X6_partners ⟨Nat.le_of_ble_eq_true rfl, Nat.le_of_ble_eq_true rfl⟩) (iv_V hKW hPc hDc (ci := 6) (q0 := 0) rfl rfl) rfl rfl hl.1 rfl (lv_room (Nat.le_of_ble_eq_true rfl)) dX6_ways_60 ⟨Nat.zero_le _, Nat.zero_le _⟩) hS (fun q _ h => hFc q h) hFc (fun r9 u9 t9 H1 locs ht9 hvm9 hw9 hB9 hz9 hk9 hS => ?_)
        subst r9
        obtain ⟨hP1, hD1⟩ := hB9
        rw [ht9] at hP1
        obtain ⟨hP, hD⟩ := va_join (wr := [aI (G.2 1) q_t_ways 448 m_21_0, aJ (G.2 2) q_t_codes 429 w_t_codes_1, aI (G.2 1) q_t_many 429 w_t_many_1]) (w1 := [oX6 q_t t_length q_t_text t_size q_t_sign t_otherSize q_t_other q_t_before t_undoMany t_readSize q_t_read q_t_side q_t_tall q_t_endRow q_t_endColumn q_t_endSide q_t_gone m_60_0 m_60_1 m_60_2 m_60_3 q_t_ways q_t_codes q_t_many, aI (G.2 1) q_t_endRow 12 m_60_4, aI (G.2 1) q_t_endColumn 12 m_60_5, aI (G.2 1) q_t_endSide 12 m_60_6, aI (G.2 3) q_t_gone 36 m_60_7, aI (G.2 1) q_t_side 36 m_45_0]) hP hD [0, 2, 3, 4, 5, 1] [6, 7, 8] rfl rfl (by decide) (by decide) hk9 hFc hP1 hD1
        have hP := hP.sub (ws' := [oX6 q_t t_length q_t_text t_size q_t_sign t_otherSize q_t_other q_t_before t_undoMany t_readSize q_t_read q_t_side q_t_tall q_t_endRow q_t_endColumn q_t_endSide q_t_gone m_60_0 m_60_1 m_60_2 m_60_3 q_t_ways q_t_codes q_t_many, aI (G.2 1) q_t_side 36 m_45_0, aI (G.2 1) q_t_endRow 12 m_60_4, aI (G.2 1) q_t_endColumn 12 m_60_5, aI (G.2 1) q_t_endSide 12 m_60_6, aI (G.2 3) q_t_gone 36 m_60_7, aI (G.2 1) q_t_ways 448 m_21_0, aJ (G.2 2) q_t_codes 429 w_t_codes_1, aI (G.2 1) q_t_many 429 w_t_many_1]) [3, 8, 4, 5, 6, 7, 0, 1, 2] rfl
        have hD := hD.sub (ws' := [oX6 q_t t_length q_t_text t_size q_t_sign t_otherSize q_t_other q_t_before t_undoMany t_readSize q_t_read q_t_side q_t_tall q_t_endRow q_t_endColumn q_t_endSide q_t_gone m_60_0 m_60_1 m_60_2 m_60_3 q_t_ways q_t_codes q_t_many, aI (G.2 1) q_t_side 36 m_45_0, aI (G.2 1) q_t_endRow 12 m_60_4, aI (G.2 1) q_t_endColumn 12 m_60_5, aI (G.2 1) q_t_endSide 12 m_60_6, aI (G.2 3) q_t_gone 36 m_60_7, aI (G.2 1) q_t_ways 448 m_21_0, aJ (G.2 2) q_t_codes 429 w_t_codes_1, aI (G.2 1) q_t_many 429 w_t_many_1]) [3, 8, 4, 5, 6, 7, 0, 1, 2] (by decide) rfl
        clear hPc hDc hFc hP1 hD1 hk9 hz9 hvm9
        obtain ⟨hi_63, hE⟩ := ck_some hE
        refine va_last hx hb hK hP hD hS 7 2 rfl rfl (inb_in hi_63) dX6_ways_63 (fun H locs hP hD hS => ?_)
        have hP : va_P G.1 vwCl [oX6 q_t t_length q_t_text t_size q_t_sign t_otherSize q_t_other q_t_before t_undoMany t_readSize q_t_read q_t_side q_t_tall q_t_endRow q_t_endColumn q_t_endSide q_t_gone m_60_0 m_60_1 m_60_2 m_60_3 q_t_ways q_t_codes q_t_many, aI (G.2 1) q_t_side 36 m_45_0, aI (G.2 1) q_t_endRow 12 m_60_4, aI (G.2 1) q_t_endColumn 12 m_60_5, aI (G.2 1) q_t_endSide 12 m_60_6, aI (G.2 3) q_t_gone 36 m_60_7, aI (G.2 1) q_t_ways 448 m_21_0, aJ (G.2 2) q_t_codes 429 (vp_updL w_t_codes_1 v4_1.toNatClampNeg r_60), aI (G.2 1) q_t_many 429 w_t_many_1] H := hP
        have hD : va_D A [oX6 q_t t_length q_t_text t_size q_t_sign t_otherSize q_t_other q_t_before t_undoMany t_readSize q_t_read q_t_side q_t_tall q_t_endRow q_t_endColumn q_t_endSide q_t_gone m_60_0 m_60_1 m_60_2 m_60_3 q_t_ways q_t_codes q_t_many, aI (G.2 1) q_t_side 36 m_45_0, aI (G.2 1) q_t_endRow 12 m_60_4, aI (G.2 1) q_t_endColumn 12 m_60_5, aI (G.2 1) q_t_endSide 12 m_60_6, aI (G.2 3) q_t_gone 36 m_60_7, aI (G.2 1) q_t_ways 448 m_21_0, aJ (G.2 2) q_t_codes 429 (vp_updL w_t_codes_1 v4_1.toNatClampNeg r_60), aI (G.2 1) q_t_many 429 w_t_many_1] := hD
        refine lv_iconst (v := 0) hx hb dX6_ways_64 (by decide) ?_
        refine lv_istore (lv' := [(6, .int (0 : Int32)), (0, .ref q_t), (1, .int p1), (2, .int p2), (3, .int r_21), (4, .int v4_1), (5, .int v5_1)]) hx hb dX6_ways_65 hl (by decide) rfl (fun ls hl => ?_)
        refine itr_ind (fun (x2 : Int32) => ∀ (H : Heap) (locs : List Loc) (ls : Array Slot), va_P G.1 vwCl [oX6 q_t t_length q_t_text t_size q_t_sign t_otherSize q_t_other q_t_before t_undoMany t_readSize q_t_read q_t_side q_t_tall q_t_endRow q_t_endColumn q_t_endSide q_t_gone m_60_0 m_60_1 m_60_2 m_60_3 q_t_ways q_t_codes q_t_many, aI (G.2 1) q_t_side 36 m_45_0, aI (G.2 1) q_t_endRow 12 m_60_4, aI (G.2 1) q_t_endColumn 12 m_60_5, aI (G.2 1) q_t_endSide 12 m_60_6, aI (G.2 3) q_t_gone 36 m_60_7, aI (G.2 1) q_t_ways 448 m_21_0, aJ (G.2 2) q_t_codes 429 (vp_updL w_t_codes_1 v4_1.toNatClampNeg r_60), aI (G.2 1) q_t_many 429 w_t_many_1] H → va_D A [oX6 q_t t_length q_t_text t_size q_t_sign t_otherSize q_t_other q_t_before t_undoMany t_readSize q_t_read q_t_side q_t_tall q_t_endRow q_t_endColumn q_t_endSide q_t_gone m_60_0 m_60_1 m_60_2 m_60_3 q_t_ways q_t_codes q_t_many, aI (G.2 1) q_t_side 36 m_45_0, aI (G.2 1) q_t_endRow 12 m_60_4, aI (G.2 1) q_t_endColumn 12 m_60_5, aI (G.2 1) q_t_endSide 12 m_60_6, aI (G.2 3) q_t_gone 36 m_60_7, aI (G.2 1) q_t_ways 448 m_21_0, aJ (G.2 2) q_t_codes 429 (vp_updL w_t_codes_1 v4_1.toNatClampNeg r_60), aI (G.2 1) q_t_many 429 w_t_many_1] → va_S A s.heap H locs → lv_has ls 7 [(0, .ref q_t), (1, .int p1), (2, .int p2), (3, .int r_21), (4, .int v4_1), (5, .int v5_1), (6, .int x2)] → W p l e (headSpec wsX6_ways ({ frames := 5, cells := 0, slots := 0, locals := 130 })).room s m ([.ref q_t, .int p1, .int p2] : List Value).toArray below meth c H locs 0 0 Q (F0 m 67 ls [])) (fun x2 o_2 hE ih_2 hr_2 => ?_) _ _ hE _ _ ls hP hD hS (lv_sub hl [1, 2, 3, 4, 5, 6, 0] rfl)
        obtain ⟨v6_2, ex9⟩ : ∃ z, z = x2 := ⟨_, rfl⟩
        subst ex9
        try dsimp only at hE
        intro H locs ls hP hD hS hl
        try dsimp only at hP hD hl ⊢
        refine lv_aload_n hx hb dX6_ways_67 rfl (lv_at hl 0 rfl) ?_
        refine va_get (D := G.1) (ci := 6) (v := .ref q_t_codes) (C := RX6) (T := TX6) (N := 23) hx hb hts iX6 hown hK hP 0 rfl rfl 21 (by decide) fl_47 (fun _ h9 => h9) rfl dX6_ways_68 ?_
        refine lv_iload hx hb dX6_ways_71 (lv_at hl 6 rfl) ?_
        obtain ⟨hi_73, hE⟩ := ck_some hE
        refine va_lald hx hb hK hP 7 2 rfl rfl (inb_in hi_73) dX6_ways_73 ?_
        refine lv_aload_n hx hb dX6_ways_74 rfl (lv_at hl 0 rfl) ?_
        refine va_get (D := G.1) (ci := 6) (v := .ref q_t_codes) (C := RX6) (T := TX6) (N := 23) hx hb hts iX6 hown hK hP 0 rfl rfl 21 (by decide) fl_47 (fun _ h9 => h9) rfl dX6_ways_75 ?_
        refine lv_iload hx hb dX6_ways_78 (lv_at hl 4 rfl) ?_
        obtain ⟨hi_80, hE⟩ := ck_some hE
        refine va_lald hx hb hK hP 7 2 rfl rfl (inb_in hi_80) dX6_ways_80 ?_
        refine W.lcmp hx hb dX6_ways_81 ?_
        refine lv_if_eq (tgt := 91) hx hb dX6_ways_82 (by decide) (fun c_82 => ?_) (fun c_82 => ?_)
        · replace hE := (if_pos c_82).symm.trans hE
          refine lv_aload_n hx hb dX6_ways_91 rfl (lv_at hl 0 rfl) ?_
          refine va_get (D := G.1) (ci := 6) (v := .ref q_t_many) (C := RX6) (T := TX6) (N := 23) hx hb hts iX6 hown hK hP 0 rfl rfl 22 (by decide) fl_51 (fun _ h9 => h9) rfl dX6_ways_92 ?_
          refine lv_iload hx hb dX6_ways_95 (lv_at hl 6 rfl) ?_
          refine lv_iload hx hb dX6_ways_97 (lv_at hl 6 rfl) ?_
          refine lv_iload hx hb dX6_ways_99 (lv_at hl 4 rfl) ?_
          obtain ⟨o_3, hEp, hk9, hr_3⟩ := jn_some hE
          have ih_3 : ∀ (x3 : Int32), o_3 = .inl x3 → ∀ (H : Heap) (locs : List Loc) (ls : Array Slot), va_P G.1 vwCl [oX6 q_t t_length q_t_text t_size q_t_sign t_otherSize q_t_other q_t_before t_undoMany t_readSize q_t_read q_t_side q_t_tall q_t_endRow q_t_endColumn q_t_endSide q_t_gone m_60_0 m_60_1 m_60_2 m_60_3 q_t_ways q_t_codes q_t_many, aI (G.2 1) q_t_side 36 m_45_0, aI (G.2 1) q_t_endRow 12 m_60_4, aI (G.2 1) q_t_endColumn 12 m_60_5, aI (G.2 1) q_t_endSide 12 m_60_6, aI (G.2 3) q_t_gone 36 m_60_7, aI (G.2 1) q_t_ways 448 m_21_0, aJ (G.2 2) q_t_codes 429 (vp_updL w_t_codes_1 v4_1.toNatClampNeg r_60), aI (G.2 1) q_t_many 429 w_t_many_1] H → va_D A [oX6 q_t t_length q_t_text t_size q_t_sign t_otherSize q_t_other q_t_before t_undoMany t_readSize q_t_read q_t_side q_t_tall q_t_endRow q_t_endColumn q_t_endSide q_t_gone m_60_0 m_60_1 m_60_2 m_60_3 q_t_ways q_t_codes q_t_many, aI (G.2 1) q_t_side 36 m_45_0, aI (G.2 1) q_t_endRow 12 m_60_4, aI (G.2 1) q_t_endColumn 12 m_60_5, aI (G.2 1) q_t_endSide 12 m_60_6, aI (G.2 3) q_t_gone 36 m_60_7, aI (G.2 1) q_t_ways 448 m_21_0, aJ (G.2 2) q_t_codes 429 (vp_updL w_t_codes_1 v4_1.toNatClampNeg r_60), aI (G.2 1) q_t_many 429 w_t_many_1] → va_S A s.heap H locs → lv_has ls 7 [(0, .ref q_t), (1, .int p1), (2, .int p2), (3, .int r_21), (4, .int v4_1), (5, .int v5_1), (6, .int v6_2)] → W p l e (headSpec wsX6_ways ({ frames := 5, cells := 0, slots := 0, locals := 130 })).room s m ([.ref q_t, .int p1, .int p2] : List Value).toArray below meth c H locs 0 0 Q (F0 m 117 ls [.int x3, .int v6_2, .ref q_t_many]) := by
            intro x3 ho9
            have hE := hk9 _ ho9
            obtain ⟨k2_3, ex9⟩ : ∃ z, z = x3 := ⟨_, rfl⟩
            subst ex9
            try dsimp only at hE
            intro H locs ls hP hD hS hl
            try dsimp only at hP hD hl ⊢
            obtain ⟨hi_117, hE⟩ := ck_some hE
            refine va_iast hx hb hK hP hD hS 8 1 rfl rfl (inb_in hi_117) dX6_ways_117 (fun H locs hP hD hS => ?_)
            have hP : va_P G.1 vwCl [oX6 q_t t_length q_t_text t_size q_t_sign t_otherSize q_t_other q_t_before t_undoMany t_readSize q_t_read q_t_side q_t_tall q_t_endRow q_t_endColumn q_t_endSide q_t_gone m_60_0 m_60_1 m_60_2 m_60_3 q_t_ways q_t_codes q_t_many, aI (G.2 1) q_t_side 36 m_45_0, aI (G.2 1) q_t_endRow 12 m_60_4, aI (G.2 1) q_t_endColumn 12 m_60_5, aI (G.2 1) q_t_endSide 12 m_60_6, aI (G.2 3) q_t_gone 36 m_60_7, aI (G.2 1) q_t_ways 448 m_21_0, aJ (G.2 2) q_t_codes 429 (vp_updL w_t_codes_1 v4_1.toNatClampNeg r_60), aI (G.2 1) q_t_many 429 (upd w_t_many_1 v6_2.toNatClampNeg k2_3)] H := hP
            have hD : va_D A [oX6 q_t t_length q_t_text t_size q_t_sign t_otherSize q_t_other q_t_before t_undoMany t_readSize q_t_read q_t_side q_t_tall q_t_endRow q_t_endColumn q_t_endSide q_t_gone m_60_0 m_60_1 m_60_2 m_60_3 q_t_ways q_t_codes q_t_many, aI (G.2 1) q_t_side 36 m_45_0, aI (G.2 1) q_t_endRow 12 m_60_4, aI (G.2 1) q_t_endColumn 12 m_60_5, aI (G.2 1) q_t_endSide 12 m_60_6, aI (G.2 3) q_t_gone 36 m_60_7, aI (G.2 1) q_t_ways 448 m_21_0, aJ (G.2 2) q_t_codes 429 (vp_updL w_t_codes_1 v4_1.toNatClampNeg r_60), aI (G.2 1) q_t_many 429 (upd w_t_many_1 v6_2.toNatClampNeg k2_3)] := hD
            refine lv_iload hx hb dX6_ways_118 (lv_at hl 4 rfl) ?_
            refine lv_iload hx hb dX6_ways_120 (lv_at hl 6 rfl) ?_
            refine lv_iload hx hb dX6_ways_122 (lv_at hl 4 rfl) ?_
            refine lv_icmp_ne (tgt := 131) hx hb dX6_ways_124 (by decide) (fun c_124 => ?_) (fun c_124 => ?_)
            · replace hE := (if_neg c_124).symm.trans hE
              refine lv_iconst (v := 0) hx hb dX6_ways_131 (by decide) ?_
              refine lv_iadd hx hb dX6_ways_132 ?_
              refine lv_istore (lv' := [(4, .int (v4_1 + (0 : Int32))), (0, .ref q_t), (1, .int p1), (2, .int p2), (3, .int r_21), (5, .int v5_1), (6, .int v6_2)]) hx hb dX6_ways_133 hl (by decide) rfl (fun ls hl => ?_)
              refine lv_iinc (v := v5_1 + (1 : Int32)) (lv' := [(5, .int (v5_1 + (1 : Int32))), (4, .int (v4_1 + (0 : Int32))), (0, .ref q_t), (1, .int p1), (2, .int p2), (3, .int r_21), (6, .int v6_2)]) hx hb dX6_ways_135 hl (k := 5) rfl rfl (by decide) rfl (fun ls hl => ?_)
              refine lv_goto (tgt := 31) hx hb dX6_ways_138 (by decide) ?_
              have e_2 := Option.some.inj hE
              have e_1 := hr_2 _ e_2.symm
              exact ih_1 _ e_1.symm _ _ ls hP hD hS (lv_sub hl [2, 3, 4, 5, 1, 0] rfl)
            · replace hE := (if_pos c_124).symm.trans hE
              refine lv_iconst (v := 1) hx hb dX6_ways_127 (by decide) ?_
              refine lv_goto (tgt := 132) hx hb dX6_ways_128 (by decide) ?_
              refine lv_iadd hx hb dX6_ways_132 ?_
              refine lv_istore (lv' := [(4, .int (v4_1 + (1 : Int32))), (0, .ref q_t), (1, .int p1), (2, .int p2), (3, .int r_21), (5, .int v5_1), (6, .int v6_2)]) hx hb dX6_ways_133 hl (by decide) rfl (fun ls hl => ?_)
              refine lv_iinc (v := v5_1 + (1 : Int32)) (lv' := [(5, .int (v5_1 + (1 : Int32))), (4, .int (v4_1 + (1 : Int32))), (0, .ref q_t), (1, .int p1), (2, .int p2), (3, .int r_21), (6, .int v6_2)]) hx hb dX6_ways_135 hl (k := 5) rfl rfl (by decide) rfl (fun ls hl => ?_)
              refine lv_goto (tgt := 31) hx hb dX6_ways_138 (by decide) ?_
              have e_2 := Option.some.inj hE
              have e_1 := hr_2 _ e_2.symm
              exact ih_1 _ e_1.symm _ _ ls hP hD hS (lv_sub hl [2, 3, 4, 5, 1, 0] rfl)
          clear hE hk9
          have hE := hEp
          clear hEp
          refine lv_icmp_ne (tgt := 108) hx hb dX6_ways_101 (by decide) (fun c_101 => ?_) (fun c_101 => ?_)
          · replace hE := (if_neg c_101).symm.trans hE
            refine lv_aload_n hx hb dX6_ways_108 rfl (lv_at hl 0 rfl) ?_
            refine va_get (D := G.1) (ci := 6) (v := .ref q_t_many) (C := RX6) (T := TX6) (N := 23) hx hb hts iX6 hown hK hP 0 rfl rfl 22 (by decide) fl_51 (fun _ h9 => h9) rfl dX6_ways_109 ?_
            refine lv_iload hx hb dX6_ways_112 (lv_at hl 6 rfl) ?_
            obtain ⟨hi_114, hE⟩ := ck_some hE
            refine va_iald hx hb hK hP 8 1 rfl rfl (inb_in hi_114) dX6_ways_114 ?_
            refine lv_iconst (v := 1) hx hb dX6_ways_115 (by decide) ?_
            refine lv_iadd hx hb dX6_ways_116 ?_
            have e_3 := Option.some.inj hE
            exact ih_3 _ e_3.symm _ _ ls hP hD hS (lv_sub hl [0, 1, 2, 3, 4, 5, 6] rfl)
          · replace hE := (if_pos c_101).symm.trans hE
            refine lv_iconst (v := 1) hx hb dX6_ways_104 (by decide) ?_
            refine lv_goto (tgt := 117) hx hb dX6_ways_105 (by decide) ?_
            have e_3 := Option.some.inj hE
            exact ih_3 _ e_3.symm _ _ ls hP hD hS (lv_sub hl [0, 1, 2, 3, 4, 5, 6] rfl)
        · replace hE := (if_neg c_82).symm.trans hE
          refine lv_iinc (v := v6_2 + (1 : Int32)) (lv' := [(6, .int (v6_2 + (1 : Int32))), (0, .ref q_t), (1, .int p1), (2, .int p2), (3, .int r_21), (4, .int v4_1), (5, .int v5_1)]) hx hb dX6_ways_85 hl (k := 6) rfl rfl (by decide) rfl (fun ls hl => ?_)
          refine lv_goto (tgt := 67) hx hb dX6_ways_88 (by decide) ?_
          have e_2 := Option.some.inj hE
          exact ih_2 _ e_2.symm _ _ ls hP hD hS (lv_sub hl [1, 2, 3, 4, 5, 6, 0] rfl)
    · replace hE := (if_neg c_14).symm.trans hE
      refine lv_iconst (v := -1) hx hb dX6_ways_17 (by decide) ?_
      have e_0 := Option.some.inj hE
      subst e_0
      rw [hQ]
      exact W.iret (v := (-1 : Int32)) hx hb hr (fun t ht _ => ⟨⟨_, (), rfl, rfl, by rw [ht]; exact hP, hD⟩, hS.F ht⟩) hS.2.2 dX6_ways_18
def S_X6_inversions (t_size : Int32) (t_sign : Nat → Int32) : Option Int32 := itr (fun (x1 : Int32 × Int32) => if (t_size * t_size) ≤ x1.2 then some (.inr x1.1) else itr (fun (x2 : Int32 × Int32) => if (t_size * t_size) ≤ x2.2 then some (.inr (.inl (x2.1, x1.2 + (1 : Int32)))) else ck (!(t_size == 0)) (ck (!(t_size == 0)) (jn (if (x2.2 / t_size) ≤ (x1.2 / t_size) then some (.inl (0 : Int32)) else ck (!(t_size == 0)) (ck (!(t_size == 0)) (if (x1.2 - x1.2 / t_size * t_size) ≤ (x2.2 - x2.2 / t_size * t_size) then some (.inl (0 : Int32)) else some (.inl (1 : Int32))))) (fun (x3 : Int32) => if x3 = 0 then some (.inl (x2.1 + (0 : Int32), x2.2 + (1 : Int32))) else ck (!(t_size == 0)) (ck (!(t_size == 0)) (ck (inb (((6 : Int32) * (x1.2 / t_size)) + (x1.2 - x1.2 / t_size * t_size)) 36) (ck (!(t_size == 0)) (ck (!(t_size == 0)) (ck (inb (((6 : Int32) * (x2.2 / t_size)) + (x2.2 - x2.2 / t_size * t_size)) 36) ((some (x2.1 + ((t_sign (((6 : Int32) * (x1.2 / t_size)) + (x1.2 - x1.2 / t_size * t_size)).toNatClampNeg) * (t_sign (((6 : Int32) * (x2.2 / t_size)) + (x2.2 - x2.2 / t_size * t_size)).toNatClampNeg)))).bind (fun (z_123 : Int32) => some (.inl (z_123, x2.2 + (1 : Int32)))))))))))))) 10000 (x1.1, (0 : Int32))) 10000 ((0 : Int32), (0 : Int32))
theorem kd_X6_inversions : yX6_inversions.cls = RX6 ∧ yX6_inversions.cls ≠ "java/lang/invoke/MethodHandle" ∧ yX6_inversions.cls ≠ "java/lang/invoke/VarHandle" ∧ (parseMethodDescriptor yX6_inversions.desc).map (fun d => d.parameters.length) = some 0 := by decide +kernel
set_option maxHeartbeats 4000000 in
set_option maxRecDepth 100000 in
theorem c_X6_inversions {l : Launch} {G : kG} {q_t : Nat} {t_length : Int32} {q_t_text : Nat} {t_size : Int32} {q_t_sign : Nat} {t_otherSize : Int32} {q_t_other : Nat} {q_t_before : Nat} {t_undoMany : Int32} {t_readSize : Int32} {q_t_read : Nat} {q_t_side : Nat} {q_t_tall : Nat} {q_t_endRow : Nat} {q_t_endColumn : Nat} {q_t_endSide : Nat} {q_t_gone : Nat} {t_lineRow : Int32} {t_lineColumn : Int32} {t_lineSide : Int32} {t_lineMany : Int32} {q_t_ways : Nat} {q_t_codes : Nat} {q_t_many : Nat} {t_sign : Nat → Int32} {res : Int32} (hE : S_X6_inversions t_size t_sign = some res) : Met l yX6_inversions wsX6_inversions ({ frames := 0, cells := 0, slots := 0, locals := 0 }) (va_Pc [.ref q_t] (fun U => va_P G.1 vwCl [oX6 q_t t_length q_t_text t_size q_t_sign t_otherSize q_t_other q_t_before t_undoMany t_readSize q_t_read q_t_side q_t_tall q_t_endRow q_t_endColumn q_t_endSide q_t_gone t_lineRow t_lineColumn t_lineSide t_lineMany q_t_ways q_t_codes q_t_many, aI (G.2 1) q_t_sign 36 t_sign] U.heap ∧ kw G U)) (vp_Si (fun r => r = res)) 0 0 (fun _ => False) := by
  refine Met.ofQ (cc := cX6_inversions) (maxL := 5) (ret := (some .int)) (by decide) rfl ?_
  intro p e s m args below meth c s₁ Q hQ B hml hv
  obtain ⟨rfl, hP, hKW⟩ := hv
  have hK := hKW.1
  have hx := B.exec
  have hb := B.bytes
  have hr := B.returns
  have hts := atoms_spec (ws := wsX6_inversions) B.pre
  have hown : s.vm.findClass RX6 = some m.cls := findClass_of_methodNamed B.named
  have hlocks := B.notSynchronized
  have iX6 : ∀ w ∈ u_ws RX6 TX6 23, w ∈ wsX6_inversions := by decide +kernel
  have fl_54 := hts (.fieldLink RX6 54 "AlternateSignsModel" "size" "I") (by decide +kernel)
  have fl_13 := hts (.fieldLink RX6 13 "AlternateSignsModel" "sign" "[I") (by decide +kernel)
  have hl := lv_entry ([.ref q_t]) (n := 5) (Nat.le_of_ble_eq_true rfl)
  rw [lg_entry_eq]
  generalize (lg_sl ([.ref q_t]) ++ List.replicate (5 - (lg_sl ([.ref q_t])).length) Slot.unset).toArray = ls at hl ⊢
  have hl : lv_has ls 5 [(0, .ref q_t)] := hl
  unfold S_X6_inversions at hE
  refine lv_iconst (v := 0) hx hb dX6_inversions_0 (by decide) ?_
  refine lv_istore_n (lv' := [(1, .int (0 : Int32)), (0, .ref q_t)]) hx hb dX6_inversions_1 rfl hl (by decide) rfl (fun ls hl => ?_)
  refine lv_iconst (v := 0) hx hb dX6_inversions_2 (by decide) ?_
  refine lv_istore_n (lv' := [(2, .int (0 : Int32)), (1, .int (0 : Int32)), (0, .ref q_t)]) hx hb dX6_inversions_3 rfl hl (by decide) rfl (fun ls hl => ?_)
  refine itr_ind (fun (x1 : Int32 × Int32) => ∀ (ls : Array Slot), lv_has ls 5 [(0, .ref q_t), (1, .int x1.1), (2, .int x1.2)] → W p l e (headSpec wsX6_inversions ({ frames := 0, cells := 0, slots := 0, locals := 0 })).room s m ([.ref q_t] : List Value).toArray below meth c s.heap [] 0 0 Q (F0 m 4 ls [])) (fun x1 o_1 hE ih_1 hr_1 => ?_) _ _ hE ls (lv_sub hl [2, 1, 0] rfl)
  obtain ⟨v1_1, v2_1⟩ := x1
  try dsimp only at hE
  intro ls hl
  try dsimp only at hl ⊢
  refine lv_iload_n hx hb dX6_inversions_4 rfl (lv_at hl 2 rfl) ?_
  refine lv_aload_n hx hb dX6_inversions_5 rfl (lv_at hl 0 rfl) ?_
  refine va_get (D := G.1) (ci := 6) (v := .int t_size) (C := RX6) (T := TX6) (N := 23) hx hb hts iX6 hown hK hP 0 rfl rfl 2 (by decide) fl_54 (fun _ h9 => h9) rfl dX6_inversions_6 ?_
  refine lv_aload_n hx hb dX6_inversions_9 rfl (lv_at hl 0 rfl) ?_
  refine va_get (D := G.1) (ci := 6) (v := .int t_size) (C := RX6) (T := TX6) (N := 23) hx hb hts iX6 hown hK hP 0 rfl rfl 2 (by decide) fl_54 (fun _ h9 => h9) rfl dX6_inversions_10 ?_
  refine lv_imul hx hb dX6_inversions_13 ?_
  refine lv_icmp_ge (tgt := 136) hx hb dX6_inversions_14 (by decide) (fun c_14 => ?_) (fun c_14 => ?_)
  · replace hE := (if_pos c_14).symm.trans hE
    refine lv_iload_n hx hb dX6_inversions_136 rfl (lv_at hl 1 rfl) ?_
    have e_1 := Option.some.inj hE
    have e_0 := hr_1 _ e_1.symm
    rw [hQ]
    exact W.iret (v := v1_1) hx hb hr (fun t ht _ => ⟨_, rfl, e_0, ht⟩) (fun q h => by cases h) dX6_inversions_137
  · replace hE := (if_neg c_14).symm.trans hE
    refine lv_iconst (v := 0) hx hb dX6_inversions_17 (by decide) ?_
    refine lv_istore_n (lv' := [(3, .int (0 : Int32)), (0, .ref q_t), (1, .int v1_1), (2, .int v2_1)]) hx hb dX6_inversions_18 rfl hl (by decide) rfl (fun ls hl => ?_)
    refine itr_ind (fun (x2 : Int32 × Int32) => ∀ (ls : Array Slot), lv_has ls 5 [(0, .ref q_t), (1, .int x2.1), (2, .int v2_1), (3, .int x2.2)] → W p l e (headSpec wsX6_inversions ({ frames := 0, cells := 0, slots := 0, locals := 0 })).room s m ([.ref q_t] : List Value).toArray below meth c s.heap [] 0 0 Q (F0 m 19 ls [])) (fun x2 o_2 hE ih_2 hr_2 => ?_) _ _ hE ls (lv_sub hl [1, 2, 3, 0] rfl)
    obtain ⟨v1_2, v3_2⟩ := x2
    try dsimp only at hE
    intro ls hl
    try dsimp only at hl ⊢
    refine lv_iload_n hx hb dX6_inversions_19 rfl (lv_at hl 3 rfl) ?_
    refine lv_aload_n hx hb dX6_inversions_20 rfl (lv_at hl 0 rfl) ?_
    refine va_get (D := G.1) (ci := 6) (v := .int t_size) (C := RX6) (T := TX6) (N := 23) hx hb hts iX6 hown hK hP 0 rfl rfl 2 (by decide) fl_54 (fun _ h9 => h9) rfl dX6_inversions_21 ?_
    refine lv_aload_n hx hb dX6_inversions_24 rfl (lv_at hl 0 rfl) ?_
    refine va_get (D := G.1) (ci := 6) (v := .int t_size) (C := RX6) (T := TX6) (N := 23) hx hb hts iX6 hown hK hP 0 rfl rfl 2 (by decide) fl_54 (fun _ h9 => h9) rfl dX6_inversions_25 ?_
    refine lv_imul hx hb dX6_inversions_28 ?_
    refine lv_icmp_ge (tgt := 130) hx hb dX6_inversions_29 (by decide) (fun c_29 => ?_) (fun c_29 => ?_)
    · replace hE := (if_pos c_29).symm.trans hE
      refine lv_iinc (v := v2_1 + (1 : Int32)) (lv' := [(2, .int (v2_1 + (1 : Int32))), (0, .ref q_t), (1, .int v1_2), (3, .int v3_2)]) hx hb dX6_inversions_130 hl (k := 2) rfl rfl (by decide) rfl (fun ls hl => ?_)
      refine lv_goto (tgt := 4) hx hb dX6_inversions_133 (by decide) ?_
      have e_2 := Option.some.inj hE
      have e_1 := hr_2 _ e_2.symm
      exact ih_1 _ e_1.symm ls (lv_sub hl [1, 2, 0] rfl)
    · replace hE := (if_neg c_29).symm.trans hE
      refine lv_iload_n hx hb dX6_inversions_32 rfl (lv_at hl 2 rfl) ?_
      refine lv_aload_n hx hb dX6_inversions_33 rfl (lv_at hl 0 rfl) ?_
      refine va_get (D := G.1) (ci := 6) (v := .int t_size) (C := RX6) (T := TX6) (N := 23) hx hb hts iX6 hown hK hP 0 rfl rfl 2 (by decide) fl_54 (fun _ h9 => h9) rfl dX6_inversions_34 ?_
      obtain ⟨hz_37, hE⟩ := ck_some hE
      refine lv_idiv hx hb dX6_inversions_37 (ck_ne hz_37) ?_
      refine lv_iload_n hx hb dX6_inversions_38 rfl (lv_at hl 3 rfl) ?_
      refine lv_aload_n hx hb dX6_inversions_39 rfl (lv_at hl 0 rfl) ?_
      refine va_get (D := G.1) (ci := 6) (v := .int t_size) (C := RX6) (T := TX6) (N := 23) hx hb hts iX6 hown hK hP 0 rfl rfl 2 (by decide) fl_54 (fun _ h9 => h9) rfl dX6_inversions_40 ?_
      obtain ⟨hz_43, hE⟩ := ck_some hE
      refine lv_idiv hx hb dX6_inversions_43 (ck_ne hz_43) ?_
      obtain ⟨o_3, hEp, hk9, hr_3⟩ := jn_some hE
      have ih_3 : ∀ (x3 : Int32), o_3 = .inl x3 → ∀ (ls : Array Slot), lv_has ls 5 [(0, .ref q_t), (1, .int v1_2), (2, .int v2_1), (3, .int v3_2)] → W p l e (headSpec wsX6_inversions ({ frames := 0, cells := 0, slots := 0, locals := 0 })).room s m ([.ref q_t] : List Value).toArray below meth c s.heap [] 0 0 Q (F0 m 67 ls [.int x3]) := by
        intro x3 ho9
        have hE := hk9 _ ho9
        obtain ⟨k0_3, ex9⟩ : ∃ z, z = x3 := ⟨_, rfl⟩
        subst ex9
        try dsimp only at hE
        intro ls hl
        try dsimp only at hl ⊢
        refine lv_istore (lv' := [(4, .int k0_3), (0, .ref q_t), (1, .int v1_2), (2, .int v2_1), (3, .int v3_2)]) hx hb dX6_inversions_67 hl (by decide) rfl (fun ls hl => ?_)
        refine lv_iload_n hx hb dX6_inversions_69 rfl (lv_at hl 2 rfl) ?_
        refine lv_iload hx hb dX6_inversions_70 (lv_at hl 0 rfl) ?_
        refine lv_if_eq (tgt := 121) hx hb dX6_inversions_72 (by decide) (fun c_72 => ?_) (fun c_72 => ?_)
        · replace hE := (if_pos c_72).symm.trans hE
          refine lv_iconst (v := 0) hx hb dX6_inversions_121 (by decide) ?_
          refine lv_iadd hx hb dX6_inversions_122 ?_
          refine lv_istore_n (lv' := [(1, .int (v1_2 + (0 : Int32))), (4, .int k0_3), (0, .ref q_t), (2, .int v2_1), (3, .int v3_2)]) hx hb dX6_inversions_123 rfl hl (by decide) rfl (fun ls hl => ?_)
          refine lv_iinc (v := v3_2 + (1 : Int32)) (lv' := [(3, .int (v3_2 + (1 : Int32))), (1, .int (v1_2 + (0 : Int32))), (4, .int k0_3), (0, .ref q_t), (2, .int v2_1)]) hx hb dX6_inversions_124 hl (k := 4) rfl rfl (by decide) rfl (fun ls hl => ?_)
          refine lv_goto (tgt := 19) hx hb dX6_inversions_127 (by decide) ?_
          have e_2 := Option.some.inj hE
          exact ih_2 _ e_2.symm ls (lv_sub hl [3, 1, 4, 0] rfl)
        · replace hE := (if_neg c_72).symm.trans hE
          refine lv_aload_n hx hb dX6_inversions_75 rfl (lv_at hl 1 rfl) ?_
          refine va_get (D := G.1) (ci := 6) (v := .ref q_t_sign) (C := RX6) (T := TX6) (N := 23) hx hb hts iX6 hown hK hP 0 rfl rfl 3 (by decide) fl_13 (fun _ h9 => h9) rfl dX6_inversions_76 ?_
          refine lv_bipush (v := 6) hx hb dX6_inversions_79 (by decide) ?_
          refine lv_iload_n hx hb dX6_inversions_81 rfl (lv_at hl 3 rfl) ?_
          refine lv_aload_n hx hb dX6_inversions_82 rfl (lv_at hl 1 rfl) ?_
          refine va_get (D := G.1) (ci := 6) (v := .int t_size) (C := RX6) (T := TX6) (N := 23) hx hb hts iX6 hown hK hP 0 rfl rfl 2 (by decide) fl_54 (fun _ h9 => h9) rfl dX6_inversions_83 ?_
          obtain ⟨hz_86, hE⟩ := ck_some hE
          refine lv_idiv hx hb dX6_inversions_86 (ck_ne hz_86) ?_
          refine lv_imul hx hb dX6_inversions_87 ?_
          refine lv_iload_n hx hb dX6_inversions_88 rfl (lv_at hl 3 rfl) ?_
          refine lv_aload_n hx hb dX6_inversions_89 rfl (lv_at hl 1 rfl) ?_
          refine va_get (D := G.1) (ci := 6) (v := .int t_size) (C := RX6) (T := TX6) (N := 23) hx hb hts iX6 hown hK hP 0 rfl rfl 2 (by decide) fl_54 (fun _ h9 => h9) rfl dX6_inversions_90 ?_
          obtain ⟨hz_93, hE⟩ := ck_some hE
          refine lv_irem hx hb dX6_inversions_93 (ck_ne hz_93) ?_
          refine lv_iadd hx hb dX6_inversions_94 ?_
          obtain ⟨hi_95, hE⟩ := ck_some hE
          refine va_iald hx hb hK hP 1 1 rfl rfl (inb_in hi_95) dX6_inversions_95 ?_
          refine lv_aload_n hx hb dX6_inversions_96 rfl (lv_at hl 1 rfl) ?_
          refine va_get (D := G.1) (ci := 6) (v := .ref q_t_sign) (C := RX6) (T := TX6) (N := 23) hx hb hts iX6 hown hK hP 0 rfl rfl 3 (by decide) fl_13 (fun _ h9 => h9) rfl dX6_inversions_97 ?_
          refine lv_bipush (v := 6) hx hb dX6_inversions_100 (by decide) ?_
          refine lv_iload_n hx hb dX6_inversions_102 rfl (lv_at hl 4 rfl) ?_
          refine lv_aload_n hx hb dX6_inversions_103 rfl (lv_at hl 1 rfl) ?_
          refine va_get (D := G.1) (ci := 6) (v := .int t_size) (C := RX6) (T := TX6) (N := 23) hx hb hts iX6 hown hK hP 0 rfl rfl 2 (by decide) fl_54 (fun _ h9 => h9) rfl dX6_inversions_104 ?_
          obtain ⟨hz_107, hE⟩ := ck_some hE
          refine lv_idiv hx hb dX6_inversions_107 (ck_ne hz_107) ?_
          refine lv_imul hx hb dX6_inversions_108 ?_
          refine lv_iload_n hx hb dX6_inversions_109 rfl (lv_at hl 4 rfl) ?_
          refine lv_aload_n hx hb dX6_inversions_110 rfl (lv_at hl 1 rfl) ?_
          refine va_get (D := G.1) (ci := 6) (v := .int t_size) (C := RX6) (T := TX6) (N := 23) hx hb hts iX6 hown hK hP 0 rfl rfl 2 (by decide) fl_54 (fun _ h9 => h9) rfl dX6_inversions_111 ?_
          obtain ⟨hz_114, hE⟩ := ck_some hE
          refine lv_irem hx hb dX6_inversions_114 (ck_ne hz_114) ?_
          refine lv_iadd hx hb dX6_inversions_115 ?_
          obtain ⟨hi_116, hE⟩ := ck_some hE
          refine va_iald hx hb hK hP 1 1 rfl rfl (inb_in hi_116) dX6_inversions_116 ?_
          refine lv_imul hx hb dX6_inversions_117 ?_
          refine lv_goto (tgt := 122) hx hb dX6_inversions_118 (by decide) ?_
          refine lv_iadd hx hb dX6_inversions_122 ?_
          refine lv_topi (fun z_123 ez9 => ?_)
          rw [← ez9] at hE
          replace hE := bs_some hE
          try dsimp only at hE
          clear ez9
          refine lv_istore_n (lv' := [(1, .int z_123), (4, .int k0_3), (0, .ref q_t), (2, .int v2_1), (3, .int v3_2)]) hx hb dX6_inversions_123 rfl hl (by decide) rfl (fun ls hl => ?_)
          refine lv_iinc (v := v3_2 + (1 : Int32)) (lv' := [(3, .int (v3_2 + (1 : Int32))), (1, .int z_123), (4, .int k0_3), (0, .ref q_t), (2, .int v2_1)]) hx hb dX6_inversions_124 hl (k := 4) rfl rfl (by decide) rfl (fun ls hl => ?_)
          refine lv_goto (tgt := 19) hx hb dX6_inversions_127 (by decide) ?_
          have e_2 := Option.some.inj hE
          exact ih_2 _ e_2.symm ls (lv_sub hl [3, 1, 4, 0] rfl)
      clear hE hk9
      have hE := hEp
      clear hEp
      refine lv_icmp_ge (tgt := 66) hx hb dX6_inversions_44 (by decide) (fun c_44 => ?_) (fun c_44 => ?_)
      · replace hE := (if_pos c_44).symm.trans hE
        refine lv_iconst (v := 0) hx hb dX6_inversions_66 (by decide) ?_
        have e_3 := Option.some.inj hE
        exact ih_3 _ e_3.symm ls (lv_sub hl [0, 1, 2, 3] rfl)
      · replace hE := (if_neg c_44).symm.trans hE
        refine lv_iload_n hx hb dX6_inversions_47 rfl (lv_at hl 2 rfl) ?_
        refine lv_aload_n hx hb dX6_inversions_48 rfl (lv_at hl 0 rfl) ?_
        refine va_get (D := G.1) (ci := 6) (v := .int t_size) (C := RX6) (T := TX6) (N := 23) hx hb hts iX6 hown hK hP 0 rfl rfl 2 (by decide) fl_54 (fun _ h9 => h9) rfl dX6_inversions_49 ?_
        obtain ⟨hz_52, hE⟩ := ck_some hE
        refine lv_irem hx hb dX6_inversions_52 (ck_ne hz_52) ?_
        refine lv_iload_n hx hb dX6_inversions_53 rfl (lv_at hl 3 rfl) ?_
        refine lv_aload_n hx hb dX6_inversions_54 rfl (lv_at hl 0 rfl) ?_
        refine va_get (D := G.1) (ci := 6) (v := .int t_size) (C := RX6) (T := TX6) (N := 23) hx hb hts iX6 hown hK hP 0 rfl rfl 2 (by decide) fl_54 (fun _ h9 => h9) rfl dX6_inversions_55 ?_
        obtain ⟨hz_58, hE⟩ := ck_some hE
        refine lv_irem hx hb dX6_inversions_58 (ck_ne hz_58) ?_
        refine lv_icmp_le (tgt := 66) hx hb dX6_inversions_59 (by decide) (fun c_59 => ?_) (fun c_59 => ?_)
        · replace hE := (if_pos c_59).symm.trans hE
          refine lv_iconst (v := 0) hx hb dX6_inversions_66 (by decide) ?_
          have e_3 := Option.some.inj hE
          exact ih_3 _ e_3.symm ls (lv_sub hl [0, 1, 2, 3] rfl)
        · replace hE := (if_neg c_59).symm.trans hE
          refine lv_iconst (v := 1) hx hb dX6_inversions_62 (by decide) ?_
          refine lv_goto (tgt := 67) hx hb dX6_inversions_63 (by decide) ?_
          have e_3 := Option.some.inj hE
          exact ih_3 _ e_3.symm ls (lv_sub hl [0, 1, 2, 3] rfl)
def S_X6_sums (p1 : Int32) (t_size : Int32) (t_sign : Nat → Int32) : Option Int32 := itr (fun (x1 : Int32 × Int32) => if t_size < x1.2 then some (.inr x1.1) else itr (fun (x2 : Int32 × Int32) => if t_size < x2.2 then some (.inr (.inl (x2.1, x1.2 + (1 : Int32)))) else if p1 = (4 : Int32) then (S_X6_heightOf x1.2 x2.2 t_sign).bind (fun (y37 : Int32) => some (.inl (x2.1 + y37, x2.2 + (1 : Int32)))) else if p1 = (1 : Int32) then if t_size ≤ x1.2 then some (.inl (x2.1 + (0 : Int32), x2.2 + (1 : Int32))) else if t_size ≤ x2.2 then some (.inl (x2.1 + (0 : Int32), x2.2 + (1 : Int32))) else ck (inb (((6 : Int32) * x1.2) + x2.2) 36) (if (t_sign (((6 : Int32) * x1.2) + x2.2).toNatClampNeg) = (-1 : Int32) then some (.inl (x2.1 + (1 : Int32), x2.2 + (1 : Int32))) else some (.inl (x2.1 + (0 : Int32), x2.2 + (1 : Int32)))) else (S_X6_isInner x1.2 x2.2 t_size).bind (fun (y93 : Int32) => if y93 = 0 then some (.inl (x2.1 + (0 : Int32), x2.2 + (1 : Int32))) else (S_X6_mayBe x1.2 x2.2 t_sign).bind (fun (y106 : Int32) => if y106 ≤ 0 then some (.inl (x2.1 + (0 : Int32), x2.2 + (1 : Int32))) else some (.inl (x2.1 + (1 : Int32), x2.2 + (1 : Int32)))))) 10000 (x1.1, (0 : Int32))) 10000 ((0 : Int32), (0 : Int32))
theorem kd_X6_sums : yX6_sums.cls = RX6 ∧ yX6_sums.cls ≠ "java/lang/invoke/MethodHandle" ∧ yX6_sums.cls ≠ "java/lang/invoke/VarHandle" ∧ (parseMethodDescriptor yX6_sums.desc).map (fun d => d.parameters.length) = some 1 := by decide +kernel
set_option maxHeartbeats 4000000 in
set_option maxRecDepth 100000 in
theorem c_X6_sums {l : Launch} {G : kG} {p1 : Int32} {q_t : Nat} {t_length : Int32} {q_t_text : Nat} {t_size : Int32} {q_t_sign : Nat} {t_otherSize : Int32} {q_t_other : Nat} {q_t_before : Nat} {t_undoMany : Int32} {t_readSize : Int32} {q_t_read : Nat} {q_t_side : Nat} {q_t_tall : Nat} {q_t_endRow : Nat} {q_t_endColumn : Nat} {q_t_endSide : Nat} {q_t_gone : Nat} {t_lineRow : Int32} {t_lineColumn : Int32} {t_lineSide : Int32} {t_lineMany : Int32} {q_t_ways : Nat} {q_t_codes : Nat} {q_t_many : Nat} {t_sign : Nat → Int32} {res : Int32} (hE : S_X6_sums p1 t_size t_sign = some res) : Met l yX6_sums wsX6_sums ({ frames := 3, cells := 0, slots := 0, locals := 72 }) (va_Pc [.ref q_t, .int p1] (fun U => va_P G.1 vwCl [oX6 q_t t_length q_t_text t_size q_t_sign t_otherSize q_t_other q_t_before t_undoMany t_readSize q_t_read q_t_side q_t_tall q_t_endRow q_t_endColumn q_t_endSide q_t_gone t_lineRow t_lineColumn t_lineSide t_lineMany q_t_ways q_t_codes q_t_many, aI (G.2 1) q_t_sign 36 t_sign] U.heap ∧ kw G U)) (vp_Si (fun r => r = res)) 0 0 (fun _ => False) := by
  refine Met.ofQ (cc := cX6_sums) (maxL := 5) (ret := (some .int)) (by decide) rfl ?_
  intro p e s m args below meth c s₁ Q hQ B hml hv
  obtain ⟨rfl, hP, hKW⟩ := hv
  have hK := hKW.1
  have hx := B.exec
  have hb := B.bytes
  have hr := B.returns
  have hts := atoms_spec (ws := wsX6_sums) B.pre
  have hown : s.vm.findClass RX6 = some m.cls := findClass_of_methodNamed B.named
  have hlocks := B.notSynchronized
  have iX6 : ∀ w ∈ u_ws RX6 TX6 23, w ∈ wsX6_sums := by decide +kernel
  have fl_54 := hts (.fieldLink RX6 54 "AlternateSignsModel" "size" "I") (by decide +kernel)
  have fl_13 := hts (.fieldLink RX6 13 "AlternateSignsModel" "sign" "[I") (by decide +kernel)
  have hl := lv_entry ([.ref q_t, .int p1]) (n := 5) (Nat.le_of_ble_eq_true rfl)
  rw [lg_entry_eq]
  generalize (lg_sl ([.ref q_t, .int p1]) ++ List.replicate (5 - (lg_sl ([.ref q_t, .int p1])).length) Slot.unset).toArray = ls at hl ⊢
  have hl : lv_has ls 5 [(0, .ref q_t), (1, .int p1)] := hl
  unfold S_X6_sums at hE
  refine lv_iconst (v := 0) hx hb dX6_sums_0 (by decide) ?_
  refine lv_istore_n (lv' := [(2, .int (0 : Int32)), (0, .ref q_t), (1, .int p1)]) hx hb dX6_sums_1 rfl hl (by decide) rfl (fun ls hl => ?_)
  refine lv_iconst (v := 0) hx hb dX6_sums_2 (by decide) ?_
  refine lv_istore_n (lv' := [(3, .int (0 : Int32)), (2, .int (0 : Int32)), (0, .ref q_t), (1, .int p1)]) hx hb dX6_sums_3 rfl hl (by decide) rfl (fun ls hl => ?_)
  refine itr_ind (fun (x1 : Int32 × Int32) => ∀ (ls : Array Slot), lv_has ls 5 [(0, .ref q_t), (1, .int p1), (2, .int x1.1), (3, .int x1.2)] → W p l e (headSpec wsX6_sums ({ frames := 3, cells := 0, slots := 0, locals := 72 })).room s m ([.ref q_t, .int p1] : List Value).toArray below meth c s.heap [] 0 0 Q (F0 m 4 ls [])) (fun x1 o_1 hE ih_1 hr_1 => ?_) _ _ hE ls (lv_sub hl [2, 3, 1, 0] rfl)
  obtain ⟨v2_1, v3_1⟩ := x1
  try dsimp only at hE
  intro ls hl
  try dsimp only at hl ⊢
  refine lv_iload_n hx hb dX6_sums_4 rfl (lv_at hl 3 rfl) ?_
  refine lv_aload_n hx hb dX6_sums_5 rfl (lv_at hl 0 rfl) ?_
  refine va_get (D := G.1) (ci := 6) (v := .int t_size) (C := RX6) (T := TX6) (N := 23) hx hb hts iX6 hown hK hP 0 rfl rfl 2 (by decide) fl_54 (fun _ h9 => h9) rfl dX6_sums_6 ?_
  refine lv_icmp_gt (tgt := 131) hx hb dX6_sums_9 (by decide) (fun c_9 => ?_) (fun c_9 => ?_)
  · replace hE := (if_pos c_9).symm.trans hE
    refine lv_iload_n hx hb dX6_sums_131 rfl (lv_at hl 2 rfl) ?_
    have e_1 := Option.some.inj hE
    have e_0 := hr_1 _ e_1.symm
    rw [hQ]
    exact W.iret (v := v2_1) hx hb hr (fun t ht _ => ⟨_, rfl, e_0, ht⟩) (fun q h => by cases h) dX6_sums_132
  · replace hE := (if_neg c_9).symm.trans hE
    refine lv_iconst (v := 0) hx hb dX6_sums_12 (by decide) ?_
    refine lv_istore (lv' := [(4, .int (0 : Int32)), (0, .ref q_t), (1, .int p1), (2, .int v2_1), (3, .int v3_1)]) hx hb dX6_sums_13 hl (by decide) rfl (fun ls hl => ?_)
    refine itr_ind (fun (x2 : Int32 × Int32) => ∀ (ls : Array Slot), lv_has ls 5 [(0, .ref q_t), (1, .int p1), (2, .int x2.1), (3, .int v3_1), (4, .int x2.2)] → W p l e (headSpec wsX6_sums ({ frames := 3, cells := 0, slots := 0, locals := 72 })).room s m ([.ref q_t, .int p1] : List Value).toArray below meth c s.heap [] 0 0 Q (F0 m 15 ls [])) (fun x2 o_2 hE ih_2 hr_2 => ?_) _ _ hE ls (lv_sub hl [1, 2, 3, 4, 0] rfl)
    obtain ⟨v2_2, v4_2⟩ := x2
    try dsimp only at hE
    intro ls hl
    try dsimp only at hl ⊢
    refine lv_iload hx hb dX6_sums_15 (lv_at hl 4 rfl) ?_
    refine lv_aload_n hx hb dX6_sums_17 rfl (lv_at hl 0 rfl) ?_
    refine va_get (D := G.1) (ci := 6) (v := .int t_size) (C := RX6) (T := TX6) (N := 23) hx hb hts iX6 hown hK hP 0 rfl rfl 2 (by decide) fl_54 (fun _ h9 => h9) rfl dX6_sums_18 ?_
    refine lv_icmp_gt (tgt := 125) hx hb dX6_sums_21 (by decide) (fun c_21 => ?_) (fun c_21 => ?_)
    · replace hE := (if_pos c_21).symm.trans hE
      refine lv_iinc (v := v3_1 + (1 : Int32)) (lv' := [(3, .int (v3_1 + (1 : Int32))), (0, .ref q_t), (1, .int p1), (2, .int v2_2), (4, .int v4_2)]) hx hb dX6_sums_125 hl (k := 3) rfl rfl (by decide) rfl (fun ls hl => ?_)
      refine lv_goto (tgt := 4) hx hb dX6_sums_128 (by decide) ?_
      have e_2 := Option.some.inj hE
      have e_1 := hr_2 _ e_2.symm
      exact ih_1 _ e_1.symm ls (lv_sub hl [1, 2, 3, 0] rfl)
    · replace hE := (if_neg c_21).symm.trans hE
      refine lv_iload_n hx hb dX6_sums_24 rfl (lv_at hl 2 rfl) ?_
      refine lv_iload_n hx hb dX6_sums_25 rfl (lv_at hl 1 rfl) ?_
      refine lv_iconst (v := 4) hx hb dX6_sums_26 (by decide) ?_
      refine lv_icmp_ne (tgt := 43) hx hb dX6_sums_27 (by decide) (fun c_27 => ?_) (fun c_27 => ?_)
      · replace hE := (if_neg c_27).symm.trans hE
        refine lv_iload_n hx hb dX6_sums_43 rfl (lv_at hl 1 rfl) ?_
        refine lv_iconst (v := 1) hx hb dX6_sums_44 (by decide) ?_
        refine lv_icmp_ne (tgt := 89) hx hb dX6_sums_45 (by decide) (fun c_45 => ?_) (fun c_45 => ?_)
        · replace hE := (if_neg c_45).symm.trans hE
          refine lv_aload_n hx hb dX6_sums_89 rfl (lv_at hl 0 rfl) ?_
          refine lv_iload_n hx hb dX6_sums_90 rfl (lv_at hl 3 rfl) ?_
          refine lv_iload hx hb dX6_sums_91 (lv_at hl 4 rfl) ?_
          obtain ⟨y93, hC_93, hE⟩ := Option.bind_eq_some_iff.mp hE
          obtain ⟨r_93, ex9⟩ : ∃ z, z = y93 := ⟨_, rfl⟩
          subst ex9
          try dsimp only at hE
          refine vp_callSi (va_Run.run (va_runV (As := [.int v3_1, .int v4_2]) (rest := [.int v2_2]) ⟨hx, hb, hml, hown, hts⟩ (c_X6_isInner (l := l) (G := G) (p1 := v3_1) (p2 := v4_2) (q_t := q_t) (t_length := t_length) (q_t_text := q_t_text) (t_size := t_size) (q_t_sign := q_t_sign) (t_otherSize := t_otherSize) (q_t_other := q_t_other) (q_t_before := q_t_before) (t_undoMany := t_undoMany) (t_readSize := t_readSize) (q_t_read := q_t_read) (q_t_side := q_t_side) (q_t_tall := q_t_tall) (q_t_endRow := q_t_endRow) (q_t_endColumn := q_t_endColumn) (q_t_endSide := q_t_endSide) (q_t_gone := q_t_gone) (t_lineRow := t_lineRow) (t_lineColumn := t_lineColumn) (t_lineSide := t_lineSide) (t_lineMany := t_lineMany) (q_t_ways := q_t_ways) (q_t_codes := q_t_codes) (q_t_many := q_t_many) hC_93) (cwV 2 hts gX6_sums_X6_isInner rfl rfl rfl kd_X6_isInner ⟨Nat.le_of_ble_eq_true rfl, Nat.le_of_ble_eq_true rfl⟩) (pv_V hKW (hP.sub (ws' := [oX6 q_t t_length q_t_text t_size q_t_sign t_otherSize q_t_other q_t_before t_undoMany t_readSize q_t_read q_t_side q_t_tall q_t_endRow q_t_endColumn q_t_endSide q_t_gone t_lineRow t_lineColumn t_lineSide t_lineMany q_t_ways q_t_codes q_t_many]) [0] rfl) (ci := 6) (q0 := 0) rfl rfl) rfl rfl hl.1 rfl (lv_room (Nat.le_of_ble_eq_true rfl)) dX6_sums_93 ⟨Nat.zero_le _, Nat.zero_le _⟩)) (fun r9 hr9 => ?_)
          subst r9
          refine lv_if_eq (tgt := 116) hx hb dX6_sums_96 (by decide) (fun c_96 => ?_) (fun c_96 => ?_)
          · replace hE := (if_pos c_96).symm.trans hE
            refine lv_iconst (v := 0) hx hb dX6_sums_116 (by decide) ?_
            refine lv_iadd hx hb dX6_sums_117 ?_
            refine lv_istore_n (lv' := [(2, .int (v2_2 + (0 : Int32))), (0, .ref q_t), (1, .int p1), (3, .int v3_1), (4, .int v4_2)]) hx hb dX6_sums_118 rfl hl (by decide) rfl (fun ls hl => ?_)
            refine lv_iinc (v := v4_2 + (1 : Int32)) (lv' := [(4, .int (v4_2 + (1 : Int32))), (2, .int (v2_2 + (0 : Int32))), (0, .ref q_t), (1, .int p1), (3, .int v3_1)]) hx hb dX6_sums_119 hl (k := 4) rfl rfl (by decide) rfl (fun ls hl => ?_)
            refine lv_goto (tgt := 15) hx hb dX6_sums_122 (by decide) ?_
            have e_2 := Option.some.inj hE
            exact ih_2 _ e_2.symm ls (lv_sub hl [2, 3, 1, 4, 0] rfl)
          · replace hE := (if_neg c_96).symm.trans hE
            refine lv_aload_n hx hb dX6_sums_99 rfl (lv_at hl 0 rfl) ?_
            refine va_get (D := G.1) (ci := 6) (v := .ref q_t_sign) (C := RX6) (T := TX6) (N := 23) hx hb hts iX6 hown hK hP 0 rfl rfl 3 (by decide) fl_13 (fun _ h9 => h9) rfl dX6_sums_100 ?_
            refine lv_iload_n hx hb dX6_sums_103 rfl (lv_at hl 3 rfl) ?_
            refine lv_iload hx hb dX6_sums_104 (lv_at hl 4 rfl) ?_
            obtain ⟨y106, hC_106, hE⟩ := Option.bind_eq_some_iff.mp hE
            obtain ⟨r_106, ex9⟩ : ∃ z, z = y106 := ⟨_, rfl⟩
            subst ex9
            try dsimp only at hE
            refine vp_callSi (va_Run.run (va_runS (As := [.ref q_t_sign, .int v3_1, .int v4_2]) (rest := [.int v2_2]) ⟨hx, hb, hml, hown, hts⟩ (c_X6_mayBe (l := l) (G := G) (p2 := v3_1) (p3 := v4_2) (q_p1 := q_t_sign) (p1 := t_sign) hC_106) (va_cwS 3 hts gX6_sums_X6_mayBe rfl rfl rfl kd_X6_mayBe ⟨Nat.le_of_ble_eq_true rfl, Nat.le_of_ble_eq_true rfl⟩) (pv_S hKW (hP.sub (ws' := [aI (G.2 1) q_t_sign 36 t_sign]) [1] rfl)) rfl rfl hl.1 rfl (lv_room (Nat.le_of_ble_eq_true rfl)) dX6_sums_106 ⟨Nat.zero_le _, Nat.zero_le _⟩)) (fun r9 hr9 => ?_)
            subst r9
            refine lv_if_le (tgt := 116) hx hb dX6_sums_109 (by decide) (fun c_109 => ?_) (fun c_109 => ?_)
            · replace hE := (if_pos c_109).symm.trans hE
              refine lv_iconst (v := 0) hx hb dX6_sums_116 (by decide) ?_
              refine lv_iadd hx hb dX6_sums_117 ?_
              refine lv_istore_n (lv' := [(2, .int (v2_2 + (0 : Int32))), (0, .ref q_t), (1, .int p1), (3, .int v3_1), (4, .int v4_2)]) hx hb dX6_sums_118 rfl hl (by decide) rfl (fun ls hl => ?_)
              refine lv_iinc (v := v4_2 + (1 : Int32)) (lv' := [(4, .int (v4_2 + (1 : Int32))), (2, .int (v2_2 + (0 : Int32))), (0, .ref q_t), (1, .int p1), (3, .int v3_1)]) hx hb dX6_sums_119 hl (k := 4) rfl rfl (by decide) rfl (fun ls hl => ?_)
              refine lv_goto (tgt := 15) hx hb dX6_sums_122 (by decide) ?_
              have e_2 := Option.some.inj hE
              exact ih_2 _ e_2.symm ls (lv_sub hl [2, 3, 1, 4, 0] rfl)
            · replace hE := (if_neg c_109).symm.trans hE
              refine lv_iconst (v := 1) hx hb dX6_sums_112 (by decide) ?_
              refine lv_goto (tgt := 117) hx hb dX6_sums_113 (by decide) ?_
              refine lv_iadd hx hb dX6_sums_117 ?_
              refine lv_istore_n (lv' := [(2, .int (v2_2 + (1 : Int32))), (0, .ref q_t), (1, .int p1), (3, .int v3_1), (4, .int v4_2)]) hx hb dX6_sums_118 rfl hl (by decide) rfl (fun ls hl => ?_)
              refine lv_iinc (v := v4_2 + (1 : Int32)) (lv' := [(4, .int (v4_2 + (1 : Int32))), (2, .int (v2_2 + (1 : Int32))), (0, .ref q_t), (1, .int p1), (3, .int v3_1)]) hx hb dX6_sums_119 hl (k := 4) rfl rfl (by decide) rfl (fun ls hl => ?_)
              refine lv_goto (tgt := 15) hx hb dX6_sums_122 (by decide) ?_
              have e_2 := Option.some.inj hE
              exact ih_2 _ e_2.symm ls (lv_sub hl [2, 3, 1, 4, 0] rfl)
        · replace hE := (if_pos c_45).symm.trans hE
          refine lv_iload_n hx hb dX6_sums_48 rfl (lv_at hl 3 rfl) ?_
          refine lv_aload_n hx hb dX6_sums_49 rfl (lv_at hl 0 rfl) ?_
          refine va_get (D := G.1) (ci := 6) (v := .int t_size) (C := RX6) (T := TX6) (N := 23) hx hb hts iX6 hown hK hP 0 rfl rfl 2 (by decide) fl_54 (fun _ h9 => h9) rfl dX6_sums_50 ?_
          refine lv_icmp_ge (tgt := 85) hx hb dX6_sums_53 (by decide) (fun c_53 => ?_) (fun c_53 => ?_)
          · replace hE := (if_pos c_53).symm.trans hE
            refine lv_iconst (v := 0) hx hb dX6_sums_85 (by decide) ?_
            refine lv_goto (tgt := 117) hx hb dX6_sums_86 (by decide) ?_
            refine lv_iadd hx hb dX6_sums_117 ?_
            refine lv_istore_n (lv' := [(2, .int (v2_2 + (0 : Int32))), (0, .ref q_t), (1, .int p1), (3, .int v3_1), (4, .int v4_2)]) hx hb dX6_sums_118 rfl hl (by decide) rfl (fun ls hl => ?_)
            refine lv_iinc (v := v4_2 + (1 : Int32)) (lv' := [(4, .int (v4_2 + (1 : Int32))), (2, .int (v2_2 + (0 : Int32))), (0, .ref q_t), (1, .int p1), (3, .int v3_1)]) hx hb dX6_sums_119 hl (k := 4) rfl rfl (by decide) rfl (fun ls hl => ?_)
            refine lv_goto (tgt := 15) hx hb dX6_sums_122 (by decide) ?_
            have e_2 := Option.some.inj hE
            exact ih_2 _ e_2.symm ls (lv_sub hl [2, 3, 1, 4, 0] rfl)
          · replace hE := (if_neg c_53).symm.trans hE
            refine lv_iload hx hb dX6_sums_56 (lv_at hl 4 rfl) ?_
            refine lv_aload_n hx hb dX6_sums_58 rfl (lv_at hl 0 rfl) ?_
            refine va_get (D := G.1) (ci := 6) (v := .int t_size) (C := RX6) (T := TX6) (N := 23) hx hb hts iX6 hown hK hP 0 rfl rfl 2 (by decide) fl_54 (fun _ h9 => h9) rfl dX6_sums_59 ?_
            refine lv_icmp_ge (tgt := 85) hx hb dX6_sums_62 (by decide) (fun c_62 => ?_) (fun c_62 => ?_)
            · replace hE := (if_pos c_62).symm.trans hE
              refine lv_iconst (v := 0) hx hb dX6_sums_85 (by decide) ?_
              refine lv_goto (tgt := 117) hx hb dX6_sums_86 (by decide) ?_
              refine lv_iadd hx hb dX6_sums_117 ?_
              refine lv_istore_n (lv' := [(2, .int (v2_2 + (0 : Int32))), (0, .ref q_t), (1, .int p1), (3, .int v3_1), (4, .int v4_2)]) hx hb dX6_sums_118 rfl hl (by decide) rfl (fun ls hl => ?_)
              refine lv_iinc (v := v4_2 + (1 : Int32)) (lv' := [(4, .int (v4_2 + (1 : Int32))), (2, .int (v2_2 + (0 : Int32))), (0, .ref q_t), (1, .int p1), (3, .int v3_1)]) hx hb dX6_sums_119 hl (k := 4) rfl rfl (by decide) rfl (fun ls hl => ?_)
              refine lv_goto (tgt := 15) hx hb dX6_sums_122 (by decide) ?_
              have e_2 := Option.some.inj hE
              exact ih_2 _ e_2.symm ls (lv_sub hl [2, 3, 1, 4, 0] rfl)
            · replace hE := (if_neg c_62).symm.trans hE
              refine lv_aload_n hx hb dX6_sums_65 rfl (lv_at hl 0 rfl) ?_
              refine va_get (D := G.1) (ci := 6) (v := .ref q_t_sign) (C := RX6) (T := TX6) (N := 23) hx hb hts iX6 hown hK hP 0 rfl rfl 3 (by decide) fl_13 (fun _ h9 => h9) rfl dX6_sums_66 ?_
              refine lv_bipush (v := 6) hx hb dX6_sums_69 (by decide) ?_
              refine lv_iload_n hx hb dX6_sums_71 rfl (lv_at hl 3 rfl) ?_
              refine lv_imul hx hb dX6_sums_72 ?_
              refine lv_iload hx hb dX6_sums_73 (lv_at hl 4 rfl) ?_
              refine lv_iadd hx hb dX6_sums_75 ?_
              obtain ⟨hi_76, hE⟩ := ck_some hE
              refine va_iald hx hb hK hP 1 1 rfl rfl (inb_in hi_76) dX6_sums_76 ?_
              refine lv_iconst (v := -1) hx hb dX6_sums_77 (by decide) ?_
              refine lv_icmp_ne (tgt := 85) hx hb dX6_sums_78 (by decide) (fun c_78 => ?_) (fun c_78 => ?_)
              · replace hE := (if_neg c_78).symm.trans hE
                refine lv_iconst (v := 0) hx hb dX6_sums_85 (by decide) ?_
                refine lv_goto (tgt := 117) hx hb dX6_sums_86 (by decide) ?_
                refine lv_iadd hx hb dX6_sums_117 ?_
                refine lv_istore_n (lv' := [(2, .int (v2_2 + (0 : Int32))), (0, .ref q_t), (1, .int p1), (3, .int v3_1), (4, .int v4_2)]) hx hb dX6_sums_118 rfl hl (by decide) rfl (fun ls hl => ?_)
                refine lv_iinc (v := v4_2 + (1 : Int32)) (lv' := [(4, .int (v4_2 + (1 : Int32))), (2, .int (v2_2 + (0 : Int32))), (0, .ref q_t), (1, .int p1), (3, .int v3_1)]) hx hb dX6_sums_119 hl (k := 4) rfl rfl (by decide) rfl (fun ls hl => ?_)
                refine lv_goto (tgt := 15) hx hb dX6_sums_122 (by decide) ?_
                have e_2 := Option.some.inj hE
                exact ih_2 _ e_2.symm ls (lv_sub hl [2, 3, 1, 4, 0] rfl)
              · replace hE := (if_pos c_78).symm.trans hE
                refine lv_iconst (v := 1) hx hb dX6_sums_81 (by decide) ?_
                refine lv_goto (tgt := 117) hx hb dX6_sums_82 (by decide) ?_
                refine lv_iadd hx hb dX6_sums_117 ?_
                refine lv_istore_n (lv' := [(2, .int (v2_2 + (1 : Int32))), (0, .ref q_t), (1, .int p1), (3, .int v3_1), (4, .int v4_2)]) hx hb dX6_sums_118 rfl hl (by decide) rfl (fun ls hl => ?_)
                refine lv_iinc (v := v4_2 + (1 : Int32)) (lv' := [(4, .int (v4_2 + (1 : Int32))), (2, .int (v2_2 + (1 : Int32))), (0, .ref q_t), (1, .int p1), (3, .int v3_1)]) hx hb dX6_sums_119 hl (k := 4) rfl rfl (by decide) rfl (fun ls hl => ?_)
                refine lv_goto (tgt := 15) hx hb dX6_sums_122 (by decide) ?_
                have e_2 := Option.some.inj hE
                exact ih_2 _ e_2.symm ls (lv_sub hl [2, 3, 1, 4, 0] rfl)
      · replace hE := (if_pos c_27).symm.trans hE
        refine lv_aload_n hx hb dX6_sums_30 rfl (lv_at hl 0 rfl) ?_
        refine va_get (D := G.1) (ci := 6) (v := .ref q_t_sign) (C := RX6) (T := TX6) (N := 23) hx hb hts iX6 hown hK hP 0 rfl rfl 3 (by decide) fl_13 (fun _ h9 => h9) rfl dX6_sums_31 ?_
        refine lv_iload_n hx hb dX6_sums_34 rfl (lv_at hl 3 rfl) ?_
        refine lv_iload hx hb dX6_sums_35 (lv_at hl 4 rfl) ?_
        obtain ⟨y37, hC_37, hE⟩ := Option.bind_eq_some_iff.mp hE
        obtain ⟨r_37, ex9⟩ : ∃ z, z = y37 := ⟨_, rfl⟩
        subst ex9
        try dsimp only at hE
        refine vp_callSi (va_Run.run (va_runS (As := [.ref q_t_sign, .int v3_1, .int v4_2]) (rest := [.int v2_2]) ⟨hx, hb, hml, hown, hts⟩ (c_X6_heightOf (l := l) (G := G) (p2 := v3_1) (p3 := v4_2) (q_p1 := q_t_sign) (p1 := t_sign) hC_37) (va_cwS 3 hts gX6_sums_X6_heightOf rfl rfl rfl kd_X6_heightOf ⟨Nat.le_of_ble_eq_true rfl, Nat.le_of_ble_eq_true rfl⟩) (pv_S hKW (hP.sub (ws' := [aI (G.2 1) q_t_sign 36 t_sign]) [1] rfl)) rfl rfl hl.1 rfl (lv_room (Nat.le_of_ble_eq_true rfl)) dX6_sums_37 ⟨Nat.zero_le _, Nat.zero_le _⟩)) (fun r9 hr9 => ?_)
        subst r9
        refine lv_goto (tgt := 117) hx hb dX6_sums_40 (by decide) ?_
        refine lv_iadd hx hb dX6_sums_117 ?_
        refine lv_istore_n (lv' := [(2, .int (v2_2 + r_37)), (0, .ref q_t), (1, .int p1), (3, .int v3_1), (4, .int v4_2)]) hx hb dX6_sums_118 rfl hl (by decide) rfl (fun ls hl => ?_)
        refine lv_iinc (v := v4_2 + (1 : Int32)) (lv' := [(4, .int (v4_2 + (1 : Int32))), (2, .int (v2_2 + r_37)), (0, .ref q_t), (1, .int p1), (3, .int v3_1)]) hx hb dX6_sums_119 hl (k := 4) rfl rfl (by decide) rfl (fun ls hl => ?_)
        refine lv_goto (tgt := 15) hx hb dX6_sums_122 (by decide) ?_
        have e_2 := Option.some.inj hE
        exact ih_2 _ e_2.symm ls (lv_sub hl [2, 3, 1, 4, 0] rfl)
def S_X6_count (p1 : Int32) (t_length : Int32) (t_size : Int32) (t_otherSize : Int32) (t_undoMany : Int32) (t_lineRow : Int32) (t_lineColumn : Int32) (t_lineSide : Int32) (t_lineMany : Int32) (t_sign : Nat → Int32) (t_endRow : Nat → Int32) (t_endColumn : Nat → Int32) (t_endSide : Nat → Int32) (t_gone : Nat → Int32) : Option (Int32 × Int32 × Int32 × Int32 × Int32 × (Nat → Int32) × (Nat → Int32) × (Nat → Int32) × (Nat → Int32)) := if p1 = (0 : Int32) then some (t_size, t_lineRow, t_lineColumn, t_lineSide, t_lineMany, t_endRow, t_endColumn, t_endSide, t_gone) else if p1 = (1 : Int32) then (S_X6_sums p1 t_size t_sign).bind (fun (y71 : Int32) => some (y71, t_lineRow, t_lineColumn, t_lineSide, t_lineMany, t_endRow, t_endColumn, t_endSide, t_gone)) else if p1 = (2 : Int32) then (S_X6_sums p1 t_size t_sign).bind (fun (y71 : Int32) => some (y71, t_lineRow, t_lineColumn, t_lineSide, t_lineMany, t_endRow, t_endColumn, t_endSide, t_gone)) else if p1 = (3 : Int32) then (S_X6_inversions t_size t_sign).bind (fun (y76 : Int32) => some (y76, t_lineRow, t_lineColumn, t_lineSide, t_lineMany, t_endRow, t_endColumn, t_endSide, t_gone)) else if p1 = (4 : Int32) then (S_X6_sums p1 t_size t_sign).bind (fun (y71 : Int32) => some (y71, t_lineRow, t_lineColumn, t_lineSide, t_lineMany, t_endRow, t_endColumn, t_endSide, t_gone)) else if p1 = (5 : Int32) then some (t_undoMany, t_lineRow, t_lineColumn, t_lineSide, t_lineMany, t_endRow, t_endColumn, t_endSide, t_gone) else if p1 = (6 : Int32) then some (t_length, t_lineRow, t_lineColumn, t_lineSide, t_lineMany, t_endRow, t_endColumn, t_endSide, t_gone) else if p1 = (7 : Int32) then some (t_otherSize, t_lineRow, t_lineColumn, t_lineSide, t_lineMany, t_endRow, t_endColumn, t_endSide, t_gone) else if p1 = (8 : Int32) then (S_X6_sums (1 : Int32) t_size t_sign).bind (fun (y97 : Int32) => if y97 = 0 then some ((1 : Int32), t_lineRow, t_lineColumn, t_lineSide, t_lineMany, t_endRow, t_endColumn, t_endSide, t_gone) else some ((0 : Int32), t_lineRow, t_lineColumn, t_lineSide, t_lineMany, t_endRow, t_endColumn, t_endSide, t_gone)) else if p1 = (9 : Int32) then (S_X6_drawn t_size t_sign).bind (fun (y110 : Int32) => some (y110, t_lineRow, t_lineColumn, t_lineSide, t_lineMany, t_endRow, t_endColumn, t_endSide, t_gone)) else if p1 = (10 : Int32) then (S_X6_rings (p1 - (10 : Int32)) t_size t_lineRow t_lineColumn t_lineSide t_lineMany t_sign t_endRow t_endColumn t_endSide t_gone).bind (fun (y119 : Int32 × Int32 × Int32 × Int32 × Int32 × (Nat → Int32) × (Nat → Int32) × (Nat → Int32) × (Nat → Int32)) => some (y119.1, y119.2.1, y119.2.2.1, y119.2.2.2.1, y119.2.2.2.2.1, y119.2.2.2.2.2.1, y119.2.2.2.2.2.2.1, y119.2.2.2.2.2.2.2.1, y119.2.2.2.2.2.2.2.2)) else if p1 = (11 : Int32) then (S_X6_rings (p1 - (10 : Int32)) t_size t_lineRow t_lineColumn t_lineSide t_lineMany t_sign t_endRow t_endColumn t_endSide t_gone).bind (fun (y119 : Int32 × Int32 × Int32 × Int32 × Int32 × (Nat → Int32) × (Nat → Int32) × (Nat → Int32) × (Nat → Int32)) => some (y119.1, y119.2.1, y119.2.2.1, y119.2.2.2.1, y119.2.2.2.2.1, y119.2.2.2.2.2.1, y119.2.2.2.2.2.2.1, y119.2.2.2.2.2.2.2.1, y119.2.2.2.2.2.2.2.2)) else some ((-1 : Int32), t_lineRow, t_lineColumn, t_lineSide, t_lineMany, t_endRow, t_endColumn, t_endSide, t_gone)
theorem kd_X6_count : yX6_count.cls = RX6 ∧ yX6_count.cls ≠ "java/lang/invoke/MethodHandle" ∧ yX6_count.cls ≠ "java/lang/invoke/VarHandle" ∧ (parseMethodDescriptor yX6_count.desc).map (fun d => d.parameters.length) = some 1 := by decide +kernel
set_option maxHeartbeats 4000000 in
set_option maxRecDepth 100000 in
theorem c_X6_count {l : Launch} {G : kG} (sz : Nat) {p1 : Int32} {q_t : Nat} {t_length : Int32} {q_t_text : Nat} {t_size : Int32} {q_t_sign : Nat} {t_otherSize : Int32} {q_t_other : Nat} {q_t_before : Nat} {t_undoMany : Int32} {t_readSize : Int32} {q_t_read : Nat} {q_t_side : Nat} {q_t_tall : Nat} {q_t_endRow : Nat} {q_t_endColumn : Nat} {q_t_endSide : Nat} {q_t_gone : Nat} {t_lineRow : Int32} {t_lineColumn : Int32} {t_lineSide : Int32} {t_lineMany : Int32} {q_t_ways : Nat} {q_t_codes : Nat} {q_t_many : Nat} {t_sign : Nat → Int32} {t_endRow : Nat → Int32} {t_endColumn : Nat → Int32} {t_endSide : Nat → Int32} {t_gone : Nat → Int32} {res : Int32 × Int32 × Int32 × Int32 × Int32 × (Nat → Int32) × (Nat → Int32) × (Nat → Int32) × (Nat → Int32)} (hE : S_X6_count p1 t_length t_size t_otherSize t_undoMany t_lineRow t_lineColumn t_lineSide t_lineMany t_sign t_endRow t_endColumn t_endSide t_gone = some res) : Met l yX6_count wsX6_count ({ frames := 5, cells := 0, slots := 0, locals := 122 }) (va_Pc [.ref q_t, .int p1] (fun U => U.heap.size = sz ∧ va_P G.1 vwCl [oX6 q_t t_length q_t_text t_size q_t_sign t_otherSize q_t_other q_t_before t_undoMany t_readSize q_t_read q_t_side q_t_tall q_t_endRow q_t_endColumn q_t_endSide q_t_gone t_lineRow t_lineColumn t_lineSide t_lineMany q_t_ways q_t_codes q_t_many, aI (G.2 1) q_t_sign 36 t_sign, aI (G.2 1) q_t_endRow 12 t_endRow, aI (G.2 1) q_t_endColumn 12 t_endColumn, aI (G.2 1) q_t_endSide 12 t_endSide, aI (G.2 3) q_t_gone 36 t_gone] U.heap ∧ kw G U ∧ va_D (fun _ => True) [oX6 q_t t_length q_t_text t_size q_t_sign t_otherSize q_t_other q_t_before t_undoMany t_readSize q_t_read q_t_side q_t_tall q_t_endRow q_t_endColumn q_t_endSide q_t_gone t_lineRow t_lineColumn t_lineSide t_lineMany q_t_ways q_t_codes q_t_many, aI (G.2 1) q_t_sign 36 t_sign, aI (G.2 1) q_t_endRow 12 t_endRow, aI (G.2 1) q_t_endColumn 12 t_endColumn, aI (G.2 1) q_t_endSide 12 t_endSide, aI (G.2 3) q_t_gone 36 t_gone])) (va_Qi (fun r (_ : Unit) => r = res.1) (fun _ t => va_P G.1 vwCl [oX6 q_t t_length q_t_text t_size q_t_sign t_otherSize q_t_other q_t_before t_undoMany t_readSize q_t_read q_t_side q_t_tall q_t_endRow q_t_endColumn q_t_endSide q_t_gone res.2.1 res.2.2.1 res.2.2.2.1 res.2.2.2.2.1 q_t_ways q_t_codes q_t_many, aI (G.2 1) q_t_sign 36 t_sign, aI (G.2 1) q_t_endRow 12 res.2.2.2.2.2.1, aI (G.2 1) q_t_endColumn 12 res.2.2.2.2.2.2.1, aI (G.2 1) q_t_endSide 12 res.2.2.2.2.2.2.2.1, aI (G.2 3) q_t_gone 36 res.2.2.2.2.2.2.2.2] t.heap ∧ va_D (va_A [oX6 q_t t_length q_t_text t_size q_t_sign t_otherSize q_t_other q_t_before t_undoMany t_readSize q_t_read q_t_side q_t_tall q_t_endRow q_t_endColumn q_t_endSide q_t_gone t_lineRow t_lineColumn t_lineSide t_lineMany q_t_ways q_t_codes q_t_many, aI (G.2 1) q_t_sign 36 t_sign, aI (G.2 1) q_t_endRow 12 t_endRow, aI (G.2 1) q_t_endColumn 12 t_endColumn, aI (G.2 1) q_t_endSide 12 t_endSide, aI (G.2 3) q_t_gone 36 t_gone] sz) [oX6 q_t t_length q_t_text t_size q_t_sign t_otherSize q_t_other q_t_before t_undoMany t_readSize q_t_read q_t_side q_t_tall q_t_endRow q_t_endColumn q_t_endSide q_t_gone res.2.1 res.2.2.1 res.2.2.2.1 res.2.2.2.2.1 q_t_ways q_t_codes q_t_many, aI (G.2 1) q_t_sign 36 t_sign, aI (G.2 1) q_t_endRow 12 res.2.2.2.2.2.1, aI (G.2 1) q_t_endColumn 12 res.2.2.2.2.2.2.1, aI (G.2 1) q_t_endSide 12 res.2.2.2.2.2.2.2.1, aI (G.2 3) q_t_gone 36 res.2.2.2.2.2.2.2.2]) (va_A [oX6 q_t t_length q_t_text t_size q_t_sign t_otherSize q_t_other q_t_before t_undoMany t_readSize q_t_read q_t_side q_t_tall q_t_endRow q_t_endColumn q_t_endSide q_t_gone t_lineRow t_lineColumn t_lineSide t_lineMany q_t_ways q_t_codes q_t_many, aI (G.2 1) q_t_sign 36 t_sign, aI (G.2 1) q_t_endRow 12 t_endRow, aI (G.2 1) q_t_endColumn 12 t_endColumn, aI (G.2 1) q_t_endSide 12 t_endSide, aI (G.2 3) q_t_gone 36 t_gone] sz)) 0 0 (va_A [oX6 q_t t_length q_t_text t_size q_t_sign t_otherSize q_t_other q_t_before t_undoMany t_readSize q_t_read q_t_side q_t_tall q_t_endRow q_t_endColumn q_t_endSide q_t_gone t_lineRow t_lineColumn t_lineSide t_lineMany q_t_ways q_t_codes q_t_many, aI (G.2 1) q_t_sign 36 t_sign, aI (G.2 1) q_t_endRow 12 t_endRow, aI (G.2 1) q_t_endColumn 12 t_endColumn, aI (G.2 1) q_t_endSide 12 t_endSide, aI (G.2 3) q_t_gone 36 t_gone] sz) := by
  refine Met.ofQ (cc := cX6_count) (maxL := 2) (ret := (some .int)) (by decide) rfl ?_
  intro p e s m args below meth c s₁ Q hQ B hml hv
  obtain ⟨rfl, hsz, hP, hKW, hD0⟩ := hv
  have hK := hKW.1
  have hx := B.exec
  have hb := B.bytes
  have hr := B.returns
  have hts := atoms_spec (ws := wsX6_count) B.pre
  have hown : s.vm.findClass RX6 = some m.cls := findClass_of_methodNamed B.named
  have hlocks := B.notSynchronized
  have iX6 : ∀ w ∈ u_ws RX6 TX6 23, w ∈ wsX6_count := by decide +kernel
  have fl_83 := hts (.fieldLink RX6 83 "AlternateSignsModel" "otherSize" "I") (by decide +kernel)
  have fl_66 := hts (.fieldLink RX6 66 "AlternateSignsModel" "length" "I") (by decide +kernel)
  have fl_80 := hts (.fieldLink RX6 80 "AlternateSignsModel" "undoMany" "I") (by decide +kernel)
  have fl_54 := hts (.fieldLink RX6 54 "AlternateSignsModel" "size" "I") (by decide +kernel)
  subst hsz
  have hD := hD0.self (sz := s.heap.size)
  generalize hAe : va_A [oX6 q_t t_length q_t_text t_size q_t_sign t_otherSize q_t_other q_t_before t_undoMany t_readSize q_t_read q_t_side q_t_tall q_t_endRow q_t_endColumn q_t_endSide q_t_gone t_lineRow t_lineColumn t_lineSide t_lineMany q_t_ways q_t_codes q_t_many, aI (G.2 1) q_t_sign 36 t_sign, aI (G.2 1) q_t_endRow 12 t_endRow, aI (G.2 1) q_t_endColumn 12 t_endColumn, aI (G.2 1) q_t_endSide 12 t_endSide, aI (G.2 3) q_t_gone 36 t_gone] s.heap.size = A at hD hQ
  have hA : ∀ q : Nat, s.heap.size ≤ q → A q := fun q h => by rw [← hAe]; exact Or.inr h
  have hS : va_S A s.heap s.heap [] := va_S.rf
  have hl := lv_entry ([.ref q_t, .int p1]) (n := 2) (Nat.le_of_ble_eq_true rfl)
  rw [lg_entry_eq]
  generalize (lg_sl ([.ref q_t, .int p1]) ++ List.replicate (2 - (lg_sl ([.ref q_t, .int p1])).length) Slot.unset).toArray = ls at hl ⊢
  have hl : lv_has ls 2 [(0, .ref q_t), (1, .int p1)] := hl
  unfold S_X6_count at hE
  refine lv_iload_n hx hb dX6_count_0 rfl (lv_at hl 1 rfl) ?_
  by_cases c_1_0 : p1 = (0 : Int32)
  · replace hE := (if_pos c_1_0).symm.trans hE
    refine lv_tableIn (tgt := 64) hx hb dX6_count_1 (by rw [c_1_0]; decide) (by rw [c_1_0]; decide) (by rw [c_1_0]; rfl) (by decide) ?_
    refine lv_aload_n hx hb dX6_count_64 rfl (lv_at hl 0 rfl) ?_
    refine va_get (D := G.1) (ci := 6) (v := .int t_size) (C := RX6) (T := TX6) (N := 23) hx hb hts iX6 hown hK hP 0 rfl rfl 2 (by decide) fl_54 (fun _ h9 => h9) rfl dX6_count_65 ?_
    have e_0 := Option.some.inj hE
    subst e_0
    rw [hQ]
    exact W.iret (v := t_size) hx hb hr (fun t ht _ => ⟨⟨_, (), rfl, rfl, by rw [ht]; exact hP, hD⟩, hS.F ht⟩) hS.2.2 dX6_count_68
  · replace hE := (if_neg c_1_0).symm.trans hE
    by_cases c_1_1 : p1 = (1 : Int32)
    · replace hE := (if_pos c_1_1).symm.trans hE
      refine lv_tableIn (tgt := 69) hx hb dX6_count_1 (by rw [c_1_1]; decide) (by rw [c_1_1]; decide) (by rw [c_1_1]; rfl) (by decide) ?_
      refine lv_aload_n hx hb dX6_count_69 rfl (lv_at hl 0 rfl) ?_
      refine lv_iload_n hx hb dX6_count_70 rfl (lv_at hl 1 rfl) ?_
      obtain ⟨y71, hC_71, hE⟩ := Option.bind_eq_some_iff.mp hE
      obtain ⟨r_71, ex9⟩ : ∃ z, z = y71 := ⟨_, rfl⟩
      subst ex9
      try dsimp only at hE
      refine vp_callSi (va_Run.run (va_runV (As := [.int p1]) (rest := []) ⟨hx, hb, hml, hown, hts⟩ (c_X6_sums (l := l) (G := G) (p1 := p1) (q_t := q_t) (t_length := t_length) (q_t_text := q_t_text) (t_size := t_size) (q_t_sign := q_t_sign) (t_otherSize := t_otherSize) (q_t_other := q_t_other) (q_t_before := q_t_before) (t_undoMany := t_undoMany) (t_readSize := t_readSize) (q_t_read := q_t_read) (q_t_side := q_t_side) (q_t_tall := q_t_tall) (q_t_endRow := q_t_endRow) (q_t_endColumn := q_t_endColumn) (q_t_endSide := q_t_endSide) (q_t_gone := q_t_gone) (t_lineRow := t_lineRow) (t_lineColumn := t_lineColumn) (t_lineSide := t_lineSide) (t_lineMany := t_lineMany) (q_t_ways := q_t_ways) (q_t_codes := q_t_codes) (q_t_many := q_t_many) (t_sign := t_sign) hC_71) (cwV 1 hts gX6_count_X6_sums rfl rfl rfl kd_X6_sums ⟨Nat.le_of_ble_eq_true rfl, Nat.le_of_ble_eq_true rfl⟩) (pv_V hKW (hP.sub (ws' := [oX6 q_t t_length q_t_text t_size q_t_sign t_otherSize q_t_other q_t_before t_undoMany t_readSize q_t_read q_t_side q_t_tall q_t_endRow q_t_endColumn q_t_endSide q_t_gone t_lineRow t_lineColumn t_lineSide t_lineMany q_t_ways q_t_codes q_t_many, aI (G.2 1) q_t_sign 36 t_sign]) [0, 1] rfl) (ci := 6) (q0 := 0) rfl rfl) rfl rfl hl.1 rfl (lv_room (Nat.le_of_ble_eq_true rfl)) dX6_count_71 ⟨Nat.zero_le _, Nat.zero_le _⟩)) (fun r9 hr9 => ?_)
      subst r9
      have e_0 := Option.some.inj hE
      subst e_0
      rw [hQ]
      exact W.iret (v := r_71) hx hb hr (fun t ht _ => ⟨⟨_, (), rfl, rfl, by rw [ht]; exact hP, hD⟩, hS.F ht⟩) hS.2.2 dX6_count_74
    · replace hE := (if_neg c_1_1).symm.trans hE
      by_cases c_1_2 : p1 = (2 : Int32)
      · replace hE := (if_pos c_1_2).symm.trans hE
        refine lv_tableIn (tgt := 69) hx hb dX6_count_1 (by rw [c_1_2]; decide) (by rw [c_1_2]; decide) (by rw [c_1_2]; rfl) (by decide) ?_
        refine lv_aload_n hx hb dX6_count_69 rfl (lv_at hl 0 rfl) ?_
        refine lv_iload_n hx hb dX6_count_70 rfl (lv_at hl 1 rfl) ?_
        obtain ⟨y71, hC_71, hE⟩ := Option.bind_eq_some_iff.mp hE
        obtain ⟨r_71, ex9⟩ : ∃ z, z = y71 := ⟨_, rfl⟩
        subst ex9
        try dsimp only at hE
        refine vp_callSi (va_Run.run (va_runV (As := [.int p1]) (rest := []) ⟨hx, hb, hml, hown, hts⟩ (c_X6_sums (l := l) (G := G) (p1 := p1) (q_t := q_t) (t_length := t_length) (q_t_text := q_t_text) (t_size := t_size) (q_t_sign := q_t_sign) (t_otherSize := t_otherSize) (q_t_other := q_t_other) (q_t_before := q_t_before) (t_undoMany := t_undoMany) (t_readSize := t_readSize) (q_t_read := q_t_read) (q_t_side := q_t_side) (q_t_tall := q_t_tall) (q_t_endRow := q_t_endRow) (q_t_endColumn := q_t_endColumn) (q_t_endSide := q_t_endSide) (q_t_gone := q_t_gone) (t_lineRow := t_lineRow) (t_lineColumn := t_lineColumn) (t_lineSide := t_lineSide) (t_lineMany := t_lineMany) (q_t_ways := q_t_ways) (q_t_codes := q_t_codes) (q_t_many := q_t_many) (t_sign := t_sign) hC_71) (cwV 1 hts gX6_count_X6_sums rfl rfl rfl kd_X6_sums ⟨Nat.le_of_ble_eq_true rfl, Nat.le_of_ble_eq_true rfl⟩) (pv_V hKW (hP.sub (ws' := [oX6 q_t t_length q_t_text t_size q_t_sign t_otherSize q_t_other q_t_before t_undoMany t_readSize q_t_read q_t_side q_t_tall q_t_endRow q_t_endColumn q_t_endSide q_t_gone t_lineRow t_lineColumn t_lineSide t_lineMany q_t_ways q_t_codes q_t_many, aI (G.2 1) q_t_sign 36 t_sign]) [0, 1] rfl) (ci := 6) (q0 := 0) rfl rfl) rfl rfl hl.1 rfl (lv_room (Nat.le_of_ble_eq_true rfl)) dX6_count_71 ⟨Nat.zero_le _, Nat.zero_le _⟩)) (fun r9 hr9 => ?_)
        subst r9
        have e_0 := Option.some.inj hE
        subst e_0
        rw [hQ]
        exact W.iret (v := r_71) hx hb hr (fun t ht _ => ⟨⟨_, (), rfl, rfl, by rw [ht]; exact hP, hD⟩, hS.F ht⟩) hS.2.2 dX6_count_74
      · replace hE := (if_neg c_1_2).symm.trans hE
        by_cases c_1_3 : p1 = (3 : Int32)
        · replace hE := (if_pos c_1_3).symm.trans hE
          refine lv_tableIn (tgt := 75) hx hb dX6_count_1 (by rw [c_1_3]; decide) (by rw [c_1_3]; decide) (by rw [c_1_3]; rfl) (by decide) ?_
          refine lv_aload_n hx hb dX6_count_75 rfl (lv_at hl 0 rfl) ?_
          obtain ⟨y76, hC_76, hE⟩ := Option.bind_eq_some_iff.mp hE
          obtain ⟨r_76, ex9⟩ : ∃ z, z = y76 := ⟨_, rfl⟩
          subst ex9
          try dsimp only at hE
          refine vp_callSi (va_Run.run (va_runV (As := []) (rest := []) ⟨hx, hb, hml, hown, hts⟩ (c_X6_inversions (l := l) (G := G) (q_t := q_t) (t_length := t_length) (q_t_text := q_t_text) (t_size := t_size) (q_t_sign := q_t_sign) (t_otherSize := t_otherSize) (q_t_other := q_t_other) (q_t_before := q_t_before) (t_undoMany := t_undoMany) (t_readSize := t_readSize) (q_t_read := q_t_read) (q_t_side := q_t_side) (q_t_tall := q_t_tall) (q_t_endRow := q_t_endRow) (q_t_endColumn := q_t_endColumn) (q_t_endSide := q_t_endSide) (q_t_gone := q_t_gone) (t_lineRow := t_lineRow) (t_lineColumn := t_lineColumn) (t_lineSide := t_lineSide) (t_lineMany := t_lineMany) (q_t_ways := q_t_ways) (q_t_codes := q_t_codes) (q_t_many := q_t_many) (t_sign := t_sign) hC_76) (cwV 0 hts gX6_count_X6_inversions rfl rfl rfl kd_X6_inversions ⟨Nat.le_of_ble_eq_true rfl, Nat.le_of_ble_eq_true rfl⟩) (pv_V hKW (hP.sub (ws' := [oX6 q_t t_length q_t_text t_size q_t_sign t_otherSize q_t_other q_t_before t_undoMany t_readSize q_t_read q_t_side q_t_tall q_t_endRow q_t_endColumn q_t_endSide q_t_gone t_lineRow t_lineColumn t_lineSide t_lineMany q_t_ways q_t_codes q_t_many, aI (G.2 1) q_t_sign 36 t_sign]) [0, 1] rfl) (ci := 6) (q0 := 0) rfl rfl) rfl rfl hl.1 rfl (lv_room (Nat.le_of_ble_eq_true rfl)) dX6_count_76 ⟨Nat.zero_le _, Nat.zero_le _⟩)) (fun r9 hr9 => ?_)
          subst r9
          have e_0 := Option.some.inj hE
          subst e_0
          rw [hQ]
          exact W.iret (v := r_76) hx hb hr (fun t ht _ => ⟨⟨_, (), rfl, rfl, by rw [ht]; exact hP, hD⟩, hS.F ht⟩) hS.2.2 dX6_count_79
        · replace hE := (if_neg c_1_3).symm.trans hE
          by_cases c_1_4 : p1 = (4 : Int32)
          · replace hE := (if_pos c_1_4).symm.trans hE
            refine lv_tableIn (tgt := 69) hx hb dX6_count_1 (by rw [c_1_4]; decide) (by rw [c_1_4]; decide) (by rw [c_1_4]; rfl) (by decide) ?_
            refine lv_aload_n hx hb dX6_count_69 rfl (lv_at hl 0 rfl) ?_
            refine lv_iload_n hx hb dX6_count_70 rfl (lv_at hl 1 rfl) ?_
            obtain ⟨y71, hC_71, hE⟩ := Option.bind_eq_some_iff.mp hE
            obtain ⟨r_71, ex9⟩ : ∃ z, z = y71 := ⟨_, rfl⟩
            subst ex9
            try dsimp only at hE
            refine vp_callSi (va_Run.run (va_runV (As := [.int p1]) (rest := []) ⟨hx, hb, hml, hown, hts⟩ (c_X6_sums (l := l) (G := G) (p1 := p1) (q_t := q_t) (t_length := t_length) (q_t_text := q_t_text) (t_size := t_size) (q_t_sign := q_t_sign) (t_otherSize := t_otherSize) (q_t_other := q_t_other) (q_t_before := q_t_before) (t_undoMany := t_undoMany) (t_readSize := t_readSize) (q_t_read := q_t_read) (q_t_side := q_t_side) (q_t_tall := q_t_tall) (q_t_endRow := q_t_endRow) (q_t_endColumn := q_t_endColumn) (q_t_endSide := q_t_endSide) (q_t_gone := q_t_gone) (t_lineRow := t_lineRow) (t_lineColumn := t_lineColumn) (t_lineSide := t_lineSide) (t_lineMany := t_lineMany) (q_t_ways := q_t_ways) (q_t_codes := q_t_codes) (q_t_many := q_t_many) (t_sign := t_sign) hC_71) (cwV 1 hts gX6_count_X6_sums rfl rfl rfl kd_X6_sums ⟨Nat.le_of_ble_eq_true rfl, Nat.le_of_ble_eq_true rfl⟩) (pv_V hKW (hP.sub (ws' := [oX6 q_t t_length q_t_text t_size q_t_sign t_otherSize q_t_other q_t_before t_undoMany t_readSize q_t_read q_t_side q_t_tall q_t_endRow q_t_endColumn q_t_endSide q_t_gone t_lineRow t_lineColumn t_lineSide t_lineMany q_t_ways q_t_codes q_t_many, aI (G.2 1) q_t_sign 36 t_sign]) [0, 1] rfl) (ci := 6) (q0 := 0) rfl rfl) rfl rfl hl.1 rfl (lv_room (Nat.le_of_ble_eq_true rfl)) dX6_count_71 ⟨Nat.zero_le _, Nat.zero_le _⟩)) (fun r9 hr9 => ?_)
            subst r9
            have e_0 := Option.some.inj hE
            subst e_0
            rw [hQ]
            exact W.iret (v := r_71) hx hb hr (fun t ht _ => ⟨⟨_, (), rfl, rfl, by rw [ht]; exact hP, hD⟩, hS.F ht⟩) hS.2.2 dX6_count_74
          · replace hE := (if_neg c_1_4).symm.trans hE
            by_cases c_1_5 : p1 = (5 : Int32)
            · replace hE := (if_pos c_1_5).symm.trans hE
              refine lv_tableIn (tgt := 80) hx hb dX6_count_1 (by rw [c_1_5]; decide) (by rw [c_1_5]; decide) (by rw [c_1_5]; rfl) (by decide) ?_
              refine lv_aload_n hx hb dX6_count_80 rfl (lv_at hl 0 rfl) ?_
              refine va_get (D := G.1) (ci := 6) (v := .int t_undoMany) (C := RX6) (T := TX6) (N := 23) hx hb hts iX6 hown hK hP 0 rfl rfl 7 (by decide) fl_80 (fun _ h9 => h9) rfl dX6_count_81 ?_
              have e_0 := Option.some.inj hE
              subst e_0
              rw [hQ]
              exact W.iret (v := t_undoMany) hx hb hr (fun t ht _ => ⟨⟨_, (), rfl, rfl, by rw [ht]; exact hP, hD⟩, hS.F ht⟩) hS.2.2 dX6_count_84
            · replace hE := (if_neg c_1_5).symm.trans hE
              by_cases c_1_6 : p1 = (6 : Int32)
              · replace hE := (if_pos c_1_6).symm.trans hE
                refine lv_tableIn (tgt := 85) hx hb dX6_count_1 (by rw [c_1_6]; decide) (by rw [c_1_6]; decide) (by rw [c_1_6]; rfl) (by decide) ?_
                refine lv_aload_n hx hb dX6_count_85 rfl (lv_at hl 0 rfl) ?_
                refine va_get (D := G.1) (ci := 6) (v := .int t_length) (C := RX6) (T := TX6) (N := 23) hx hb hts iX6 hown hK hP 0 rfl rfl 0 (by decide) fl_66 (fun _ h9 => h9) rfl dX6_count_86 ?_
                have e_0 := Option.some.inj hE
                subst e_0
                rw [hQ]
                exact W.iret (v := t_length) hx hb hr (fun t ht _ => ⟨⟨_, (), rfl, rfl, by rw [ht]; exact hP, hD⟩, hS.F ht⟩) hS.2.2 dX6_count_89
              · replace hE := (if_neg c_1_6).symm.trans hE
                by_cases c_1_7 : p1 = (7 : Int32)
                · replace hE := (if_pos c_1_7).symm.trans hE
                  refine lv_tableIn (tgt := 90) hx hb dX6_count_1 (by rw [c_1_7]; decide) (by rw [c_1_7]; decide) (by rw [c_1_7]; rfl) (by decide) ?_
                  refine lv_aload_n hx hb dX6_count_90 rfl (lv_at hl 0 rfl) ?_
                  refine va_get (D := G.1) (ci := 6) (v := .int t_otherSize) (C := RX6) (T := TX6) (N := 23) hx hb hts iX6 hown hK hP 0 rfl rfl 4 (by decide) fl_83 (fun _ h9 => h9) rfl dX6_count_91 ?_
                  have e_0 := Option.some.inj hE
                  subst e_0
                  rw [hQ]
                  exact W.iret (v := t_otherSize) hx hb hr (fun t ht _ => ⟨⟨_, (), rfl, rfl, by rw [ht]; exact hP, hD⟩, hS.F ht⟩) hS.2.2 dX6_count_94
                · replace hE := (if_neg c_1_7).symm.trans hE
                  by_cases c_1_8 : p1 = (8 : Int32)
                  · replace hE := (if_pos c_1_8).symm.trans hE
                    refine lv_tableIn (tgt := 95) hx hb dX6_count_1 (by rw [c_1_8]; decide) (by rw [c_1_8]; decide) (by rw [c_1_8]; rfl) (by decide) ?_
                    refine lv_aload_n hx hb dX6_count_95 rfl (lv_at hl 0 rfl) ?_
                    refine lv_iconst (v := 1) hx hb dX6_count_96 (by decide) ?_
                    obtain ⟨y97, hC_97, hE⟩ := Option.bind_eq_some_iff.mp hE
                    obtain ⟨r_97, ex9⟩ : ∃ z, z = y97 := ⟨_, rfl⟩
                    subst ex9
                    try dsimp only at hE
                    refine vp_callSi (va_Run.run (va_runV (As := [.int (1 : Int32)]) (rest := []) ⟨hx, hb, hml, hown, hts⟩ (c_X6_sums (l := l) (G := G) (p1 := (1 : Int32)) (q_t := q_t) (t_length := t_length) (q_t_text := q_t_text) (t_size := t_size) (q_t_sign := q_t_sign) (t_otherSize := t_otherSize) (q_t_other := q_t_other) (q_t_before := q_t_before) (t_undoMany := t_undoMany) (t_readSize := t_readSize) (q_t_read := q_t_read) (q_t_side := q_t_side) (q_t_tall := q_t_tall) (q_t_endRow := q_t_endRow) (q_t_endColumn := q_t_endColumn) (q_t_endSide := q_t_endSide) (q_t_gone := q_t_gone) (t_lineRow := t_lineRow) (t_lineColumn := t_lineColumn) (t_lineSide := t_lineSide) (t_lineMany := t_lineMany) (q_t_ways := q_t_ways) (q_t_codes := q_t_codes) (q_t_many := q_t_many) (t_sign := t_sign) hC_97) (cwV 1 hts gX6_count_X6_sums rfl rfl rfl kd_X6_sums ⟨Nat.le_of_ble_eq_true rfl, Nat.le_of_ble_eq_true rfl⟩) (pv_V hKW (hP.sub (ws' := [oX6 q_t t_length q_t_text t_size q_t_sign t_otherSize q_t_other q_t_before t_undoMany t_readSize q_t_read q_t_side q_t_tall q_t_endRow q_t_endColumn q_t_endSide q_t_gone t_lineRow t_lineColumn t_lineSide t_lineMany q_t_ways q_t_codes q_t_many, aI (G.2 1) q_t_sign 36 t_sign]) [0, 1] rfl) (ci := 6) (q0 := 0) rfl rfl) rfl rfl hl.1 rfl (lv_room (Nat.le_of_ble_eq_true rfl)) dX6_count_97 ⟨Nat.zero_le _, Nat.zero_le _⟩)) (fun r9 hr9 => ?_)
                    subst r9
                    refine lv_if_ne (tgt := 107) hx hb dX6_count_100 (by decide) (fun c_100 => ?_) (fun c_100 => ?_)
                    · replace hE := (if_neg c_100).symm.trans hE
                      refine lv_iconst (v := 0) hx hb dX6_count_107 (by decide) ?_
                      have e_0 := Option.some.inj hE
                      subst e_0
                      rw [hQ]
                      exact W.iret (v := (0 : Int32)) hx hb hr (fun t ht _ => ⟨⟨_, (), rfl, rfl, by rw [ht]; exact hP, hD⟩, hS.F ht⟩) hS.2.2 dX6_count_108
                    · replace hE := (if_pos c_100).symm.trans hE
                      refine lv_iconst (v := 1) hx hb dX6_count_103 (by decide) ?_
                      refine lv_goto (tgt := 108) hx hb dX6_count_104 (by decide) ?_
                      have e_0 := Option.some.inj hE
                      subst e_0
                      rw [hQ]
                      exact W.iret (v := (1 : Int32)) hx hb hr (fun t ht _ => ⟨⟨_, (), rfl, rfl, by rw [ht]; exact hP, hD⟩, hS.F ht⟩) hS.2.2 dX6_count_108
                  · replace hE := (if_neg c_1_8).symm.trans hE
                    by_cases c_1_9 : p1 = (9 : Int32)
                    · replace hE := (if_pos c_1_9).symm.trans hE
                      refine lv_tableIn (tgt := 109) hx hb dX6_count_1 (by rw [c_1_9]; decide) (by rw [c_1_9]; decide) (by rw [c_1_9]; rfl) (by decide) ?_
                      refine lv_aload_n hx hb dX6_count_109 rfl (lv_at hl 0 rfl) ?_
                      obtain ⟨y110, hC_110, hE⟩ := Option.bind_eq_some_iff.mp hE
                      obtain ⟨r_110, ex9⟩ : ∃ z, z = y110 := ⟨_, rfl⟩
                      subst ex9
                      try dsimp only at hE
                      refine vp_callSi (va_Run.run (va_runV (As := []) (rest := []) ⟨hx, hb, hml, hown, hts⟩ (c_X6_drawn (l := l) (G := G) (q_t := q_t) (t_length := t_length) (q_t_text := q_t_text) (t_size := t_size) (q_t_sign := q_t_sign) (t_otherSize := t_otherSize) (q_t_other := q_t_other) (q_t_before := q_t_before) (t_undoMany := t_undoMany) (t_readSize := t_readSize) (q_t_read := q_t_read) (q_t_side := q_t_side) (q_t_tall := q_t_tall) (q_t_endRow := q_t_endRow) (q_t_endColumn := q_t_endColumn) (q_t_endSide := q_t_endSide) (q_t_gone := q_t_gone) (t_lineRow := t_lineRow) (t_lineColumn := t_lineColumn) (t_lineSide := t_lineSide) (t_lineMany := t_lineMany) (q_t_ways := q_t_ways) (q_t_codes := q_t_codes) (q_t_many := q_t_many) (t_sign := t_sign) hC_110) (cwV 0 hts gX6_count_X6_drawn rfl rfl rfl kd_X6_drawn ⟨Nat.le_of_ble_eq_true rfl, Nat.le_of_ble_eq_true rfl⟩) (pv_V hKW (hP.sub (ws' := [oX6 q_t t_length q_t_text t_size q_t_sign t_otherSize q_t_other q_t_before t_undoMany t_readSize q_t_read q_t_side q_t_tall q_t_endRow q_t_endColumn q_t_endSide q_t_gone t_lineRow t_lineColumn t_lineSide t_lineMany q_t_ways q_t_codes q_t_many, aI (G.2 1) q_t_sign 36 t_sign]) [0, 1] rfl) (ci := 6) (q0 := 0) rfl rfl) rfl rfl hl.1 rfl (lv_room (Nat.le_of_ble_eq_true rfl)) dX6_count_110 ⟨Nat.zero_le _, Nat.zero_le _⟩)) (fun r9 hr9 => ?_)
                      subst r9
                      have e_0 := Option.some.inj hE
                      subst e_0
                      rw [hQ]
                      exact W.iret (v := r_110) hx hb hr (fun t ht _ => ⟨⟨_, (), rfl, rfl, by rw [ht]; exact hP, hD⟩, hS.F ht⟩) hS.2.2 dX6_count_113
                    · replace hE := (if_neg c_1_9).symm.trans hE
                      by_cases c_1_10 : p1 = (10 : Int32)
                      · replace hE := (if_pos c_1_10).symm.trans hE
                        refine lv_tableIn (tgt := 114) hx hb dX6_count_1 (by rw [c_1_10]; decide) (by rw [c_1_10]; decide) (by rw [c_1_10]; rfl) (by decide) ?_
                        refine lv_aload_n hx hb dX6_count_114 rfl (lv_at hl 0 rfl) ?_
                        refine lv_iload_n hx hb dX6_count_115 rfl (lv_at hl 1 rfl) ?_
                        refine lv_bipush (v := 10) hx hb dX6_count_116 (by decide) ?_
                        refine lv_isub hx hb dX6_count_118 ?_
                        obtain ⟨y119, hC_119, hE⟩ := Option.bind_eq_some_iff.mp hE
                        obtain ⟨r_119, m_119_0, m_119_1, m_119_2, m_119_3, m_119_4, m_119_5, m_119_6, m_119_7⟩ := y119
                        try dsimp only at hE
                        have hPc := hP.sub (ws' := [oX6 q_t t_length q_t_text t_size q_t_sign t_otherSize q_t_other q_t_before t_undoMany t_readSize q_t_read q_t_side q_t_tall q_t_endRow q_t_endColumn q_t_endSide q_t_gone t_lineRow t_lineColumn t_lineSide t_lineMany q_t_ways q_t_codes q_t_many, aI (G.2 1) q_t_sign 36 t_sign, aI (G.2 1) q_t_endRow 12 t_endRow, aI (G.2 1) q_t_endColumn 12 t_endColumn, aI (G.2 1) q_t_endSide 12 t_endSide, aI (G.2 3) q_t_gone 36 t_gone]) [0, 1, 2, 3, 4, 5] rfl
                        have hDc := hD.sub (ws' := [oX6 q_t t_length q_t_text t_size q_t_sign t_otherSize q_t_other q_t_before t_undoMany t_readSize q_t_read q_t_side q_t_tall q_t_endRow q_t_endColumn q_t_endSide q_t_gone t_lineRow t_lineColumn t_lineSide t_lineMany q_t_ways q_t_codes q_t_many, aI (G.2 1) q_t_sign 36 t_sign, aI (G.2 1) q_t_endRow 12 t_endRow, aI (G.2 1) q_t_endColumn 12 t_endColumn, aI (G.2 1) q_t_endSide 12 t_endSide, aI (G.2 3) q_t_gone 36 t_gone]) [0, 1, 2, 3, 4, 5] (by decide) rfl
                        have hFc := va_free (wc := [oX6 q_t t_length q_t_text t_size q_t_sign t_otherSize q_t_other q_t_before t_undoMany t_readSize q_t_read q_t_side q_t_tall q_t_endRow q_t_endColumn q_t_endSide q_t_gone t_lineRow t_lineColumn t_lineSide t_lineMany q_t_ways q_t_codes q_t_many, aI (G.2 1) q_t_sign 36 t_sign, aI (G.2 1) q_t_endRow 12 t_endRow, aI (G.2 1) q_t_endColumn 12 t_endColumn, aI (G.2 1) q_t_endSide 12 t_endSide, aI (G.2 3) q_t_gone 36 t_gone]) hD hS hA [0, 1, 2, 3, 4, 5] rfl
                        refine va_calli (va_runV (As := [.int (p1 - (10 : Int32))]) (rest := []) ⟨hx, hb, hml, hown, hts⟩ (c_X6_rings (l := l) (G := G) _ (p1 := p1 - (10 : Int32)) (q_t := q_t) (t_length := t_length) (q_t_text := q_t_text) (t_size := t_size) (q_t_sign := q_t_sign) (t_otherSize := t_otherSize) (q_t_other := q_t_other) (q_t_before := q_t_before) (t_undoMany := t_undoMany) (t_readSize := t_readSize) (q_t_read := q_t_read) (q_t_side := q_t_side) (q_t_tall := q_t_tall) (q_t_endRow := q_t_endRow) (q_t_endColumn := q_t_endColumn) (q_t_endSide := q_t_endSide) (q_t_gone := q_t_gone) (t_lineRow := t_lineRow) (t_lineColumn := t_lineColumn) (t_lineSide := t_lineSide) (t_lineMany := t_lineMany) (q_t_ways := q_t_ways) (q_t_codes := q_t_codes) (q_t_many := q_t_many) (t_sign := t_sign) (t_endRow := t_endRow) (t_endColumn := t_endColumn) (t_endSide := t_endSide) (t_gone := t_gone) hC_119) (cwV 1 hts gX6_count_X6_rings rfl rfl rfl kd_X6_rings ⟨Nat.le_of_ble_eq_true rfl, Nat.le_of_ble_eq_true rfl⟩) (iv_V hKW hPc hDc (ci := 6) (q0 := 0) rfl rfl) rfl rfl hl.1 rfl (lv_room (Nat.le_of_ble_eq_true rfl)) dX6_count_119 ⟨Nat.zero_le _, Nat.zero_le _⟩) hS (fun q _ h => hFc q h) hFc (fun r9 u9 t9 H1 locs ht9 hvm9 hw9 hB9 hz9 hk9 hS => ?_)
                        subst r9
                        obtain ⟨hP1, hD1⟩ := hB9
                        rw [ht9] at hP1
                        obtain ⟨hP, hD⟩ := va_join (wr := []) (w1 := [oX6 q_t t_length q_t_text t_size q_t_sign t_otherSize q_t_other q_t_before t_undoMany t_readSize q_t_read q_t_side q_t_tall q_t_endRow q_t_endColumn q_t_endSide q_t_gone m_119_0 m_119_1 m_119_2 m_119_3 q_t_ways q_t_codes q_t_many, aI (G.2 1) q_t_sign 36 t_sign, aI (G.2 1) q_t_endRow 12 m_119_4, aI (G.2 1) q_t_endColumn 12 m_119_5, aI (G.2 1) q_t_endSide 12 m_119_6, aI (G.2 3) q_t_gone 36 m_119_7]) hP hD [0, 1, 2, 3, 4, 5] [] rfl rfl (by decide) (by decide) hk9 hFc hP1 hD1
                        have hP := hP.sub (ws' := [oX6 q_t t_length q_t_text t_size q_t_sign t_otherSize q_t_other q_t_before t_undoMany t_readSize q_t_read q_t_side q_t_tall q_t_endRow q_t_endColumn q_t_endSide q_t_gone m_119_0 m_119_1 m_119_2 m_119_3 q_t_ways q_t_codes q_t_many, aI (G.2 1) q_t_sign 36 t_sign, aI (G.2 1) q_t_endRow 12 m_119_4, aI (G.2 1) q_t_endColumn 12 m_119_5, aI (G.2 1) q_t_endSide 12 m_119_6, aI (G.2 3) q_t_gone 36 m_119_7]) [0, 1, 2, 3, 4, 5] rfl
                        have hD := hD.sub (ws' := [oX6 q_t t_length q_t_text t_size q_t_sign t_otherSize q_t_other q_t_before t_undoMany t_readSize q_t_read q_t_side q_t_tall q_t_endRow q_t_endColumn q_t_endSide q_t_gone m_119_0 m_119_1 m_119_2 m_119_3 q_t_ways q_t_codes q_t_many, aI (G.2 1) q_t_sign 36 t_sign, aI (G.2 1) q_t_endRow 12 m_119_4, aI (G.2 1) q_t_endColumn 12 m_119_5, aI (G.2 1) q_t_endSide 12 m_119_6, aI (G.2 3) q_t_gone 36 m_119_7]) [0, 1, 2, 3, 4, 5] (by decide) rfl
                        clear hPc hDc hFc hP1 hD1 hk9 hz9 hvm9
                        have e_0 := Option.some.inj hE
                        subst e_0
                        rw [hQ]
                        exact W.iret (v := r_119) hx hb hr (fun t ht _ => ⟨⟨_, (), rfl, rfl, by rw [ht]; exact hP, hD⟩, hS.F ht⟩) hS.2.2 dX6_count_122
                      · replace hE := (if_neg c_1_10).symm.trans hE
                        by_cases c_1_11 : p1 = (11 : Int32)
                        · replace hE := (if_pos c_1_11).symm.trans hE
                          refine lv_tableIn (tgt := 114) hx hb dX6_count_1 (by rw [c_1_11]; decide) (by rw [c_1_11]; decide) (by rw [c_1_11]; rfl) (by decide) ?_
                          refine lv_aload_n hx hb dX6_count_114 rfl (lv_at hl 0 rfl) ?_
                          refine lv_iload_n hx hb dX6_count_115 rfl (lv_at hl 1 rfl) ?_
                          refine lv_bipush (v := 10) hx hb dX6_count_116 (by decide) ?_
                          refine lv_isub hx hb dX6_count_118 ?_
                          obtain ⟨y119, hC_119, hE⟩ := Option.bind_eq_some_iff.mp hE
                          obtain ⟨r_119, m_119_0, m_119_1, m_119_2, m_119_3, m_119_4, m_119_5, m_119_6, m_119_7⟩ := y119
                          try dsimp only at hE
                          have hPc := hP.sub (ws' := [oX6 q_t t_length q_t_text t_size q_t_sign t_otherSize q_t_other q_t_before t_undoMany t_readSize q_t_read q_t_side q_t_tall q_t_endRow q_t_endColumn q_t_endSide q_t_gone t_lineRow t_lineColumn t_lineSide t_lineMany q_t_ways q_t_codes q_t_many, aI (G.2 1) q_t_sign 36 t_sign, aI (G.2 1) q_t_endRow 12 t_endRow, aI (G.2 1) q_t_endColumn 12 t_endColumn, aI (G.2 1) q_t_endSide 12 t_endSide, aI (G.2 3) q_t_gone 36 t_gone]) [0, 1, 2, 3, 4, 5] rfl
                          have hDc := hD.sub (ws' := [oX6 q_t t_length q_t_text t_size q_t_sign t_otherSize q_t_other q_t_before t_undoMany t_readSize q_t_read q_t_side q_t_tall q_t_endRow q_t_endColumn q_t_endSide q_t_gone t_lineRow t_lineColumn t_lineSide t_lineMany q_t_ways q_t_codes q_t_many, aI (G.2 1) q_t_sign 36 t_sign, aI (G.2 1) q_t_endRow 12 t_endRow, aI (G.2 1) q_t_endColumn 12 t_endColumn, aI (G.2 1) q_t_endSide 12 t_endSide, aI (G.2 3) q_t_gone 36 t_gone]) [0, 1, 2, 3, 4, 5] (by decide) rfl
                          have hFc := va_free (wc := [oX6 q_t t_length q_t_text t_size q_t_sign t_otherSize q_t_other q_t_before t_undoMany t_readSize q_t_read q_t_side q_t_tall q_t_endRow q_t_endColumn q_t_endSide q_t_gone t_lineRow t_lineColumn t_lineSide t_lineMany q_t_ways q_t_codes q_t_many, aI (G.2 1) q_t_sign 36 t_sign, aI (G.2 1) q_t_endRow 12 t_endRow, aI (G.2 1) q_t_endColumn 12 t_endColumn, aI (G.2 1) q_t_endSide 12 t_endSide, aI (G.2 3) q_t_gone 36 t_gone]) hD hS hA [0, 1, 2, 3, 4, 5] rfl
                          refine va_calli (va_runV (As := [.int (p1 - (10 : Int32))]) (rest := []) ⟨hx, hb, hml, hown, hts⟩ (c_X6_rings (l := l) (G := G) _ (p1 := p1 - (10 : Int32)) (q_t := q_t) (t_length := t_length) (q_t_text := q_t_text) (t_size := t_size) (q_t_sign := q_t_sign) (t_otherSize := t_otherSize) (q_t_other := q_t_other) (q_t_before := q_t_before) (t_undoMany := t_undoMany) (t_readSize := t_readSize) (q_t_read := q_t_read) (q_t_side := q_t_side) (q_t_tall := q_t_tall) (q_t_endRow := q_t_endRow) (q_t_endColumn := q_t_endColumn) (q_t_endSide := q_t_endSide) (q_t_gone := q_t_gone) (t_lineRow := t_lineRow) (t_lineColumn := t_lineColumn) (t_lineSide := t_lineSide) (t_lineMany := t_lineMany) (q_t_ways := q_t_ways) (q_t_codes := q_t_codes) (q_t_many := q_t_many) (t_sign := t_sign) (t_endRow := t_endRow) (t_endColumn := t_endColumn) (t_endSide := t_endSide) (t_gone := t_gone) hC_119) (cwV 1 hts gX6_count_X6_rings rfl rfl rfl kd_X6_rings ⟨Nat.le_of_ble_eq_true rfl, Nat.le_of_ble_eq_true rfl⟩) (iv_V hKW hPc hDc (ci := 6) (q0 := 0) rfl rfl) rfl rfl hl.1 rfl (lv_room (Nat.le_of_ble_eq_true rfl)) dX6_count_119 ⟨Nat.zero_le _, Nat.zero_le _⟩) hS (fun q _ h => hFc q h) hFc (fun r9 u9 t9 H1 locs ht9 hvm9 hw9 hB9 hz9 hk9 hS => ?_)
                          subst r9
                          obtain ⟨hP1, hD1⟩ := hB9
                          rw [ht9] at hP1
                          obtain ⟨hP, hD⟩ := va_join (wr := []) (w1 := [oX6 q_t t_length q_t_text t_size q_t_sign t_otherSize q_t_other q_t_before t_undoMany t_readSize q_t_read q_t_side q_t_tall q_t_endRow q_t_endColumn q_t_endSide q_t_gone m_119_0 m_119_1 m_119_2 m_119_3 q_t_ways q_t_codes q_t_many, aI (G.2 1) q_t_sign 36 t_sign, aI (G.2 1) q_t_endRow 12 m_119_4, aI (G.2 1) q_t_endColumn 12 m_119_5, aI (G.2 1) q_t_endSide 12 m_119_6, aI (G.2 3) q_t_gone 36 m_119_7]) hP hD [0, 1, 2, 3, 4, 5] [] rfl rfl (by decide) (by decide) hk9 hFc hP1 hD1
                          have hP := hP.sub (ws' := [oX6 q_t t_length q_t_text t_size q_t_sign t_otherSize q_t_other q_t_before t_undoMany t_readSize q_t_read q_t_side q_t_tall q_t_endRow q_t_endColumn q_t_endSide q_t_gone m_119_0 m_119_1 m_119_2 m_119_3 q_t_ways q_t_codes q_t_many, aI (G.2 1) q_t_sign 36 t_sign, aI (G.2 1) q_t_endRow 12 m_119_4, aI (G.2 1) q_t_endColumn 12 m_119_5, aI (G.2 1) q_t_endSide 12 m_119_6, aI (G.2 3) q_t_gone 36 m_119_7]) [0, 1, 2, 3, 4, 5] rfl
                          have hD := hD.sub (ws' := [oX6 q_t t_length q_t_text t_size q_t_sign t_otherSize q_t_other q_t_before t_undoMany t_readSize q_t_read q_t_side q_t_tall q_t_endRow q_t_endColumn q_t_endSide q_t_gone m_119_0 m_119_1 m_119_2 m_119_3 q_t_ways q_t_codes q_t_many, aI (G.2 1) q_t_sign 36 t_sign, aI (G.2 1) q_t_endRow 12 m_119_4, aI (G.2 1) q_t_endColumn 12 m_119_5, aI (G.2 1) q_t_endSide 12 m_119_6, aI (G.2 3) q_t_gone 36 m_119_7]) [0, 1, 2, 3, 4, 5] (by decide) rfl
                          clear hPc hDc hFc hP1 hD1 hk9 hz9 hvm9
                          have e_0 := Option.some.inj hE
                          subst e_0
                          rw [hQ]
                          exact W.iret (v := r_119) hx hb hr (fun t ht _ => ⟨⟨_, (), rfl, rfl, by rw [ht]; exact hP, hD⟩, hS.F ht⟩) hS.2.2 dX6_count_122
                        · replace hE := (if_neg c_1_11).symm.trans hE
                          refine lv_tableOut (tgt := 123) hx hb dX6_count_1 (by have n_0 := lv_neT c_1_0 (a := 0) (by decide); have n_1 := lv_neT c_1_1 (a := 1) (by decide); have n_2 := lv_neT c_1_2 (a := 2) (by decide); have n_3 := lv_neT c_1_3 (a := 3) (by decide); have n_4 := lv_neT c_1_4 (a := 4) (by decide); have n_5 := lv_neT c_1_5 (a := 5) (by decide); have n_6 := lv_neT c_1_6 (a := 6) (by decide); have n_7 := lv_neT c_1_7 (a := 7) (by decide); have n_8 := lv_neT c_1_8 (a := 8) (by decide); have n_9 := lv_neT c_1_9 (a := 9) (by decide); have n_10 := lv_neT c_1_10 (a := 10) (by decide); have n_11 := lv_neT c_1_11 (a := 11) (by decide); omega) (by decide) ?_
                          refine lv_iconst (v := -1) hx hb dX6_count_123 (by decide) ?_
                          have e_0 := Option.some.inj hE
                          subst e_0
                          rw [hQ]
                          exact W.iret (v := (-1 : Int32)) hx hb hr (fun t ht _ => ⟨⟨_, (), rfl, rfl, by rw [ht]; exact hP, hD⟩, hS.F ht⟩) hS.2.2 dX6_count_124
