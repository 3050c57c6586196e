def S_X6_in (p1 : Int64) (p2 : Int64) (p3 : Int64) : Option Int32 := if (lg_cmp p1 p2) < 0 then some (0 : Int32) else if 0 < (lg_cmp p1 p3) then some (0 : Int32) else some (1 : Int32)
theorem kd_X6_in : yX6_in.cls ≠ "java/lang/invoke/MethodHandle" ∧ yX6_in.cls ≠ "java/lang/invoke/VarHandle" ∧ (parseMethodDescriptor yX6_in.desc).map (fun d => d.parameters.length) = some 3 := by decide +kernel
set_option maxHeartbeats 4000000 in
set_option maxRecDepth 100000 in
theorem c_X6_in {l : Launch} {G : kG} {p1 : Int64} {p2 : Int64} {p3 : Int64} {res : Int32} (hE : S_X6_in p1 p2 p3 = some res) : Met l yX6_in wsX6_in ({ frames := 0, cells := 0, slots := 0, locals := 0 }) (va_Pc [.long p1, .long p2, .long p3] (fun U => va_P G.1 vwCl [] U.heap ∧ kw G U)) (vp_Si (fun r => r = res)) 0 0 (fun _ => False) := by
  refine Met.ofQ (cc := cX6_in) (maxL := 6) (ret := (some .boolean)) (by decide) rfl ?_
  intro p e s m args below meth c s₁ Q hQ B hml hv
  obtain ⟨rfl, hP, hKW⟩ := hv
  have hK := hKW.1
  have hx := B.exec
  have hb := B.bytes
  have hr := B.returns
  have hts := atoms_spec (ws := wsX6_in) B.pre
  have hown : s.vm.findClass RX6 = some m.cls := findClass_of_methodNamed B.named
  have hlocks := B.notSynchronized
  have hl := lv_entry ([.long p1, .long p2, .long p3]) (n := 6) (Nat.le_of_ble_eq_true rfl)
  rw [lg_entry_eq]
  generalize (lg_sl ([.long p1, .long p2, .long p3]) ++ List.replicate (6 - (lg_sl ([.long p1, .long p2, .long p3])).length) Slot.unset).toArray = ls at hl ⊢
  have hl : lv_has ls 6 [(0, .long p1), (2, .long p2), (4, .long p3)] := hl
  unfold S_X6_in at hE
  refine lv_lload_n hx hb dX6_in_0 rfl (lv_at hl 0 rfl) ?_
  refine lv_lload_n hx hb dX6_in_1 rfl (lv_at hl 1 rfl) ?_
  refine W.lcmp hx hb dX6_in_2 ?_
  refine lv_if_lt (tgt := 17) hx hb dX6_in_3 (by decide) (fun c_3 => ?_) (fun c_3 => ?_)
  · replace hE := (if_pos c_3).symm.trans hE
    refine lv_iconst (v := 0) hx hb dX6_in_17 (by decide) ?_
    have e_0 := Option.some.inj hE
    rw [hQ]
    exact W.zret (v := (0 : Int32)) hx hb hr rfl (fun t ht _ => ⟨_, rfl, e_0, ht⟩) (fun q h => by cases h) dX6_in_18
  · replace hE := (if_neg c_3).symm.trans hE
    refine lv_lload_n hx hb dX6_in_6 rfl (lv_at hl 0 rfl) ?_
    refine lv_lload hx hb dX6_in_7 (lv_at hl 2 rfl) ?_
    refine W.lcmp hx hb dX6_in_9 ?_
    refine lv_if_gt (tgt := 17) hx hb dX6_in_10 (by decide) (fun c_10 => ?_) (fun c_10 => ?_)
    · replace hE := (if_pos c_10).symm.trans hE
      refine lv_iconst (v := 0) hx hb dX6_in_17 (by decide) ?_
      have e_0 := Option.some.inj hE
      rw [hQ]
      exact W.zret (v := (0 : Int32)) hx hb hr rfl (fun t ht _ => ⟨_, rfl, e_0, ht⟩) (fun q h => by cases h) dX6_in_18
    · replace hE := (if_neg c_10).symm.trans hE
      refine lv_iconst (v := 1) hx hb dX6_in_13 (by decide) ?_
      refine lv_goto (tgt := 18) hx hb dX6_in_14 (by decide) ?_
      have e_0 := Option.some.inj hE
      rw [hQ]
      exact W.zret (v := (1 : Int32)) hx hb hr rfl (fun t ht _ => ⟨_, rfl, e_0, ht⟩) (fun q h => by cases h) dX6_in_18
def S_X6_write (p1 : Int32) (t_length : Int32) (t_text : Nat → Int32) : Option (Int32 × Int32 × (Nat → Int32)) := (S_X6_in p1.toInt64 (32 : Int64) (126 : Int64)).bind (fun (y8 : Int32) => if y8 = 0 then some ((-1 : Int32), t_length, t_text) else if t_length = (200 : Int32) then some ((-3 : Int32), t_length, t_text) else ck (inb t_length 200) (some (t_length + (1 : Int32), t_length + (1 : Int32), upd t_text t_length.toNatClampNeg p1)))
theorem kd_X6_write : yX6_write.cls = RX6 ∧ yX6_write.cls ≠ "java/lang/invoke/MethodHandle" ∧ yX6_write.cls ≠ "java/lang/invoke/VarHandle" ∧ (parseMethodDescriptor yX6_write.desc).map (fun d => d.parameters.length) = some 1 := by decide +kernel
set_option maxHeartbeats 4000000 in
set_option maxRecDepth 100000 in
theorem c_X6_write {l : Launch} {G : kG} (sz : Nat) {p1 : Int32} {q_t : Nat} {t_length : Int32} {q_t_text : Nat} {t_size : Int32} {q_t_sign : Nat} {t_otherSize : Int32} {q_t_other : Nat} {q_t_before : Nat} {t_undoMany : Int32} {t_readSize : Int32} {q_t_read : Nat} {q_t_side : Nat} {q_t_tall : Nat} {q_t_endRow : Nat} {q_t_endColumn : Nat} {q_t_endSide : Nat} {q_t_gone : Nat} {t_lineRow : Int32} {t_lineColumn : Int32} {t_lineSide : Int32} {t_lineMany : Int32} {q_t_ways : Nat} {q_t_codes : Nat} {q_t_many : Nat} {t_text : Nat → Int32} {res : Int32 × Int32 × (Nat → Int32)} (hE : S_X6_write p1 t_length t_text = some res) : Met l yX6_write wsX6_write ({ frames := 1, cells := 0, slots := 0, locals := 25 }) (va_Pc [.ref q_t, .int p1] (fun U => U.heap.size = sz ∧ va_P G.1 vwCl [oX6 q_t t_length q_t_text t_size q_t_sign t_otherSize q_t_other q_t_before t_undoMany t_readSize q_t_read q_t_side q_t_tall q_t_endRow q_t_endColumn q_t_endSide q_t_gone t_lineRow t_lineColumn t_lineSide t_lineMany q_t_ways q_t_codes q_t_many, aI (G.2 1) q_t_text 200 t_text] U.heap ∧ kw G U ∧ va_D (fun _ => True) [oX6 q_t t_length q_t_text t_size q_t_sign t_otherSize q_t_other q_t_before t_undoMany t_readSize q_t_read q_t_side q_t_tall q_t_endRow q_t_endColumn q_t_endSide q_t_gone t_lineRow t_lineColumn t_lineSide t_lineMany q_t_ways q_t_codes q_t_many, aI (G.2 1) q_t_text 200 t_text])) (va_Qi (fun r (_ : Unit) => r = res.1) (fun _ t => va_P G.1 vwCl [oX6 q_t res.2.1 q_t_text t_size q_t_sign t_otherSize q_t_other q_t_before t_undoMany t_readSize q_t_read q_t_side q_t_tall q_t_endRow q_t_endColumn q_t_endSide q_t_gone t_lineRow t_lineColumn t_lineSide t_lineMany q_t_ways q_t_codes q_t_many, aI (G.2 1) q_t_text 200 res.2.2] t.heap ∧ va_D (va_A [oX6 q_t t_length q_t_text t_size q_t_sign t_otherSize q_t_other q_t_before t_undoMany t_readSize q_t_read q_t_side q_t_tall q_t_endRow q_t_endColumn q_t_endSide q_t_gone t_lineRow t_lineColumn t_lineSide t_lineMany q_t_ways q_t_codes q_t_many, aI (G.2 1) q_t_text 200 t_text] sz) [oX6 q_t res.2.1 q_t_text t_size q_t_sign t_otherSize q_t_other q_t_before t_undoMany t_readSize q_t_read q_t_side q_t_tall q_t_endRow q_t_endColumn q_t_endSide q_t_gone t_lineRow t_lineColumn t_lineSide t_lineMany q_t_ways q_t_codes q_t_many, aI (G.2 1) q_t_text 200 res.2.2]) (va_A [oX6 q_t t_length q_t_text t_size q_t_sign t_otherSize q_t_other q_t_before t_undoMany t_readSize q_t_read q_t_side q_t_tall q_t_endRow q_t_endColumn q_t_endSide q_t_gone t_lineRow t_lineColumn t_lineSide t_lineMany q_t_ways q_t_codes q_t_many, aI (G.2 1) q_t_text 200 t_text] sz)) 0 0 (va_A [oX6 q_t t_length q_t_text t_size q_t_sign t_otherSize q_t_other q_t_before t_undoMany t_readSize q_t_read q_t_side q_t_tall q_t_endRow q_t_endColumn q_t_endSide q_t_gone t_lineRow t_lineColumn t_lineSide t_lineMany q_t_ways q_t_codes q_t_many, aI (G.2 1) q_t_text 200 t_text] sz) := by
  refine Met.ofQ (cc := cX6_write) (maxL := 2) (ret := (some .int)) (by decide) rfl ?_
  intro p e s m args below meth c s₁ Q hQ B hml hv
  obtain ⟨rfl, hsz, hP, hKW, hD0⟩ := hv
  have hK := hKW.1
  have hx := B.exec
  have hb := B.bytes
  have hr := B.returns
  have hts := atoms_spec (ws := wsX6_write) B.pre
  have hown : s.vm.findClass RX6 = some m.cls := findClass_of_methodNamed B.named
  have hlocks := B.notSynchronized
  have iX6 : ∀ w ∈ u_ws RX6 TX6 23, w ∈ wsX6_write := by decide +kernel
  have fl_66 := hts (.fieldLink RX6 66 "AlternateSignsModel" "length" "I") (by decide +kernel)
  have fl_7 := hts (.fieldLink RX6 7 "AlternateSignsModel" "text" "[I") (by decide +kernel)
  subst hsz
  have hD := hD0.self (sz := s.heap.size)
  generalize hAe : va_A [oX6 q_t t_length q_t_text t_size q_t_sign t_otherSize q_t_other q_t_before t_undoMany t_readSize q_t_read q_t_side q_t_tall q_t_endRow q_t_endColumn q_t_endSide q_t_gone t_lineRow t_lineColumn t_lineSide t_lineMany q_t_ways q_t_codes q_t_many, aI (G.2 1) q_t_text 200 t_text] s.heap.size = A at hD hQ
  have hA : ∀ q : Nat, s.heap.size ≤ q → A q := fun q h => by rw [← hAe]; exact Or.inr h
  have hS : va_S A s.heap s.heap [] := va_S.rf
  have hl := lv_entry ([.ref q_t, .int p1]) (n := 2) (Nat.le_of_ble_eq_true rfl)
  rw [lg_entry_eq]
  generalize (lg_sl ([.ref q_t, .int p1]) ++ List.replicate (2 - (lg_sl ([.ref q_t, .int p1])).length) Slot.unset).toArray = ls at hl ⊢
  have hl : lv_has ls 2 [(0, .ref q_t), (1, .int p1)] := hl
  unfold S_X6_write at hE
  refine lv_iload_n hx hb dX6_write_0 rfl (lv_at hl 1 rfl) ?_
  refine lv_i2l (v := p1.toInt64) hx hb dX6_write_1 rfl ?_
  refine lv_ldc2 (v := 32) hx hb hown (hts (.constantLong RX6 58 (32)) (by decide +kernel)) dX6_write_2 ?_
  refine lv_ldc2 (v := 126) hx hb hown (hts (.constantLong RX6 60 (126)) (by decide +kernel)) dX6_write_5 ?_
  obtain ⟨y8, hC_8, hE⟩ := Option.bind_eq_some_iff.mp hE
  obtain ⟨r_8, ex9⟩ : ∃ z, z = y8 := ⟨_, rfl⟩
  subst ex9
  try dsimp only at hE
  refine vp_callSi (va_Run.run (va_runS (As := [.long p1.toInt64, .long (32 : Int64), .long (126 : Int64)]) (rest := []) ⟨hx, hb, hml, hown, hts⟩ (c_X6_in (l := l) (G := G) (p1 := p1.toInt64) (p2 := (32 : Int64)) (p3 := (126 : Int64)) hC_8) (va_cwS 3 hts gX6_write_X6_in rfl rfl rfl kd_X6_in ⟨Nat.le_of_ble_eq_true rfl, Nat.le_of_ble_eq_true rfl⟩) (pv_S hKW (hP.sub (ws' := []) [] rfl)) rfl rfl hl.1 rfl (lv_room (Nat.le_of_ble_eq_true rfl)) dX6_write_8 ⟨Nat.zero_le _, Nat.zero_le _⟩)) (fun r9 hr9 => ?_)
  subst r9
  refine lv_if_ne (tgt := 16) hx hb dX6_write_11 (by decide) (fun c_11 => ?_) (fun c_11 => ?_)
  · replace hE := (if_neg c_11).symm.trans hE
    refine lv_aload_n hx hb dX6_write_16 rfl (lv_at hl 0 rfl) ?_
    refine va_get (D := G.1) (ci := 6) (v := .int t_length) (C := RX6) (T := TX6) (N := 23) hx hb hts iX6 hown hK hP 0 rfl rfl 0 (by decide) fl_66 (fun _ h9 => h9) rfl dX6_write_17 ?_
    refine lv_sipush (v := 200) hx hb dX6_write_20 (by decide) ?_
    refine lv_icmp_ne (tgt := 29) hx hb dX6_write_23 (by decide) (fun c_23 => ?_) (fun c_23 => ?_)
    · replace hE := (if_neg c_23).symm.trans hE
      refine lv_aload_n hx hb dX6_write_29 rfl (lv_at hl 0 rfl) ?_
      refine va_get (D := G.1) (ci := 6) (v := .ref q_t_text) (C := RX6) (T := TX6) (N := 23) hx hb hts iX6 hown hK hP 0 rfl rfl 1 (by decide) fl_7 (fun _ h9 => h9) rfl dX6_write_30 ?_
      refine lv_aload_n hx hb dX6_write_33 rfl (lv_at hl 0 rfl) ?_
      refine va_get (D := G.1) (ci := 6) (v := .int t_length) (C := RX6) (T := TX6) (N := 23) hx hb hts iX6 hown hK hP 0 rfl rfl 0 (by decide) fl_66 (fun _ h9 => h9) rfl dX6_write_34 ?_
      refine lv_iload_n hx hb dX6_write_37 rfl (lv_at hl 1 rfl) ?_
      obtain ⟨hi_38, hE⟩ := ck_some hE
      refine va_iast hx hb hK hP hD hS 1 1 rfl rfl (inb_in hi_38) dX6_write_38 (fun H locs hP hD hS => ?_)
      have hP : va_P G.1 vwCl [oX6 q_t t_length q_t_text t_size q_t_sign t_otherSize q_t_other q_t_before t_undoMany t_readSize q_t_read q_t_side q_t_tall q_t_endRow q_t_endColumn q_t_endSide q_t_gone t_lineRow t_lineColumn t_lineSide t_lineMany q_t_ways q_t_codes q_t_many, aI (G.2 1) q_t_text 200 (upd t_text t_length.toNatClampNeg p1)] H := hP
      have hD : va_D A [oX6 q_t t_length q_t_text t_size q_t_sign t_otherSize q_t_other q_t_before t_undoMany t_readSize q_t_read q_t_side q_t_tall q_t_endRow q_t_endColumn q_t_endSide q_t_gone t_lineRow t_lineColumn t_lineSide t_lineMany q_t_ways q_t_codes q_t_many, aI (G.2 1) q_t_text 200 (upd t_text t_length.toNatClampNeg p1)] := hD
      refine lv_aload_n hx hb dX6_write_39 rfl (lv_at hl 0 rfl) ?_
      refine lv_dup hx hb dX6_write_40 rfl ?_
      refine va_get (D := G.1) (ci := 6) (v := .int t_length) (C := RX6) (T := TX6) (N := 23) hx hb hts iX6 hown hK hP 0 rfl rfl 0 (by decide) fl_66 (fun _ h9 => h9) rfl dX6_write_41 ?_
      refine lv_iconst (v := 1) hx hb dX6_write_44 (by decide) ?_
      refine lv_iadd hx hb dX6_write_45 ?_
      refine va_put (D := G.1) (ci := 6) (v := .int (t_length + (1 : Int32))) (ty := .int) (C := RX6) (T := TX6) (N := 23) hx hb hts iX6 tyX6 tyX6_ok nmX6 hown hK hP hD hS 0 rfl rfl 0 (by decide) fl_66 (fun _ h9 => h9) rfl (by decide +kernel) rfl rfl (Nat.le_of_ble_eq_true rfl) dX6_write_46 (fun H locs hP hD hS => ?_)
      have hP : va_P G.1 vwCl [oX6 q_t (t_length + (1 : Int32)) q_t_text t_size q_t_sign t_otherSize q_t_other q_t_before t_undoMany t_readSize q_t_read q_t_side q_t_tall q_t_endRow q_t_endColumn q_t_endSide q_t_gone t_lineRow t_lineColumn t_lineSide t_lineMany q_t_ways q_t_codes q_t_many, aI (G.2 1) q_t_text 200 (upd t_text t_length.toNatClampNeg p1)] H := hP
      have hD : va_D A [oX6 q_t (t_length + (1 : Int32)) q_t_text t_size q_t_sign t_otherSize q_t_other q_t_before t_undoMany t_readSize q_t_read q_t_side q_t_tall q_t_endRow q_t_endColumn q_t_endSide q_t_gone t_lineRow t_lineColumn t_lineSide t_lineMany q_t_ways q_t_codes q_t_many, aI (G.2 1) q_t_text 200 (upd t_text t_length.toNatClampNeg p1)] := hD
      refine lv_aload_n hx hb dX6_write_49 rfl (lv_at hl 0 rfl) ?_
      refine va_get (D := G.1) (ci := 6) (v := .int (t_length + (1 : Int32))) (C := RX6) (T := TX6) (N := 23) hx hb hts iX6 hown hK hP 0 rfl rfl 0 (by decide) fl_66 (fun _ h9 => h9) rfl dX6_write_50 ?_
      have e_0 := Option.some.inj hE
      subst e_0
      rw [hQ]
      exact W.iret (v := t_length + (1 : Int32)) hx hb hr (fun t ht _ => ⟨⟨_, (), rfl, rfl, by rw [ht]; exact hP, hD⟩, hS.F ht⟩) hS.2.2 dX6_write_53
    · replace hE := (if_pos c_23).symm.trans hE
      refine lv_bipush (v := -3) hx hb dX6_write_26 (by decide) ?_
      have e_0 := Option.some.inj hE
      subst e_0
      rw [hQ]
      exact W.iret (v := (-3 : Int32)) hx hb hr (fun t ht _ => ⟨⟨_, (), rfl, rfl, by rw [ht]; exact hP, hD⟩, hS.F ht⟩) hS.2.2 dX6_write_28
  · replace hE := (if_pos c_11).symm.trans hE
    refine lv_iconst (v := -1) hx hb dX6_write_14 (by decide) ?_
    have e_0 := Option.some.inj hE
    subst e_0
    rw [hQ]
    exact W.iret (v := (-1 : Int32)) hx hb hr (fun t ht _ => ⟨⟨_, (), rfl, rfl, by rw [ht]; exact hP, hD⟩, hS.F ht⟩) hS.2.2 dX6_write_15
def S_X6_wipe (t_length : Int32) : Option (Int32 × Int32) := some (t_length, (0 : Int32))
theorem kd_X6_wipe : yX6_wipe.cls = RX6 ∧ yX6_wipe.cls ≠ "java/lang/invoke/MethodHandle" ∧ yX6_wipe.cls ≠ "java/lang/invoke/VarHandle" ∧ (parseMethodDescriptor yX6_wipe.desc).map (fun d => d.parameters.length) = some 0 := by decide +kernel
set_option maxHeartbeats 4000000 in
set_option maxRecDepth 100000 in
theorem c_X6_wipe {l : Launch} {G : kG} (sz : Nat) {q_t : Nat} {t_length : Int32} {q_t_text : Nat} {t_size : Int32} {q_t_sign : Nat} {t_otherSize : Int32} {q_t_other : Nat} {q_t_before : Nat} {t_undoMany : Int32} {t_readSize : Int32} {q_t_read : Nat} {q_t_side : Nat} {q_t_tall : Nat} {q_t_endRow : Nat} {q_t_endColumn : Nat} {q_t_endSide : Nat} {q_t_gone : Nat} {t_lineRow : Int32} {t_lineColumn : Int32} {t_lineSide : Int32} {t_lineMany : Int32} {q_t_ways : Nat} {q_t_codes : Nat} {q_t_many : Nat} {res : Int32 × Int32} (hE : S_X6_wipe t_length = some res) : Met l yX6_wipe wsX6_wipe ({ frames := 0, cells := 0, slots := 0, locals := 0 }) (va_Pc [.ref q_t] (fun U => U.heap.size = sz ∧ va_P G.1 vwCl [oX6 q_t t_length q_t_text t_size q_t_sign t_otherSize q_t_other q_t_before t_undoMany t_readSize q_t_read q_t_side q_t_tall q_t_endRow q_t_endColumn q_t_endSide q_t_gone t_lineRow t_lineColumn t_lineSide t_lineMany q_t_ways q_t_codes q_t_many] U.heap ∧ kw G U ∧ va_D (fun _ => True) [oX6 q_t t_length q_t_text t_size q_t_sign t_otherSize q_t_other q_t_before t_undoMany t_readSize q_t_read q_t_side q_t_tall q_t_endRow q_t_endColumn q_t_endSide q_t_gone t_lineRow t_lineColumn t_lineSide t_lineMany q_t_ways q_t_codes q_t_many])) (va_Qi (fun r (_ : Unit) => r = res.1) (fun _ t => va_P G.1 vwCl [oX6 q_t res.2 q_t_text t_size q_t_sign t_otherSize q_t_other q_t_before t_undoMany t_readSize q_t_read q_t_side q_t_tall q_t_endRow q_t_endColumn q_t_endSide q_t_gone t_lineRow t_lineColumn t_lineSide t_lineMany q_t_ways q_t_codes q_t_many] t.heap ∧ va_D (va_A [oX6 q_t t_length q_t_text t_size q_t_sign t_otherSize q_t_other q_t_before t_undoMany t_readSize q_t_read q_t_side q_t_tall q_t_endRow q_t_endColumn q_t_endSide q_t_gone t_lineRow t_lineColumn t_lineSide t_lineMany q_t_ways q_t_codes q_t_many] sz) [oX6 q_t res.2 q_t_text t_size q_t_sign t_otherSize q_t_other q_t_before t_undoMany t_readSize q_t_read q_t_side q_t_tall q_t_endRow q_t_endColumn q_t_endSide q_t_gone t_lineRow t_lineColumn t_lineSide t_lineMany q_t_ways q_t_codes q_t_many]) (va_A [oX6 q_t t_length q_t_text t_size q_t_sign t_otherSize q_t_other q_t_before t_undoMany t_readSize q_t_read q_t_side q_t_tall q_t_endRow q_t_endColumn q_t_endSide q_t_gone t_lineRow t_lineColumn t_lineSide t_lineMany q_t_ways q_t_codes q_t_many] sz)) 0 0 (va_A [oX6 q_t t_length q_t_text t_size q_t_sign t_otherSize q_t_other q_t_before t_undoMany t_readSize q_t_read q_t_side q_t_tall q_t_endRow q_t_endColumn q_t_endSide q_t_gone t_lineRow t_lineColumn t_lineSide t_lineMany q_t_ways q_t_codes q_t_many] sz) := by
  refine Met.ofQ (cc := cX6_wipe) (maxL := 2) (ret := (some .int)) (by decide) rfl ?_
  intro p e s m args below meth c s₁ Q hQ B hml hv
  obtain ⟨rfl, hsz, hP, hKW, hD0⟩ := hv
  have hK := hKW.1
  have hx := B.exec
  have hb := B.bytes
  have hr := B.returns
  have hts := atoms_spec (ws := wsX6_wipe) B.pre
  have hown : s.vm.findClass RX6 = some m.cls := findClass_of_methodNamed B.named
  have hlocks := B.notSynchronized
  have iX6 : ∀ w ∈ u_ws RX6 TX6 23, w ∈ wsX6_wipe := by decide +kernel
  have fl_66 := hts (.fieldLink RX6 66 "AlternateSignsModel" "length" "I") (by decide +kernel)
  subst hsz
  have hD := hD0.self (sz := s.heap.size)
  generalize hAe : va_A [oX6 q_t t_length q_t_text t_size q_t_sign t_otherSize q_t_other q_t_before t_undoMany t_readSize q_t_read q_t_side q_t_tall q_t_endRow q_t_endColumn q_t_endSide q_t_gone t_lineRow t_lineColumn t_lineSide t_lineMany q_t_ways q_t_codes q_t_many] s.heap.size = A at hD hQ
  have hA : ∀ q : Nat, s.heap.size ≤ q → A q := fun q h => by rw [← hAe]; exact Or.inr h
  have hS : va_S A s.heap s.heap [] := va_S.rf
  have hl := lv_entry ([.ref q_t]) (n := 2) (Nat.le_of_ble_eq_true rfl)
  rw [lg_entry_eq]
  generalize (lg_sl ([.ref q_t]) ++ List.replicate (2 - (lg_sl ([.ref q_t])).length) Slot.unset).toArray = ls at hl ⊢
  have hl : lv_has ls 2 [(0, .ref q_t)] := hl
  unfold S_X6_wipe at hE
  refine lv_aload_n hx hb dX6_wipe_0 rfl (lv_at hl 0 rfl) ?_
  refine va_get (D := G.1) (ci := 6) (v := .int t_length) (C := RX6) (T := TX6) (N := 23) hx hb hts iX6 hown hK hP 0 rfl rfl 0 (by decide) fl_66 (fun _ h9 => h9) rfl dX6_wipe_1 ?_
  refine lv_istore_n (lv' := [(1, .int t_length), (0, .ref q_t)]) hx hb dX6_wipe_4 rfl hl (by decide) rfl (fun ls hl => ?_)
  refine lv_aload_n hx hb dX6_wipe_5 rfl (lv_at hl 1 rfl) ?_
  refine lv_iconst (v := 0) hx hb dX6_wipe_6 (by decide) ?_
  refine va_put (D := G.1) (ci := 6) (v := .int (0 : Int32)) (ty := .int) (C := RX6) (T := TX6) (N := 23) hx hb hts iX6 tyX6 tyX6_ok nmX6 hown hK hP hD hS 0 rfl rfl 0 (by decide) fl_66 (fun _ h9 => h9) rfl (by decide +kernel) rfl rfl (Nat.le_of_ble_eq_true rfl) dX6_wipe_7 (fun H locs hP hD hS => ?_)
  have hP : va_P G.1 vwCl [oX6 q_t (0 : Int32) q_t_text t_size q_t_sign t_otherSize q_t_other q_t_before t_undoMany t_readSize q_t_read q_t_side q_t_tall q_t_endRow q_t_endColumn q_t_endSide q_t_gone t_lineRow t_lineColumn t_lineSide t_lineMany q_t_ways q_t_codes q_t_many] H := hP
  have hD : va_D A [oX6 q_t (0 : Int32) q_t_text t_size q_t_sign t_otherSize q_t_other q_t_before t_undoMany t_readSize q_t_read q_t_side q_t_tall q_t_endRow q_t_endColumn q_t_endSide q_t_gone t_lineRow t_lineColumn t_lineSide t_lineMany q_t_ways q_t_codes q_t_many] := hD
  refine lv_iload_n hx hb dX6_wipe_10 rfl (lv_at hl 0 rfl) ?_
  have e_0 := Option.some.inj hE
  subst e_0
  rw [hQ]
  exact W.iret (v := t_length) hx hb hr (fun t ht _ => ⟨⟨_, (), rfl, rfl, by rw [ht]; exact hP, hD⟩, hS.F ht⟩) hS.2.2 dX6_wipe_11
def S_X6_fault (t_length : Int32) (t_text : Nat → Int32) (t_read : Nat → Int32) : Option (Int32 × Int32 × (Nat → Int32)) := itr (fun (x1 : Int32 × Int32 × Int32 × Int32 × Int32 × Int32 × (Nat → Int32)) => if t_length ≤ x1.2.2.2.2.1 then if x1.2.2.2.2.2.1 ≤ 0 then some (.inr (t_length, x1.2.2.2.2.2.1, x1.2.2.2.2.2.2)) else if x1.1 = x1.2.2.2.2.2.1 then some (.inr ((-4 : Int32), x1.2.2.2.2.2.1, x1.2.2.2.2.2.2)) else some (.inr (t_length, x1.2.2.2.2.2.1, x1.2.2.2.2.2.2)) else ck (inb x1.2.2.2.2.1 200) (jn (if (t_text x1.2.2.2.2.1.toNatClampNeg) = (59 : Int32) then some (.inl (1 : Int32)) else some (.inl (0 : Int32))) (fun (x2 : Int32) => jn (if x2 = 0 then if (t_text x1.2.2.2.2.1.toNatClampNeg) = (43 : Int32) then some (.inl ()) else if (t_text x1.2.2.2.2.1.toNatClampNeg) = (45 : Int32) then some (.inl ()) else if (t_text x1.2.2.2.2.1.toNatClampNeg) = (48 : Int32) then some (.inl ()) else some (.inr (.inr (x1.2.2.2.2.1, x1.2.2.2.2.2.1, x1.2.2.2.2.2.2))) else some (.inl ())) (fun (x3 : Unit) => jn (if x1.2.2.2.2.2.1 ≤ 0 then some (.inl ()) else if x1.1 = x1.2.2.2.2.2.1 then some (.inr (.inr (x1.2.2.2.2.1, x1.2.2.2.2.2.1, x1.2.2.2.2.2.2))) else some (.inl ())) (fun (x4 : Unit) => jn (if x1.2.2.2.2.2.1 ≤ 0 then some (.inl (6 : Int32)) else some (.inl x1.2.2.2.2.2.1)) (fun (x5 : Int32) => if x2 = 0 then jn (if (t_text x1.2.2.2.2.1.toNatClampNeg) = (43 : Int32) then some (.inl (1 : Int32)) else if (t_text x1.2.2.2.2.1.toNatClampNeg) = (45 : Int32) then some (.inl (-1 : Int32)) else some (.inl (0 : Int32))) (fun (x6 : Int32) => if x1.2.1 = x5 then some (.inr (x1.2.2.2.2.1, x1.2.2.2.2.2.1, x1.2.2.2.2.2.2)) else (S_X6_in ((x1.2.2.1 + x6).toInt64) (0 : Int64) (1 : Int64)).bind (fun (y207 : Int32) => if y207 = 0 then some (.inr (x1.2.2.2.2.1, x1.2.2.2.2.2.1, x1.2.2.2.2.2.2)) else (S_X6_in ((((x1.2.2.2.1 >>> (x1.2.1 &&& 31)) &&& (1 : Int32)) + x6).toInt64) (0 : Int64) (1 : Int64)).bind (fun (y218 : Int32) => if y218 = 0 then some (.inr (x1.2.2.2.2.1, x1.2.2.2.2.2.1, x1.2.2.2.2.2.2)) else jn (if (((x1.2.2.2.1 >>> (x1.2.1 &&& 31)) &&& (1 : Int32)) + x6) = (1 : Int32) then some (.inl (x1.2.2.2.1 ||| ((1 : Int32) <<< (x1.2.1 &&& 31)))) else some (.inl (x1.2.2.2.1 &&& (((1 : Int32) <<< (x1.2.1 &&& 31)) ^^^ (-1 : Int32))))) (fun (x7 : Int32) => ck (inb (((6 : Int32) * x1.1) + x1.2.1) 36) (some (.inl (x1.1, x1.2.1 + (1 : Int32), x1.2.2.1 + x6, x7, x1.2.2.2.2.1 + (1 : Int32), x1.2.2.2.2.2.1, upd x1.2.2.2.2.2.2 (((6 : Int32) * x1.1) + x1.2.1).toNatClampNeg x6))))))) else if x1.2.1 = 0 then some (.inr (x1.2.2.2.2.1, x1.2.2.2.2.2.1, x1.2.2.2.2.2.2)) else jn (if x1.2.2.2.2.2.1 ≤ 0 then some (.inl ()) else if x1.2.1 < x1.2.2.2.2.2.1 then some (.inr (.inr (x1.2.2.2.2.1, x1.2.2.2.2.2.1, x1.2.2.2.2.2.2))) else some (.inl ())) (fun (x8 : Unit) => if x1.2.2.1 = (1 : Int32) then some (.inl (x1.1 + (1 : Int32), (0 : Int32), (0 : Int32), x1.2.2.2.1, x1.2.2.2.2.1 + (1 : Int32), x1.2.1, x1.2.2.2.2.2.2)) else some (.inr (x1.2.2.2.2.1, x1.2.2.2.2.2.1, x1.2.2.2.2.2.2))))))))) 10000 ((0 : Int32), (0 : Int32), (0 : Int32), (0 : Int32), (0 : Int32), (0 : Int32), t_read)
theorem kd_X6_fault : yX6_fault.cls = RX6 ∧ yX6_fault.cls ≠ "java/lang/invoke/MethodHandle" ∧ yX6_fault.cls ≠ "java/lang/invoke/VarHandle" ∧ (parseMethodDescriptor yX6_fault.desc).map (fun d => d.parameters.length) = some 0 := by decide +kernel
set_option maxHeartbeats 4000000 in
set_option maxRecDepth 100000 in
theorem c_X6_fault {l : Launch} {G : kG} (sz : Nat) {q_t : Nat} {t_length : Int32} {q_t_text : Nat} {t_size : Int32} {q_t_sign : Nat} {t_otherSize : Int32} {q_t_other : Nat} {q_t_before : Nat} {t_undoMany : Int32} {t_readSize : Int32} {q_t_read : Nat} {q_t_side : Nat} {q_t_tall : Nat} {q_t_endRow : Nat} {q_t_endColumn : Nat} {q_t_endSide : Nat} {q_t_gone : Nat} {t_lineRow : Int32} {t_lineColumn : Int32} {t_lineSide : Int32} {t_lineMany : Int32} {q_t_ways : Nat} {q_t_codes : Nat} {q_t_many : Nat} {t_text : Nat → Int32} {t_read : Nat → Int32} {res : Int32 × Int32 × (Nat → Int32)} (hE : S_X6_fault t_length t_text t_read = some res) : Met l yX6_fault wsX6_fault ({ frames := 1, cells := 0, slots := 0, locals := 25 }) (va_Pc [.ref q_t] (fun U => U.heap.size = sz ∧ va_P G.1 vwCl [oX6 q_t t_length q_t_text t_size q_t_sign t_otherSize q_t_other q_t_before t_undoMany t_readSize q_t_read q_t_side q_t_tall q_t_endRow q_t_endColumn q_t_endSide q_t_gone t_lineRow t_lineColumn t_lineSide t_lineMany q_t_ways q_t_codes q_t_many, aI (G.2 1) q_t_text 200 t_text, aI (G.2 1) q_t_read 36 t_read] U.heap ∧ kw G U ∧ va_D (fun _ => True) [oX6 q_t t_length q_t_text t_size q_t_sign t_otherSize q_t_other q_t_before t_undoMany t_readSize q_t_read q_t_side q_t_tall q_t_endRow q_t_endColumn q_t_endSide q_t_gone t_lineRow t_lineColumn t_lineSide t_lineMany q_t_ways q_t_codes q_t_many, aI (G.2 1) q_t_text 200 t_text, aI (G.2 1) q_t_read 36 t_read])) (va_Qi (fun r (_ : Unit) => r = res.1) (fun _ t => va_P G.1 vwCl [oX6 q_t t_length q_t_text t_size q_t_sign t_otherSize q_t_other q_t_before t_undoMany res.2.1 q_t_read q_t_side q_t_tall q_t_endRow q_t_endColumn q_t_endSide q_t_gone t_lineRow t_lineColumn t_lineSide t_lineMany q_t_ways q_t_codes q_t_many, aI (G.2 1) q_t_text 200 t_text, aI (G.2 1) q_t_read 36 res.2.2] t.heap ∧ va_D (va_A [oX6 q_t t_length q_t_text t_size q_t_sign t_otherSize q_t_other q_t_before t_undoMany t_readSize q_t_read q_t_side q_t_tall q_t_endRow q_t_endColumn q_t_endSide q_t_gone t_lineRow t_lineColumn t_lineSide t_lineMany q_t_ways q_t_codes q_t_many, aI (G.2 1) q_t_text 200 t_text, aI (G.2 1) q_t_read 36 t_read] sz) [oX6 q_t t_length q_t_text t_size q_t_sign t_otherSize q_t_other q_t_before t_undoMany res.2.1 q_t_read q_t_side q_t_tall q_t_endRow q_t_endColumn q_t_endSide q_t_gone t_lineRow t_lineColumn t_lineSide t_lineMany q_t_ways q_t_codes q_t_many, aI (G.2 1) q_t_text 200 t_text, aI (G.2 1) q_t_read 36 res.2.2]) (va_A [oX6 q_t t_length q_t_text t_size q_t_sign t_otherSize q_t_other q_t_before t_undoMany t_readSize q_t_read q_t_side q_t_tall q_t_endRow q_t_endColumn q_t_endSide q_t_gone t_lineRow t_lineColumn t_lineSide t_lineMany q_t_ways q_t_codes q_t_many, aI (G.2 1) q_t_text 200 t_text, aI (G.2 1) q_t_read 36 t_read] sz)) 0 0 (va_A [oX6 q_t t_length q_t_text t_size q_t_sign t_otherSize q_t_other q_t_before t_undoMany t_readSize q_t_read q_t_side q_t_tall q_t_endRow q_t_endColumn q_t_endSide q_t_gone t_lineRow t_lineColumn t_lineSide t_lineMany q_t_ways q_t_codes q_t_many, aI (G.2 1) q_t_text 200 t_text, aI (G.2 1) q_t_read 36 t_read] sz) := by
  refine Met.ofQ (cc := cX6_fault) (maxL := 11) (ret := (some .int)) (by decide) rfl ?_
  intro p e s m args below meth c s₁ Q hQ B hml hv
  obtain ⟨rfl, hsz, hP, hKW, hD0⟩ := hv
  have hK := hKW.1
  have hx := B.exec
  have hb := B.bytes
  have hr := B.returns
  have hts := atoms_spec (ws := wsX6_fault) B.pre
  have hown : s.vm.findClass RX6 = some m.cls := findClass_of_methodNamed B.named
  have hlocks := B.notSynchronized
  have iX6 : ∀ w ∈ u_ws RX6 TX6 23, w ∈ wsX6_fault := by decide +kernel
  have fl_69 := hts (.fieldLink RX6 69 "AlternateSignsModel" "readSize" "I") (by decide +kernel)
  have fl_66 := hts (.fieldLink RX6 66 "AlternateSignsModel" "length" "I") (by decide +kernel)
  have fl_7 := hts (.fieldLink RX6 7 "AlternateSignsModel" "text" "[I") (by decide +kernel)
  have fl_22 := hts (.fieldLink RX6 22 "AlternateSignsModel" "read" "[I") (by decide +kernel)
  subst hsz
  have hD := hD0.self (sz := s.heap.size)
  generalize hAe : va_A [oX6 q_t t_length q_t_text t_size q_t_sign t_otherSize q_t_other q_t_before t_undoMany t_readSize q_t_read q_t_side q_t_tall q_t_endRow q_t_endColumn q_t_endSide q_t_gone t_lineRow t_lineColumn t_lineSide t_lineMany q_t_ways q_t_codes q_t_many, aI (G.2 1) q_t_text 200 t_text, aI (G.2 1) q_t_read 36 t_read] s.heap.size = A at hD hQ
  have hA : ∀ q : Nat, s.heap.size ≤ q → A q := fun q h => by rw [← hAe]; exact Or.inr h
  have hS : va_S A s.heap s.heap [] := va_S.rf
  have hl := lv_entry ([.ref q_t]) (n := 11) (Nat.le_of_ble_eq_true rfl)
  rw [lg_entry_eq]
  generalize (lg_sl ([.ref q_t]) ++ List.replicate (11 - (lg_sl ([.ref q_t])).length) Slot.unset).toArray = ls at hl ⊢
  have hl : lv_has ls 11 [(0, .ref q_t)] := hl
  unfold S_X6_fault at hE
  refine lv_aload_n hx hb dX6_fault_0 rfl (lv_at hl 0 rfl) ?_
  refine lv_iconst (v := 0) hx hb dX6_fault_1 (by decide) ?_
  refine va_put (D := G.1) (ci := 6) (v := .int (0 : Int32)) (ty := .int) (C := RX6) (T := TX6) (N := 23) hx hb hts iX6 tyX6 tyX6_ok nmX6 hown hK hP hD hS 0 rfl rfl 8 (by decide) fl_69 (fun _ h9 => h9) rfl (by decide +kernel) rfl rfl (Nat.le_of_ble_eq_true rfl) dX6_fault_2 (fun H locs hP hD hS => ?_)
  have hP : va_P G.1 vwCl [oX6 q_t t_length q_t_text t_size q_t_sign t_otherSize q_t_other q_t_before t_undoMany (0 : Int32) q_t_read q_t_side q_t_tall q_t_endRow q_t_endColumn q_t_endSide q_t_gone t_lineRow t_lineColumn t_lineSide t_lineMany q_t_ways q_t_codes q_t_many, aI (G.2 1) q_t_text 200 t_text, aI (G.2 1) q_t_read 36 t_read] H := hP
  have hD : va_D A [oX6 q_t t_length q_t_text t_size q_t_sign t_otherSize q_t_other q_t_before t_undoMany (0 : Int32) q_t_read q_t_side q_t_tall q_t_endRow q_t_endColumn q_t_endSide q_t_gone t_lineRow t_lineColumn t_lineSide t_lineMany q_t_ways q_t_codes q_t_many, aI (G.2 1) q_t_text 200 t_text, aI (G.2 1) q_t_read 36 t_read] := hD
  refine lv_iconst (v := 0) hx hb dX6_fault_5 (by decide) ?_
  refine lv_istore_n (lv' := [(1, .int (0 : Int32)), (0, .ref q_t)]) hx hb dX6_fault_6 rfl hl (by decide) rfl (fun ls hl => ?_)
  refine lv_iconst (v := 0) hx hb dX6_fault_7 (by decide) ?_
  refine lv_istore_n (lv' := [(2, .int (0 : Int32)), (1, .int (0 : Int32)), (0, .ref q_t)]) hx hb dX6_fault_8 rfl hl (by decide) rfl (fun ls hl => ?_)
  refine lv_iconst (v := 0) hx hb dX6_fault_9 (by decide) ?_
  refine lv_istore_n (lv' := [(3, .int (0 : Int32)), (2, .int (0 : Int32)), (1, .int (0 : Int32)), (0, .ref q_t)]) hx hb dX6_fault_10 rfl hl (by decide) rfl (fun ls hl => ?_)
  refine lv_iconst (v := 0) hx hb dX6_fault_11 (by decide) ?_
  refine lv_istore (lv' := [(4, .int (0 : Int32)), (3, .int (0 : Int32)), (2, .int (0 : Int32)), (1, .int (0 : Int32)), (0, .ref q_t)]) hx hb dX6_fault_12 hl (by decide) rfl (fun ls hl => ?_)
  refine lv_iconst (v := 0) hx hb dX6_fault_14 (by decide) ?_
  refine lv_istore (lv' := [(5, .int (0 : Int32)), (4, .int (0 : Int32)), (3, .int (0 : Int32)), (2, .int (0 : Int32)), (1, .int (0 : Int32)), (0, .ref q_t)]) hx hb dX6_fault_15 hl (by decide) rfl (fun ls hl => ?_)
  refine itr_ind (fun (x1 : Int32 × Int32 × Int32 × Int32 × Int32 × Int32 × (Nat → Int32)) => ∀ (H : Heap) (locs : List Loc) (ls : Array Slot), va_P G.1 vwCl [oX6 q_t t_length q_t_text t_size q_t_sign t_otherSize q_t_other q_t_before t_undoMany x1.2.2.2.2.2.1 q_t_read q_t_side q_t_tall q_t_endRow q_t_endColumn q_t_endSide q_t_gone t_lineRow t_lineColumn t_lineSide t_lineMany q_t_ways q_t_codes q_t_many, aI (G.2 1) q_t_text 200 t_text, aI (G.2 1) q_t_read 36 x1.2.2.2.2.2.2] H → va_D A [oX6 q_t t_length q_t_text t_size q_t_sign t_otherSize q_t_other q_t_before t_undoMany x1.2.2.2.2.2.1 q_t_read q_t_side q_t_tall q_t_endRow q_t_endColumn q_t_endSide q_t_gone t_lineRow t_lineColumn t_lineSide t_lineMany q_t_ways q_t_codes q_t_many, aI (G.2 1) q_t_text 200 t_text, aI (G.2 1) q_t_read 36 x1.2.2.2.2.2.2] → va_S A s.heap H locs → lv_has ls 11 [(0, .ref q_t), (1, .int x1.1), (2, .int x1.2.1), (3, .int x1.2.2.1), (4, .int x1.2.2.2.1), (5, .int x1.2.2.2.2.1)] → W p l e (headSpec wsX6_fault ({ frames := 1, cells := 0, slots := 0, locals := 25 })).room s m ([.ref q_t] : List Value).toArray below meth c H locs 0 0 Q (F0 m 17 ls [])) (fun x1 o_1 hE ih_1 hr_1 => ?_) _ _ hE _ _ ls hP hD hS (lv_sub hl [5, 4, 3, 2, 1, 0] rfl)
  obtain ⟨v1_1, v2_1, v3_1, v4_1, v5_1, w_t_readSize_1, w_t_read_1⟩ := x1
  try dsimp only at hE
  intro H locs ls hP hD hS hl
  try dsimp only at hP hD hl ⊢
  refine lv_iload hx hb dX6_fault_17 (lv_at hl 5 rfl) ?_
  refine lv_aload_n hx hb dX6_fault_19 rfl (lv_at hl 0 rfl) ?_
  refine va_get (D := G.1) (ci := 6) (v := .int t_length) (C := RX6) (T := TX6) (N := 23) hx hb hts iX6 hown hK hP 0 rfl rfl 0 (by decide) fl_66 (fun _ h9 => h9) rfl dX6_fault_20 ?_
  refine lv_icmp_ge (tgt := 279) hx hb dX6_fault_23 (by decide) (fun c_23 => ?_) (fun c_23 => ?_)
  · replace hE := (if_pos c_23).symm.trans hE
    refine lv_aload_n hx hb dX6_fault_279 rfl (lv_at hl 0 rfl) ?_
    refine va_get (D := G.1) (ci := 6) (v := .int w_t_readSize_1) (C := RX6) (T := TX6) (N := 23) hx hb hts iX6 hown hK hP 0 rfl rfl 8 (by decide) fl_69 (fun _ h9 => h9) rfl dX6_fault_280 ?_
    refine lv_if_le (tgt := 299) hx hb dX6_fault_283 (by decide) (fun c_283 => ?_) (fun c_283 => ?_)
    · replace hE := (if_pos c_283).symm.trans hE
      refine lv_aload_n hx hb dX6_fault_299 rfl (lv_at hl 0 rfl) ?_
      refine va_get (D := G.1) (ci := 6) (v := .int t_length) (C := RX6) (T := TX6) (N := 23) hx hb hts iX6 hown hK hP 0 rfl rfl 0 (by decide) fl_66 (fun _ h9 => h9) rfl dX6_fault_300 ?_
      have e_1 := Option.some.inj hE
      have e_0 := hr_1 _ e_1.symm
      subst e_0
      rw [hQ]
      exact W.iret (v := t_length) hx hb hr (fun t ht _ => ⟨⟨_, (), rfl, rfl, by rw [ht]; exact hP, hD⟩, hS.F ht⟩) hS.2.2 dX6_fault_303
    · replace hE := (if_neg c_283).symm.trans hE
      refine lv_iload_n hx hb dX6_fault_286 rfl (lv_at hl 1 rfl) ?_
      refine lv_aload_n hx hb dX6_fault_287 rfl (lv_at hl 0 rfl) ?_
      refine va_get (D := G.1) (ci := 6) (v := .int w_t_readSize_1) (C := RX6) (T := TX6) (N := 23) hx hb hts iX6 hown hK hP 0 rfl rfl 8 (by decide) fl_69 (fun _ h9 => h9) rfl dX6_fault_288 ?_
      refine lv_icmp_ne (tgt := 299) hx hb dX6_fault_291 (by decide) (fun c_291 => ?_) (fun c_291 => ?_)
      · replace hE := (if_neg c_291).symm.trans hE
        refine lv_aload_n hx hb dX6_fault_299 rfl (lv_at hl 0 rfl) ?_
        refine va_get (D := G.1) (ci := 6) (v := .int t_length) (C := RX6) (T := TX6) (N := 23) hx hb hts iX6 hown hK hP 0 rfl rfl 0 (by decide) fl_66 (fun _ h9 => h9) rfl dX6_fault_300 ?_
        have e_1 := Option.some.inj hE
        have e_0 := hr_1 _ e_1.symm
        subst e_0
        rw [hQ]
        exact W.iret (v := t_length) hx hb hr (fun t ht _ => ⟨⟨_, (), rfl, rfl, by rw [ht]; exact hP, hD⟩, hS.F ht⟩) hS.2.2 dX6_fault_303
      · replace hE := (if_pos c_291).symm.trans hE
        refine lv_bipush (v := -4) hx hb dX6_fault_294 (by decide) ?_
        refine lv_goto (tgt := 303) hx hb dX6_fault_296 (by decide) ?_
        have e_1 := Option.some.inj hE
        have e_0 := hr_1 _ e_1.symm
        subst e_0
        rw [hQ]
        exact W.iret (v := (-4 : Int32)) hx hb hr (fun t ht _ => ⟨⟨_, (), rfl, rfl, by rw [ht]; exact hP, hD⟩, hS.F ht⟩) hS.2.2 dX6_fault_303
  · replace hE := (if_neg c_23).symm.trans hE
    refine lv_aload_n hx hb dX6_fault_26 rfl (lv_at hl 0 rfl) ?_
    refine va_get (D := G.1) (ci := 6) (v := .ref q_t_text) (C := RX6) (T := TX6) (N := 23) hx hb hts iX6 hown hK hP 0 rfl rfl 1 (by decide) fl_7 (fun _ h9 => h9) rfl dX6_fault_27 ?_
    refine lv_iload hx hb dX6_fault_30 (lv_at hl 5 rfl) ?_
    obtain ⟨hi_32, hE⟩ := ck_some hE
    refine va_iald hx hb hK hP 1 1 rfl rfl (inb_in hi_32) dX6_fault_32 ?_
    refine lv_istore (lv' := [(6, .int (t_text v5_1.toNatClampNeg)), (0, .ref q_t), (1, .int v1_1), (2, .int v2_1), (3, .int v3_1), (4, .int v4_1), (5, .int v5_1)]) hx hb dX6_fault_33 hl (by decide) rfl (fun ls hl => ?_)
    refine lv_iload hx hb dX6_fault_35 (lv_at hl 0 rfl) ?_
    refine lv_bipush (v := 59) hx hb dX6_fault_37 (by decide) ?_
    obtain ⟨o_2, hEp, hk9, hr_2⟩ := jn_some hE
    have ih_2 : ∀ (x2 : Int32), o_2 = .inl x2 → ∀ (H : Heap) (locs : List Loc) (ls : Array Slot), va_P G.1 vwCl [oX6 q_t t_length q_t_text t_size q_t_sign t_otherSize q_t_other q_t_before t_undoMany w_t_readSize_1 q_t_read q_t_side q_t_tall q_t_endRow q_t_endColumn q_t_endSide q_t_gone t_lineRow t_lineColumn t_lineSide t_lineMany q_t_ways q_t_codes q_t_many, aI (G.2 1) q_t_text 200 t_text, aI (G.2 1) q_t_read 36 w_t_read_1] H → va_D A [oX6 q_t t_length q_t_text t_size q_t_sign t_otherSize q_t_other q_t_before t_undoMany w_t_readSize_1 q_t_read q_t_side q_t_tall q_t_endRow q_t_endColumn q_t_endSide q_t_gone t_lineRow t_lineColumn t_lineSide t_lineMany q_t_ways q_t_codes q_t_many, aI (G.2 1) q_t_text 200 t_text, aI (G.2 1) q_t_read 36 w_t_read_1] → va_S A s.heap H locs → lv_has ls 11 [(0, .ref q_t), (1, .int v1_1), (2, .int v2_1), (3, .int v3_1), (4, .int v4_1), (5, .int v5_1), (6, .int (t_text v5_1.toNatClampNeg))] → W p l e (headSpec wsX6_fault ({ frames := 1, cells := 0, slots := 0, locals := 25 })).room s m ([.ref q_t] : List Value).toArray below meth c H locs 0 0 Q (F0 m 47 ls [.int x2]) := by
      intro x2 ho9
      have hE := hk9 _ ho9
      obtain ⟨k0_2, ex9⟩ : ∃ z, z = x2 := ⟨_, rfl⟩
      subst ex9
      try dsimp only at hE
      intro H locs ls hP hD hS hl
      try dsimp only at hP hD hl ⊢
      refine lv_istore (lv' := [(7, .int k0_2), (0, .ref q_t), (1, .int v1_1), (2, .int v2_1), (3, .int v3_1), (4, .int v4_1), (5, .int v5_1), (6, .int (t_text v5_1.toNatClampNeg))]) hx hb dX6_fault_47 hl (by decide) rfl (fun ls hl => ?_)
      refine lv_iload hx hb dX6_fault_49 (lv_at hl 0 rfl) ?_
      obtain ⟨o_2, hEp, hk9, hr_2⟩ := jn_some hE
      have ih_2 : ∀ (x3 : Unit), o_2 = .inl x3 → ∀ (H : Heap) (locs : List Loc) (ls : Array Slot), va_P G.1 vwCl [oX6 q_t t_length q_t_text t_size q_t_sign t_otherSize q_t_other q_t_before t_undoMany w_t_readSize_1 q_t_read q_t_side q_t_tall q_t_endRow q_t_endColumn q_t_endSide q_t_gone t_lineRow t_lineColumn t_lineSide t_lineMany q_t_ways q_t_codes q_t_many, aI (G.2 1) q_t_text 200 t_text, aI (G.2 1) q_t_read 36 w_t_read_1] H → va_D A [oX6 q_t t_length q_t_text t_size q_t_sign t_otherSize q_t_other q_t_before t_undoMany w_t_readSize_1 q_t_read q_t_side q_t_tall q_t_endRow q_t_endColumn q_t_endSide q_t_gone t_lineRow t_lineColumn t_lineSide t_lineMany q_t_ways q_t_codes q_t_many, aI (G.2 1) q_t_text 200 t_text, aI (G.2 1) q_t_read 36 w_t_read_1] → va_S A s.heap H locs → lv_has ls 11 [(0, .ref q_t), (1, .int v1_1), (2, .int v2_1), (3, .int v3_1), (4, .int v4_1), (5, .int v5_1), (6, .int (t_text v5_1.toNatClampNeg)), (7, .int k0_2)] → W p l e (headSpec wsX6_fault ({ frames := 1, cells := 0, slots := 0, locals := 25 })).room s m ([.ref q_t] : List Value).toArray below meth c H locs 0 0 Q (F0 m 75 ls []) := by
        intro x3 ho9
        have hE := hk9 _ ho9
        try dsimp only at hE
        intro H locs ls hP hD hS hl
        try dsimp only at hP hD hl ⊢
        refine lv_aload_n hx hb dX6_fault_75 rfl (lv_at hl 0 rfl) ?_
        refine va_get (D := G.1) (ci := 6) (v := .int w_t_readSize_1) (C := RX6) (T := TX6) (N := 23) hx hb hts iX6 hown hK hP 0 rfl rfl 8 (by decide) fl_69 (fun _ h9 => h9) rfl dX6_fault_76 ?_
        obtain ⟨o_2, hEp, hk9, hr_2⟩ := jn_some hE
        have ih_2 : ∀ (x4 : Unit), o_2 = .inl x4 → ∀ (H : Heap) (locs : List Loc) (ls : Array Slot), va_P G.1 vwCl [oX6 q_t t_length q_t_text t_size q_t_sign t_otherSize q_t_other q_t_before t_undoMany w_t_readSize_1 q_t_read q_t_side q_t_tall q_t_endRow q_t_endColumn q_t_endSide q_t_gone t_lineRow t_lineColumn t_lineSide t_lineMany q_t_ways q_t_codes q_t_many, aI (G.2 1) q_t_text 200 t_text, aI (G.2 1) q_t_read 36 w_t_read_1] H → va_D A [oX6 q_t t_length q_t_text t_size q_t_sign t_otherSize q_t_other q_t_before t_undoMany w_t_readSize_1 q_t_read q_t_side q_t_tall q_t_endRow q_t_endColumn q_t_endSide q_t_gone t_lineRow t_lineColumn t_lineSide t_lineMany q_t_ways q_t_codes q_t_many, aI (G.2 1) q_t_text 200 t_text, aI (G.2 1) q_t_read 36 w_t_read_1] → va_S A s.heap H locs → lv_has ls 11 [(0, .ref q_t), (1, .int v1_1), (2, .int v2_1), (3, .int v3_1), (4, .int v4_1), (5, .int v5_1), (6, .int (t_text v5_1.toNatClampNeg)), (7, .int k0_2)] → W p l e (headSpec wsX6_fault ({ frames := 1, cells := 0, slots := 0, locals := 25 })).room s m ([.ref q_t] : List Value).toArray below meth c H locs 0 0 Q (F0 m 93 ls []) := by
          intro x4 ho9
          have hE := hk9 _ ho9
          try dsimp only at hE
          intro H locs ls hP hD hS hl
          try dsimp only at hP hD hl ⊢
          refine lv_aload_n hx hb dX6_fault_93 rfl (lv_at hl 0 rfl) ?_
          refine va_get (D := G.1) (ci := 6) (v := .int w_t_readSize_1) (C := RX6) (T := TX6) (N := 23) hx hb hts iX6 hown hK hP 0 rfl rfl 8 (by decide) fl_69 (fun _ h9 => h9) rfl dX6_fault_94 ?_
          obtain ⟨o_2, hEp, hk9, hr_2⟩ := jn_some hE
          have ih_2 : ∀ (x5 : Int32), o_2 = .inl x5 → ∀ (H : Heap) (locs : List Loc) (ls : Array Slot), va_P G.1 vwCl [oX6 q_t t_length q_t_text t_size q_t_sign t_otherSize q_t_other q_t_before t_undoMany w_t_readSize_1 q_t_read q_t_side q_t_tall q_t_endRow q_t_endColumn q_t_endSide q_t_gone t_lineRow t_lineColumn t_lineSide t_lineMany q_t_ways q_t_codes q_t_many, aI (G.2 1) q_t_text 200 t_text, aI (G.2 1) q_t_read 36 w_t_read_1] H → va_D A [oX6 q_t t_length q_t_text t_size q_t_sign t_otherSize q_t_other q_t_before t_undoMany w_t_readSize_1 q_t_read q_t_side q_t_tall q_t_endRow q_t_endColumn q_t_endSide q_t_gone t_lineRow t_lineColumn t_lineSide t_lineMany q_t_ways q_t_codes q_t_many, aI (G.2 1) q_t_text 200 t_text, aI (G.2 1) q_t_read 36 w_t_read_1] → va_S A s.heap H locs → lv_has ls 11 [(0, .ref q_t), (1, .int v1_1), (2, .int v2_1), (3, .int v3_1), (4, .int v4_1), (5, .int v5_1), (6, .int (t_text v5_1.toNatClampNeg)), (7, .int k0_2)] → W p l e (headSpec wsX6_fault ({ frames := 1, cells := 0, slots := 0, locals := 25 })).room s m ([.ref q_t] : List Value).toArray below meth c H locs 0 0 Q (F0 m 109 ls [.int x5]) := by
            intro x5 ho9
            have hE := hk9 _ ho9
            obtain ⟨k0_5, ex9⟩ : ∃ z, z = x5 := ⟨_, rfl⟩
            subst ex9
            try dsimp only at hE
            intro H locs ls hP hD hS hl
            try dsimp only at hP hD hl ⊢
            refine lv_istore (lv' := [(8, .int k0_5), (0, .ref q_t), (1, .int v1_1), (2, .int v2_1), (3, .int v3_1), (4, .int v4_1), (5, .int v5_1), (6, .int (t_text v5_1.toNatClampNeg)), (7, .int k0_2)]) hx hb dX6_fault_109 hl (by decide) rfl (fun ls hl => ?_)
            refine lv_iload hx hb dX6_fault_111 (lv_at hl 8 rfl) ?_
            refine lv_if_eq (tgt := 158) hx hb dX6_fault_113 (by decide) (fun c_113 => ?_) (fun c_113 => ?_)
            · replace hE := (if_pos c_113).symm.trans hE
              refine lv_iload hx hb dX6_fault_158 (lv_at hl 7 rfl) ?_
              refine lv_bipush (v := 43) hx hb dX6_fault_160 (by decide) ?_
              obtain ⟨o_2, hEp, hk9, hr_2⟩ := jn_some hE
              have ih_2 : ∀ (x6 : Int32), o_2 = .inl x6 → ∀ (H : Heap) (locs : List Loc) (ls : Array Slot), va_P G.1 vwCl [oX6 q_t t_length q_t_text t_size q_t_sign t_otherSize q_t_other q_t_before t_undoMany w_t_readSize_1 q_t_read q_t_side q_t_tall q_t_endRow q_t_endColumn q_t_endSide q_t_gone t_lineRow t_lineColumn t_lineSide t_lineMany q_t_ways q_t_codes q_t_many, aI (G.2 1) q_t_text 200 t_text, aI (G.2 1) q_t_read 36 w_t_read_1] H → va_D A [oX6 q_t t_length q_t_text t_size q_t_sign t_otherSize q_t_other q_t_before t_undoMany w_t_readSize_1 q_t_read q_t_side q_t_tall q_t_endRow q_t_endColumn q_t_endSide q_t_gone t_lineRow t_lineColumn t_lineSide t_lineMany q_t_ways q_t_codes q_t_many, aI (G.2 1) q_t_text 200 t_text, aI (G.2 1) q_t_read 36 w_t_read_1] → va_S A s.heap H locs → lv_has ls 11 [(0, .ref q_t), (1, .int v1_1), (2, .int v2_1), (3, .int v3_1), (4, .int v4_1), (5, .int v5_1), (8, .int k0_5)] → W p l e (headSpec wsX6_fault ({ frames := 1, cells := 0, slots := 0, locals := 25 })).room s m ([.ref q_t] : List Value).toArray below meth c H locs 0 0 Q (F0 m 181 ls [.int x6]) := by
                intro x6 ho9
                have hE := hk9 _ ho9
                obtain ⟨k0_6, ex9⟩ : ∃ z, z = x6 := ⟨_, rfl⟩
                subst ex9
                try dsimp only at hE
                intro H locs ls hP hD hS hl
                try dsimp only at hP hD hl ⊢
                refine lv_istore (lv' := [(9, .int k0_6), (0, .ref q_t), (1, .int v1_1), (2, .int v2_1), (3, .int v3_1), (4, .int v4_1), (5, .int v5_1), (8, .int k0_5)]) hx hb dX6_fault_181 hl (by decide) rfl (fun ls hl => ?_)
                refine lv_iload hx hb dX6_fault_183 (lv_at hl 5 rfl) ?_
                refine lv_iload_n hx hb dX6_fault_185 rfl (lv_at hl 3 rfl) ?_
                refine lv_ishr hx hb dX6_fault_186 ?_
                refine lv_iconst (v := 1) hx hb dX6_fault_187 (by decide) ?_
                refine lv_iand hx hb dX6_fault_188 ?_
                refine lv_iload hx hb dX6_fault_189 (lv_at hl 0 rfl) ?_
                refine lv_iadd hx hb dX6_fault_191 ?_
                refine lv_istore (lv' := [(10, .int (((v4_1 >>> (v2_1 &&& 31)) &&& (1 : Int32)) + k0_6)), (9, .int k0_6), (0, .ref q_t), (1, .int v1_1), (2, .int v2_1), (3, .int v3_1), (4, .int v4_1), (5, .int v5_1), (8, .int k0_5)]) hx hb dX6_fault_192 hl (by decide) rfl (fun ls hl => ?_)
                refine lv_iload_n hx hb dX6_fault_194 rfl (lv_at hl 4 rfl) ?_
                refine lv_iload hx hb dX6_fault_195 (lv_at hl 8 rfl) ?_
                refine lv_icmp_eq (tgt := 224) hx hb dX6_fault_197 (by decide) (fun c_197 => ?_) (fun c_197 => ?_)
                · replace hE := (if_pos c_197).symm.trans hE
                  refine lv_iload hx hb dX6_fault_224 (lv_at hl 7 rfl) ?_
                  have e_1 := Option.some.inj hE
                  have e_0 := hr_1 _ e_1.symm
                  subst e_0
                  rw [hQ]
                  exact W.iret (v := v5_1) hx hb hr (fun t ht _ => ⟨⟨_, (), rfl, rfl, by rw [ht]; exact hP, hD⟩, hS.F ht⟩) hS.2.2 dX6_fault_226
                · replace hE := (if_neg c_197).symm.trans hE
                  refine lv_iload_n hx hb dX6_fault_200 rfl (lv_at hl 5 rfl) ?_
                  refine lv_iload hx hb dX6_fault_201 (lv_at hl 1 rfl) ?_
                  refine lv_iadd hx hb dX6_fault_203 ?_
                  refine lv_i2l (v := (v3_1 + k0_6).toInt64) hx hb dX6_fault_204 rfl ?_
                  refine lv_lconst (v := 0) hx hb dX6_fault_205 (by decide) ?_
                  refine lv_lconst (v := 1) hx hb dX6_fault_206 (by decide) ?_
                  obtain ⟨y207, hC_207, hE⟩ := Option.bind_eq_some_iff.mp hE
                  obtain ⟨r_207, ex9⟩ : ∃ z, z = y207 := ⟨_, rfl⟩
                  subst ex9
                  try dsimp only at hE
                  refine vp_callSi (va_Run.run (va_runS (As := [.long ((v3_1 + k0_6).toInt64), .long (0 : Int64), .long (1 : Int64)]) (rest := []) ⟨hx, hb, hml, hown, hts⟩ (c_X6_in (l := l) (G := G) (p1 := (v3_1 + k0_6).toInt64) (p2 := (0 : Int64)) (p3 := (1 : Int64)) hC_207) (va_cwS 3 hts gX6_fault_X6_in rfl rfl rfl kd_X6_in ⟨Nat.le_of_ble_eq_true rfl, Nat.le_of_ble_eq_true rfl⟩) (pv_S hKW (hP.sub (ws' := []) [] rfl)) rfl rfl hl.1 rfl (lv_room (Nat.le_of_ble_eq_true rfl)) dX6_fault_207 ⟨Nat.zero_le _, Nat.zero_le _⟩)) (fun r9 hr9 => ?_)
                  subst r9
                  refine lv_if_eq (tgt := 224) hx hb dX6_fault_210 (by decide) (fun c_210 => ?_) (fun c_210 => ?_)
                  · replace hE := (if_pos c_210).symm.trans hE
                    refine lv_iload hx hb dX6_fault_224 (lv_at hl 7 rfl) ?_
                    have e_1 := Option.some.inj hE
                    have e_0 := hr_1 _ e_1.symm
                    subst e_0
                    rw [hQ]
                    exact W.iret (v := v5_1) hx hb hr (fun t ht _ => ⟨⟨_, (), rfl, rfl, by rw [ht]; exact hP, hD⟩, hS.F ht⟩) hS.2.2 dX6_fault_226
                  · replace hE := (if_neg c_210).symm.trans hE
                    refine lv_iload hx hb dX6_fault_213 (lv_at hl 0 rfl) ?_
                    refine lv_i2l (v := (((v4_1 >>> (v2_1 &&& 31)) &&& (1 : Int32)) + k0_6).toInt64) hx hb dX6_fault_215 rfl ?_
                    refine lv_lconst (v := 0) hx hb dX6_fault_216 (by decide) ?_
                    refine lv_lconst (v := 1) hx hb dX6_fault_217 (by decide) ?_
                    obtain ⟨y218, hC_218, hE⟩ := Option.bind_eq_some_iff.mp hE
                    obtain ⟨r_218, ex9⟩ : ∃ z, z = y218 := ⟨_, rfl⟩
                    subst ex9
                    try dsimp only at hE
                    refine vp_callSi (va_Run.run (va_runS (As := [.long ((((v4_1 >>> (v2_1 &&& 31)) &&& (1 : Int32)) + k0_6).toInt64), .long (0 : Int64), .long (1 : Int64)]) (rest := []) ⟨hx, hb, hml, hown, hts⟩ (c_X6_in (l := l) (G := G) (p1 := (((v4_1 >>> (v2_1 &&& 31)) &&& (1 : Int32)) + k0_6).toInt64) (p2 := (0 : Int64)) (p3 := (1 : Int64)) hC_218) (va_cwS 3 hts gX6_fault_X6_in rfl rfl rfl kd_X6_in ⟨Nat.le_of_ble_eq_true rfl, Nat.le_of_ble_eq_true rfl⟩) (pv_S hKW (hP.sub (ws' := []) [] rfl)) rfl rfl hl.1 rfl (lv_room (Nat.le_of_ble_eq_true rfl)) dX6_fault_218 ⟨Nat.zero_le _, Nat.zero_le _⟩)) (fun r9 hr9 => ?_)
                    subst r9
                    refine lv_if_ne (tgt := 227) hx hb dX6_fault_221 (by decide) (fun c_221 => ?_) (fun c_221 => ?_)
                    · replace hE := (if_neg c_221).symm.trans hE
                      refine lv_iload_n hx hb dX6_fault_227 rfl (lv_at hl 5 rfl) ?_
                      refine lv_iload hx hb dX6_fault_228 (lv_at hl 1 rfl) ?_
                      refine lv_iadd hx hb dX6_fault_230 ?_
                      refine lv_istore_n (lv' := [(3, .int (v3_1 + k0_6)), (10, .int (((v4_1 >>> (v2_1 &&& 31)) &&& (1 : Int32)) + k0_6)), (9, .int k0_6), (0, .ref q_t), (1, .int v1_1), (2, .int v2_1), (4, .int v4_1), (5, .int v5_1), (8, .int k0_5)]) hx hb dX6_fault_231 rfl hl (by decide) rfl (fun ls hl => ?_)
                      refine lv_iload hx hb dX6_fault_232 (lv_at hl 1 rfl) ?_
                      refine lv_iconst (v := 1) hx hb dX6_fault_234 (by decide) ?_
                      obtain ⟨o_2, hEp, hk9, hr_2⟩ := jn_some hE
                      have ih_2 : ∀ (x7 : Int32), o_2 = .inl x7 → ∀ (H : Heap) (locs : List Loc) (ls : Array Slot), va_P G.1 vwCl [oX6 q_t t_length q_t_text t_size q_t_sign t_otherSize q_t_other q_t_before t_undoMany w_t_readSize_1 q_t_read q_t_side q_t_tall q_t_endRow q_t_endColumn q_t_endSide q_t_gone t_lineRow t_lineColumn t_lineSide t_lineMany q_t_ways q_t_codes q_t_many, aI (G.2 1) q_t_text 200 t_text, aI (G.2 1) q_t_read 36 w_t_read_1] H → va_D A [oX6 q_t t_length q_t_text t_size q_t_sign t_otherSize q_t_other q_t_before t_undoMany w_t_readSize_1 q_t_read q_t_side q_t_tall q_t_endRow q_t_endColumn q_t_endSide q_t_gone t_lineRow t_lineColumn t_lineSide t_lineMany q_t_ways q_t_codes q_t_many, aI (G.2 1) q_t_text 200 t_text, aI (G.2 1) q_t_read 36 w_t_read_1] → va_S A s.heap H locs → lv_has ls 11 [(0, .ref q_t), (1, .int v1_1), (2, .int v2_1), (3, .int (v3_1 + k0_6)), (5, .int v5_1), (9, .int k0_6)] → W p l e (headSpec wsX6_fault ({ frames := 1, cells := 0, slots := 0, locals := 25 })).room s m ([.ref q_t] : List Value).toArray below meth c H locs 0 0 Q (F0 m 255 ls [.int x7]) := by
                        intro x7 ho9
                        have hE := hk9 _ ho9
                        obtain ⟨k0_7, ex9⟩ : ∃ z, z = x7 := ⟨_, rfl⟩
                        subst ex9
                        try dsimp only at hE
                        intro H locs ls hP hD hS hl
                        try dsimp only at hP hD hl ⊢
                        refine lv_istore (lv' := [(4, .int k0_7), (0, .ref q_t), (1, .int v1_1), (2, .int v2_1), (3, .int (v3_1 + k0_6)), (5, .int v5_1), (9, .int k0_6)]) hx hb dX6_fault_255 hl (by decide) rfl (fun ls hl => ?_)
                        refine lv_aload_n hx hb dX6_fault_257 rfl (lv_at hl 1 rfl) ?_
                        refine va_get (D := G.1) (ci := 6) (v := .ref q_t_read) (C := RX6) (T := TX6) (N := 23) hx hb hts iX6 hown hK hP 0 rfl rfl 9 (by decide) fl_22 (fun _ h9 => h9) rfl dX6_fault_258 ?_
                        refine lv_bipush (v := 6) hx hb dX6_fault_261 (by decide) ?_
                        refine lv_iload_n hx hb dX6_fault_263 rfl (lv_at hl 2 rfl) ?_
                        refine lv_imul hx hb dX6_fault_264 ?_
                        refine lv_iload_n hx hb dX6_fault_265 rfl (lv_at hl 3 rfl) ?_
                        refine lv_iadd hx hb dX6_fault_266 ?_
                        refine lv_iload hx hb dX6_fault_267 (lv_at hl 6 rfl) ?_
                        obtain ⟨hi_269, hE⟩ := ck_some hE
                        refine va_iast hx hb hK hP hD hS 2 1 rfl rfl (inb_in hi_269) dX6_fault_269 (fun H locs hP hD hS => ?_)
                        have hP : va_P G.1 vwCl [oX6 q_t t_length q_t_text t_size q_t_sign t_otherSize q_t_other q_t_before t_undoMany w_t_readSize_1 q_t_read q_t_side q_t_tall q_t_endRow q_t_endColumn q_t_endSide q_t_gone t_lineRow t_lineColumn t_lineSide t_lineMany q_t_ways q_t_codes q_t_many, aI (G.2 1) q_t_text 200 t_text, aI (G.2 1) q_t_read 36 (upd w_t_read_1 (((6 : Int32) * v1_1) + v2_1).toNatClampNeg k0_6)] H := hP
                        have hD : va_D A [oX6 q_t t_length q_t_text t_size q_t_sign t_otherSize q_t_other q_t_before t_undoMany w_t_readSize_1 q_t_read q_t_side q_t_tall q_t_endRow q_t_endColumn q_t_endSide q_t_gone t_lineRow t_lineColumn t_lineSide t_lineMany q_t_ways q_t_codes q_t_many, aI (G.2 1) q_t_text 200 t_text, aI (G.2 1) q_t_read 36 (upd w_t_read_1 (((6 : Int32) * v1_1) + v2_1).toNatClampNeg k0_6)] := hD
                        refine lv_iinc (v := v2_1 + (1 : Int32)) (lv' := [(2, .int (v2_1 + (1 : Int32))), (4, .int k0_7), (0, .ref q_t), (1, .int v1_1), (3, .int (v3_1 + k0_6)), (5, .int v5_1), (9, .int k0_6)]) hx hb dX6_fault_270 hl (k := 3) rfl rfl (by decide) rfl (fun ls hl => ?_)
                        refine lv_iinc (v := v5_1 + (1 : Int32)) (lv' := [(5, .int (v5_1 + (1 : Int32))), (2, .int (v2_1 + (1 : Int32))), (4, .int k0_7), (0, .ref q_t), (1, .int v1_1), (3, .int (v3_1 + k0_6)), (9, .int k0_6)]) hx hb dX6_fault_273 hl (k := 5) rfl rfl (by decide) rfl (fun ls hl => ?_)
                        refine lv_goto (tgt := 17) hx hb dX6_fault_276 (by decide) ?_
                        have e_1 := Option.some.inj hE
                        exact ih_1 _ e_1.symm _ _ ls hP hD hS (lv_sub hl [3, 4, 1, 5, 2, 0] rfl)
                      clear hE hk9
                      have hE := hEp
                      clear hEp
                      refine lv_icmp_ne (tgt := 247) hx hb dX6_fault_235 (by decide) (fun c_235 => ?_) (fun c_235 => ?_)
                      · replace hE := (if_neg c_235).symm.trans hE
                        refine lv_iload hx hb dX6_fault_247 (lv_at hl 6 rfl) ?_
                        refine lv_iconst (v := 1) hx hb dX6_fault_249 (by decide) ?_
                        refine lv_iload_n hx hb dX6_fault_250 rfl (lv_at hl 5 rfl) ?_
                        refine lv_ishl hx hb dX6_fault_251 ?_
                        refine lv_iconst (v := -1) hx hb dX6_fault_252 (by decide) ?_
                        refine lv_ixor hx hb dX6_fault_253 ?_
                        refine lv_iand hx hb dX6_fault_254 ?_
                        have e_2 := Option.some.inj hE
                        exact ih_2 _ e_2.symm _ _ ls hP hD hS (lv_sub hl [3, 4, 5, 0, 7, 2] rfl)
                      · replace hE := (if_pos c_235).symm.trans hE
                        refine lv_iload hx hb dX6_fault_238 (lv_at hl 6 rfl) ?_
                        refine lv_iconst (v := 1) hx hb dX6_fault_240 (by decide) ?_
                        refine lv_iload_n hx hb dX6_fault_241 rfl (lv_at hl 5 rfl) ?_
                        refine lv_ishl hx hb dX6_fault_242 ?_
                        refine lv_ior hx hb dX6_fault_243 ?_
                        refine lv_goto (tgt := 255) hx hb dX6_fault_244 (by decide) ?_
                        have e_2 := Option.some.inj hE
                        exact ih_2 _ e_2.symm _ _ ls hP hD hS (lv_sub hl [3, 4, 5, 0, 7, 2] rfl)
                    · replace hE := (if_pos c_221).symm.trans hE
                      refine lv_iload hx hb dX6_fault_224 (lv_at hl 7 rfl) ?_
                      have e_1 := Option.some.inj hE
                      have e_0 := hr_1 _ e_1.symm
                      subst e_0
                      rw [hQ]
                      exact W.iret (v := v5_1) hx hb hr (fun t ht _ => ⟨⟨_, (), rfl, rfl, by rw [ht]; exact hP, hD⟩, hS.F ht⟩) hS.2.2 dX6_fault_226
              clear hE hk9
              have hE := hEp
              clear hEp
              refine lv_icmp_ne (tgt := 169) hx hb dX6_fault_162 (by decide) (fun c_162 => ?_) (fun c_162 => ?_)
              · replace hE := (if_neg c_162).symm.trans hE
                refine lv_iload hx hb dX6_fault_169 (lv_at hl 7 rfl) ?_
                refine lv_bipush (v := 45) hx hb dX6_fault_171 (by decide) ?_
                refine lv_icmp_ne (tgt := 180) hx hb dX6_fault_173 (by decide) (fun c_173 => ?_) (fun c_173 => ?_)
                · replace hE := (if_neg c_173).symm.trans hE
                  refine lv_iconst (v := 0) hx hb dX6_fault_180 (by decide) ?_
                  have e_2 := Option.some.inj hE
                  exact ih_2 _ e_2.symm _ _ ls hP hD hS (lv_sub hl [1, 2, 3, 4, 5, 6, 0] rfl)
                · replace hE := (if_pos c_173).symm.trans hE
                  refine lv_iconst (v := -1) hx hb dX6_fault_176 (by decide) ?_
                  refine lv_goto (tgt := 181) hx hb dX6_fault_177 (by decide) ?_
                  have e_2 := Option.some.inj hE
                  exact ih_2 _ e_2.symm _ _ ls hP hD hS (lv_sub hl [1, 2, 3, 4, 5, 6, 0] rfl)
              · replace hE := (if_pos c_162).symm.trans hE
                refine lv_iconst (v := 1) hx hb dX6_fault_165 (by decide) ?_
                refine lv_goto (tgt := 181) hx hb dX6_fault_166 (by decide) ?_
                have e_2 := Option.some.inj hE
                exact ih_2 _ e_2.symm _ _ ls hP hD hS (lv_sub hl [1, 2, 3, 4, 5, 6, 0] rfl)
            · replace hE := (if_neg c_113).symm.trans hE
              refine lv_iload_n hx hb dX6_fault_116 rfl (lv_at hl 3 rfl) ?_
              refine lv_if_eq (tgt := 140) hx hb dX6_fault_117 (by decide) (fun c_117 => ?_) (fun c_117 => ?_)
              · replace hE := (if_pos c_117).symm.trans hE
                refine lv_iload hx hb dX6_fault_140 (lv_at hl 6 rfl) ?_
                have e_1 := Option.some.inj hE
                have e_0 := hr_1 _ e_1.symm
                subst e_0
                rw [hQ]
                exact W.iret (v := v5_1) hx hb hr (fun t ht _ => ⟨⟨_, (), rfl, rfl, by rw [ht]; exact hP, hD⟩, hS.F ht⟩) hS.2.2 dX6_fault_142
              · replace hE := (if_neg c_117).symm.trans hE
                refine lv_aload_n hx hb dX6_fault_120 rfl (lv_at hl 1 rfl) ?_
                refine va_get (D := G.1) (ci := 6) (v := .int w_t_readSize_1) (C := RX6) (T := TX6) (N := 23) hx hb hts iX6 hown hK hP 0 rfl rfl 8 (by decide) fl_69 (fun _ h9 => h9) rfl dX6_fault_121 ?_
                obtain ⟨o_2, hEp, hk9, hr_2⟩ := jn_some hE
                have ih_2 : ∀ (x8 : Unit), o_2 = .inl x8 → ∀ (H : Heap) (locs : List Loc) (ls : Array Slot), va_P G.1 vwCl [oX6 q_t t_length q_t_text t_size q_t_sign t_otherSize q_t_other q_t_before t_undoMany w_t_readSize_1 q_t_read q_t_side q_t_tall q_t_endRow q_t_endColumn q_t_endSide q_t_gone t_lineRow t_lineColumn t_lineSide t_lineMany q_t_ways q_t_codes q_t_many, aI (G.2 1) q_t_text 200 t_text, aI (G.2 1) q_t_read 36 w_t_read_1] H → va_D A [oX6 q_t t_length q_t_text t_size q_t_sign t_otherSize q_t_other q_t_before t_undoMany w_t_readSize_1 q_t_read q_t_side q_t_tall q_t_endRow q_t_endColumn q_t_endSide q_t_gone t_lineRow t_lineColumn t_lineSide t_lineMany q_t_ways q_t_codes q_t_many, aI (G.2 1) q_t_text 200 t_text, aI (G.2 1) q_t_read 36 w_t_read_1] → va_S A s.heap H locs → lv_has ls 11 [(0, .ref q_t), (1, .int v1_1), (2, .int v2_1), (3, .int v3_1), (4, .int v4_1), (5, .int v5_1)] → W p l e (headSpec wsX6_fault ({ frames := 1, cells := 0, slots := 0, locals := 25 })).room s m ([.ref q_t] : List Value).toArray below meth c H locs 0 0 Q (F0 m 135 ls []) := by
                  intro x8 ho9
                  have hE := hk9 _ ho9
                  try dsimp only at hE
                  intro H locs ls hP hD hS hl
                  try dsimp only at hP hD hl ⊢
                  refine lv_iload_n hx hb dX6_fault_135 rfl (lv_at hl 3 rfl) ?_
                  refine lv_iconst (v := 1) hx hb dX6_fault_136 (by decide) ?_
                  refine lv_icmp_eq (tgt := 143) hx hb dX6_fault_137 (by decide) (fun c_137 => ?_) (fun c_137 => ?_)
                  · replace hE := (if_pos c_137).symm.trans hE
                    refine lv_aload_n hx hb dX6_fault_143 rfl (lv_at hl 0 rfl) ?_
                    refine lv_iload_n hx hb dX6_fault_144 rfl (lv_at hl 2 rfl) ?_
                    refine va_put (D := G.1) (ci := 6) (v := .int v2_1) (ty := .int) (C := RX6) (T := TX6) (N := 23) hx hb hts iX6 tyX6 tyX6_ok nmX6 hown hK hP hD hS 0 rfl rfl 8 (by decide) fl_69 (fun _ h9 => h9) rfl (by decide +kernel) rfl rfl (Nat.le_of_ble_eq_true rfl) dX6_fault_145 (fun H locs hP hD hS => ?_)
                    have hP : va_P G.1 vwCl [oX6 q_t t_length q_t_text t_size q_t_sign t_otherSize q_t_other q_t_before t_undoMany v2_1 q_t_read q_t_side q_t_tall q_t_endRow q_t_endColumn q_t_endSide q_t_gone t_lineRow t_lineColumn t_lineSide t_lineMany q_t_ways q_t_codes q_t_many, aI (G.2 1) q_t_text 200 t_text, aI (G.2 1) q_t_read 36 w_t_read_1] H := hP
                    have hD : va_D A [oX6 q_t t_length q_t_text t_size q_t_sign t_otherSize q_t_other q_t_before t_undoMany v2_1 q_t_read q_t_side q_t_tall q_t_endRow q_t_endColumn q_t_endSide q_t_gone t_lineRow t_lineColumn t_lineSide t_lineMany q_t_ways q_t_codes q_t_many, aI (G.2 1) q_t_text 200 t_text, aI (G.2 1) q_t_read 36 w_t_read_1] := hD
                    refine lv_iinc (v := v1_1 + (1 : Int32)) (lv' := [(1, .int (v1_1 + (1 : Int32))), (0, .ref q_t), (2, .int v2_1), (3, .int v3_1), (4, .int v4_1), (5, .int v5_1)]) hx hb dX6_fault_148 hl (k := 1) rfl rfl (by decide) rfl (fun ls hl => ?_)
                    refine lv_iconst (v := 0) hx hb dX6_fault_151 (by decide) ?_
                    refine lv_istore_n (lv' := [(2, .int (0 : Int32)), (1, .int (v1_1 + (1 : Int32))), (0, .ref q_t), (3, .int v3_1), (4, .int v4_1), (5, .int v5_1)]) hx hb dX6_fault_152 rfl hl (by decide) rfl (fun ls hl => ?_)
                    refine lv_iconst (v := 0) hx hb dX6_fault_153 (by decide) ?_
                    refine lv_istore_n (lv' := [(3, .int (0 : Int32)), (2, .int (0 : Int32)), (1, .int (v1_1 + (1 : Int32))), (0, .ref q_t), (4, .int v4_1), (5, .int v5_1)]) hx hb dX6_fault_154 rfl hl (by decide) rfl (fun ls hl => ?_)
                    refine lv_goto (tgt := 273) hx hb dX6_fault_155 (by decide) ?_
                    refine lv_iinc (v := v5_1 + (1 : Int32)) (lv' := [(5, .int (v5_1 + (1 : Int32))), (3, .int (0 : Int32)), (2, .int (0 : Int32)), (1, .int (v1_1 + (1 : Int32))), (0, .ref q_t), (4, .int v4_1)]) hx hb dX6_fault_273 hl (k := 5) rfl rfl (by decide) rfl (fun ls hl => ?_)
                    refine lv_goto (tgt := 17) hx hb dX6_fault_276 (by decide) ?_
                    have e_1 := Option.some.inj hE
                    exact ih_1 _ e_1.symm _ _ ls hP hD hS (lv_sub hl [4, 3, 2, 1, 5, 0] rfl)
                  · replace hE := (if_neg c_137).symm.trans hE
                    refine lv_iload hx hb dX6_fault_140 (lv_at hl 5 rfl) ?_
                    have e_1 := Option.some.inj hE
                    have e_0 := hr_1 _ e_1.symm
                    subst e_0
                    rw [hQ]
                    exact W.iret (v := v5_1) hx hb hr (fun t ht _ => ⟨⟨_, (), rfl, rfl, by rw [ht]; exact hP, hD⟩, hS.F ht⟩) hS.2.2 dX6_fault_142
                clear hE hk9
                have hE := hEp
                clear hEp
                refine lv_if_le (tgt := 135) hx hb dX6_fault_124 (by decide) (fun c_124 => ?_) (fun c_124 => ?_)
                · replace hE := (if_pos c_124).symm.trans hE
                  have e_2 := Option.some.inj hE
                  exact ih_2 _ e_2.symm _ _ ls hP hD hS (lv_sub hl [1, 2, 3, 4, 5, 6] rfl)
                · replace hE := (if_neg c_124).symm.trans hE
                  refine lv_iload_n hx hb dX6_fault_127 rfl (lv_at hl 3 rfl) ?_
                  refine lv_aload_n hx hb dX6_fault_128 rfl (lv_at hl 1 rfl) ?_
                  refine va_get (D := G.1) (ci := 6) (v := .int w_t_readSize_1) (C := RX6) (T := TX6) (N := 23) hx hb hts iX6 hown hK hP 0 rfl rfl 8 (by decide) fl_69 (fun _ h9 => h9) rfl dX6_fault_129 ?_
                  refine lv_icmp_lt (tgt := 140) hx hb dX6_fault_132 (by decide) (fun c_132 => ?_) (fun c_132 => ?_)
                  · replace hE := (if_pos c_132).symm.trans hE
                    refine lv_iload hx hb dX6_fault_140 (lv_at hl 6 rfl) ?_
                    have e_2 := Option.some.inj hE
                    have e_1 := hr_2 _ e_2.symm
                    have e_0 := hr_1 _ e_1.symm
                    subst e_0
                    rw [hQ]
                    exact W.iret (v := v5_1) hx hb hr (fun t ht _ => ⟨⟨_, (), rfl, rfl, by rw [ht]; exact hP, hD⟩, hS.F ht⟩) hS.2.2 dX6_fault_142
                  · replace hE := (if_neg c_132).symm.trans hE
                    have e_2 := Option.some.inj hE
                    exact ih_2 _ e_2.symm _ _ ls hP hD hS (lv_sub hl [1, 2, 3, 4, 5, 6] rfl)
          clear hE hk9
          have hE := hEp
          clear hEp
          refine lv_if_le (tgt := 107) hx hb dX6_fault_97 (by decide) (fun c_97 => ?_) (fun c_97 => ?_)
          · replace hE := (if_pos c_97).symm.trans hE
            refine lv_bipush (v := 6) hx hb dX6_fault_107 (by decide) ?_
            have e_2 := Option.some.inj hE
            exact ih_2 _ e_2.symm _ _ ls hP hD hS (lv_sub hl [0, 1, 2, 3, 4, 5, 6, 7] rfl)
          · replace hE := (if_neg c_97).symm.trans hE
            refine lv_aload_n hx hb dX6_fault_100 rfl (lv_at hl 0 rfl) ?_
            refine va_get (D := G.1) (ci := 6) (v := .int w_t_readSize_1) (C := RX6) (T := TX6) (N := 23) hx hb hts iX6 hown hK hP 0 rfl rfl 8 (by decide) fl_69 (fun _ h9 => h9) rfl dX6_fault_101 ?_
            refine lv_goto (tgt := 109) hx hb dX6_fault_104 (by decide) ?_
            have e_2 := Option.some.inj hE
            exact ih_2 _ e_2.symm _ _ ls hP hD hS (lv_sub hl [0, 1, 2, 3, 4, 5, 6, 7] rfl)
        clear hE hk9
        have hE := hEp
        clear hEp
        refine lv_if_le (tgt := 93) hx hb dX6_fault_79 (by decide) (fun c_79 => ?_) (fun c_79 => ?_)
        · replace hE := (if_pos c_79).symm.trans hE
          have e_2 := Option.some.inj hE
          exact ih_2 _ e_2.symm _ _ ls hP hD hS (lv_sub hl [0, 1, 2, 3, 4, 5, 6, 7] rfl)
        · replace hE := (if_neg c_79).symm.trans hE
          refine lv_iload_n hx hb dX6_fault_82 rfl (lv_at hl 1 rfl) ?_
          refine lv_aload_n hx hb dX6_fault_83 rfl (lv_at hl 0 rfl) ?_
          refine va_get (D := G.1) (ci := 6) (v := .int w_t_readSize_1) (C := RX6) (T := TX6) (N := 23) hx hb hts iX6 hown hK hP 0 rfl rfl 8 (by decide) fl_69 (fun _ h9 => h9) rfl dX6_fault_84 ?_
          refine lv_icmp_ne (tgt := 93) hx hb dX6_fault_87 (by decide) (fun c_87 => ?_) (fun c_87 => ?_)
          · replace hE := (if_neg c_87).symm.trans hE
            have e_2 := Option.some.inj hE
            exact ih_2 _ e_2.symm _ _ ls hP hD hS (lv_sub hl [0, 1, 2, 3, 4, 5, 6, 7] rfl)
          · replace hE := (if_pos c_87).symm.trans hE
            refine lv_iload hx hb dX6_fault_90 (lv_at hl 5 rfl) ?_
            have e_2 := Option.some.inj hE
            have e_1 := hr_2 _ e_2.symm
            have e_0 := hr_1 _ e_1.symm
            subst e_0
            rw [hQ]
            exact W.iret (v := v5_1) hx hb hr (fun t ht _ => ⟨⟨_, (), rfl, rfl, by rw [ht]; exact hP, hD⟩, hS.F ht⟩) hS.2.2 dX6_fault_92
      clear hE hk9
      have hE := hEp
      clear hEp
      refine lv_if_ne (tgt := 75) hx hb dX6_fault_51 (by decide) (fun c_51 => ?_) (fun c_51 => ?_)
      · replace hE := (if_neg c_51).symm.trans hE
        have e_2 := Option.some.inj hE
        exact ih_2 _ e_2.symm _ _ ls hP hD hS (lv_sub hl [1, 2, 3, 4, 5, 6, 7, 0] rfl)
      · replace hE := (if_pos c_51).symm.trans hE
        refine lv_iload hx hb dX6_fault_54 (lv_at hl 7 rfl) ?_
        refine lv_bipush (v := 43) hx hb dX6_fault_56 (by decide) ?_
        refine lv_icmp_eq (tgt := 75) hx hb dX6_fault_58 (by decide) (fun c_58 => ?_) (fun c_58 => ?_)
        · replace hE := (if_pos c_58).symm.trans hE
          have e_2 := Option.some.inj hE
          exact ih_2 _ e_2.symm _ _ ls hP hD hS (lv_sub hl [1, 2, 3, 4, 5, 6, 7, 0] rfl)
        · replace hE := (if_neg c_58).symm.trans hE
          refine lv_iload hx hb dX6_fault_61 (lv_at hl 7 rfl) ?_
          refine lv_bipush (v := 45) hx hb dX6_fault_63 (by decide) ?_
          refine lv_icmp_eq (tgt := 75) hx hb dX6_fault_65 (by decide) (fun c_65 => ?_) (fun c_65 => ?_)
          · replace hE := (if_pos c_65).symm.trans hE
            have e_2 := Option.some.inj hE
            exact ih_2 _ e_2.symm _ _ ls hP hD hS (lv_sub hl [1, 2, 3, 4, 5, 6, 7, 0] rfl)
          · replace hE := (if_neg c_65).symm.trans hE
            refine lv_iload hx hb dX6_fault_68 (lv_at hl 7 rfl) ?_
            refine lv_bipush (v := 48) hx hb dX6_fault_70 (by decide) ?_
            refine lv_icmp_ne (tgt := 90) hx hb dX6_fault_72 (by decide) (fun c_72 => ?_) (fun c_72 => ?_)
            · replace hE := (if_neg c_72).symm.trans hE
              refine lv_iload hx hb dX6_fault_90 (lv_at hl 6 rfl) ?_
              have e_2 := Option.some.inj hE
              have e_1 := hr_2 _ e_2.symm
              have e_0 := hr_1 _ e_1.symm
              subst e_0
              rw [hQ]
              exact W.iret (v := v5_1) hx hb hr (fun t ht _ => ⟨⟨_, (), rfl, rfl, by rw [ht]; exact hP, hD⟩, hS.F ht⟩) hS.2.2 dX6_fault_92
            · replace hE := (if_pos c_72).symm.trans hE
              have e_2 := Option.some.inj hE
              exact ih_2 _ e_2.symm _ _ ls hP hD hS (lv_sub hl [1, 2, 3, 4, 5, 6, 7, 0] rfl)
    clear hE hk9
    have hE := hEp
    clear hEp
    refine lv_icmp_ne (tgt := 46) hx hb dX6_fault_39 (by decide) (fun c_39 => ?_) (fun c_39 => ?_)
    · replace hE := (if_neg c_39).symm.trans hE
      refine lv_iconst (v := 0) hx hb dX6_fault_46 (by decide) ?_
      have e_2 := Option.some.inj hE
      exact ih_2 _ e_2.symm _ _ ls hP hD hS (lv_sub hl [1, 2, 3, 4, 5, 6, 0] rfl)
    · replace hE := (if_pos c_39).symm.trans hE
      refine lv_iconst (v := 1) hx hb dX6_fault_42 (by decide) ?_
      refine lv_goto (tgt := 47) hx hb dX6_fault_43 (by decide) ?_
      have e_2 := Option.some.inj hE
      exact ih_2 _ e_2.symm _ _ ls hP hD hS (lv_sub hl [1, 2, 3, 4, 5, 6, 0] rfl)
def S_X6_copy (p1 : Nat → Int32) (p2 : Nat → Int32) : Option (Nat → Int32) := itr (fun (x1 : Int32 × (Nat → Int32)) => if (36 : Int32) ≤ x1.1 then some (.inr x1.2) else ck (inb x1.1 36) (ck (inb x1.1 36) (some (.inl (x1.1 + (1 : Int32), upd x1.2 x1.1.toNatClampNeg (p1 x1.1.toNatClampNeg)))))) 10000 ((0 : Int32), p2)
theorem kd_X6_copy : yX6_copy.cls ≠ "java/lang/invoke/MethodHandle" ∧ yX6_copy.cls ≠ "java/lang/invoke/VarHandle" ∧ (parseMethodDescriptor yX6_copy.desc).map (fun d => d.parameters.length) = some 2 := by decide +kernel
set_option maxHeartbeats 4000000 in
set_option maxRecDepth 100000 in
theorem c_X6_copy {l : Launch} {G : kG} (sz : Nat) {q_p1 : Nat} {p1 : Nat → Int32} {q_p2 : Nat} {p2 : Nat → Int32} {res : Nat → Int32} (hE : S_X6_copy p1 p2 = some res) : Met l yX6_copy wsX6_copy ({ frames := 0, cells := 0, slots := 0, locals := 0 }) (va_Pc [.ref q_p1, .ref q_p2] (fun U => U.heap.size = sz ∧ va_P G.1 vwCl [aI (G.2 1) q_p1 36 p1, aI (G.2 1) q_p2 36 p2] U.heap ∧ kw G U ∧ va_D (fun _ => True) [aI (G.2 1) q_p1 36 p1, aI (G.2 1) q_p2 36 p2])) (va_Qv (fun (_ : Unit) => True) (fun _ t => va_P G.1 vwCl [aI (G.2 1) q_p1 36 p1, aI (G.2 1) q_p2 36 res] t.heap ∧ va_D (va_A [aI (G.2 1) q_p1 36 p1, aI (G.2 1) q_p2 36 p2] sz) [aI (G.2 1) q_p1 36 p1, aI (G.2 1) q_p2 36 res]) (va_A [aI (G.2 1) q_p1 36 p1, aI (G.2 1) q_p2 36 p2] sz)) 0 0 (va_A [aI (G.2 1) q_p1 36 p1, aI (G.2 1) q_p2 36 p2] sz) := by
  refine Met.ofQ (cc := cX6_copy) (maxL := 3) (ret := none) (by decide) rfl ?_
  intro p e s m args below meth c s₁ Q hQ B hml hv
  obtain ⟨rfl, hsz, hP, hKW, hD0⟩ := hv
  have hK := hKW.1
  have hx := B.exec
  have hb := B.bytes
  have hr := B.returns
  have hts := atoms_spec (ws := wsX6_copy) B.pre
  have hown : s.vm.findClass RX6 = some m.cls := findClass_of_methodNamed B.named
  have hlocks := B.notSynchronized
  subst hsz
  have hD := hD0.self (sz := s.heap.size)
  generalize hAe : va_A [aI (G.2 1) q_p1 36 p1, aI (G.2 1) q_p2 36 p2] s.heap.size = A at hD hQ
  have hA : ∀ q : Nat, s.heap.size ≤ q → A q := fun q h => by rw [← hAe]; exact Or.inr h
  have hS : va_S A s.heap s.heap [] := va_S.rf
  have hl := lv_entry ([.ref q_p1, .ref q_p2]) (n := 3) (Nat.le_of_ble_eq_true rfl)
  rw [lg_entry_eq]
  generalize (lg_sl ([.ref q_p1, .ref q_p2]) ++ List.replicate (3 - (lg_sl ([.ref q_p1, .ref q_p2])).length) Slot.unset).toArray = ls at hl ⊢
  have hl : lv_has ls 3 [(0, .ref q_p1), (1, .ref q_p2)] := hl
  unfold S_X6_copy at hE
  refine lv_iconst (v := 0) hx hb dX6_copy_0 (by decide) ?_
  refine lv_istore_n (lv' := [(2, .int (0 : Int32)), (0, .ref q_p1), (1, .ref q_p2)]) hx hb dX6_copy_1 rfl hl (by decide) rfl (fun ls hl => ?_)
  refine itr_ind (fun (x1 : Int32 × (Nat → Int32)) => ∀ (H : Heap) (locs : List Loc) (ls : Array Slot), va_P G.1 vwCl [aI (G.2 1) q_p1 36 p1, aI (G.2 1) q_p2 36 x1.2] H → va_D A [aI (G.2 1) q_p1 36 p1, aI (G.2 1) q_p2 36 x1.2] → va_S A s.heap H locs → lv_has ls 3 [(0, .ref q_p1), (1, .ref q_p2), (2, .int x1.1)] → W p l e (headSpec wsX6_copy ({ frames := 0, cells := 0, slots := 0, locals := 0 })).room s m ([.ref q_p1, .ref q_p2] : List Value).toArray below meth c H locs 0 0 Q (F0 m 2 ls [])) (fun x1 o_1 hE ih_1 hr_1 => ?_) _ _ hE _ _ ls hP hD hS (lv_sub hl [1, 2, 0] rfl)
  obtain ⟨v2_1, w_p2_1⟩ := x1
  try dsimp only at hE
  intro H locs ls hP hD hS hl
  try dsimp only at hP hD hl ⊢
  refine lv_iload_n hx hb dX6_copy_2 rfl (lv_at hl 2 rfl) ?_
  refine lv_bipush (v := 36) hx hb dX6_copy_3 (by decide) ?_
  refine lv_icmp_ge (tgt := 20) hx hb dX6_copy_5 (by decide) (fun c_5 => ?_) (fun c_5 => ?_)
  · replace hE := (if_pos c_5).symm.trans hE
    have e_1 := Option.some.inj hE
    have e_0 := hr_1 _ e_1.symm
    subst e_0
    rw [hQ]
    exact W.vret hx hb hr (fun t ht _ => ⟨⟨(), rfl, trivial, by rw [ht]; exact hP, hD⟩, hS.F ht⟩) hS.2.2 dX6_copy_20
  · replace hE := (if_neg c_5).symm.trans hE
    refine lv_aload_n hx hb dX6_copy_8 rfl (lv_at hl 1 rfl) ?_
    refine lv_iload_n hx hb dX6_copy_9 rfl (lv_at hl 2 rfl) ?_
    refine lv_aload_n hx hb dX6_copy_10 rfl (lv_at hl 0 rfl) ?_
    refine lv_iload_n hx hb dX6_copy_11 rfl (lv_at hl 2 rfl) ?_
    obtain ⟨hi_12, hE⟩ := ck_some hE
    refine va_iald hx hb hK hP 0 1 rfl rfl (inb_in hi_12) dX6_copy_12 ?_
    obtain ⟨hi_13, hE⟩ := ck_some hE
    refine va_iast hx hb hK hP hD hS 1 1 rfl rfl (inb_in hi_13) dX6_copy_13 (fun H locs hP hD hS => ?_)
    have hP : va_P G.1 vwCl [aI (G.2 1) q_p1 36 p1, aI (G.2 1) q_p2 36 (upd w_p2_1 v2_1.toNatClampNeg (p1 v2_1.toNatClampNeg))] H := hP
    have hD : va_D A [aI (G.2 1) q_p1 36 p1, aI (G.2 1) q_p2 36 (upd w_p2_1 v2_1.toNatClampNeg (p1 v2_1.toNatClampNeg))] := hD
    refine lv_iinc (v := v2_1 + (1 : Int32)) (lv' := [(2, .int (v2_1 + (1 : Int32))), (0, .ref q_p1), (1, .ref q_p2)]) hx hb dX6_copy_14 hl (k := 2) rfl rfl (by decide) rfl (fun ls hl => ?_)
    refine lv_goto (tgt := 2) hx hb dX6_copy_17 (by decide) ?_
    have e_1 := Option.some.inj hE
    exact ih_1 _ e_1.symm _ _ ls hP hD hS (lv_sub hl [1, 2, 0] rfl)
def S_X6_lay (t_length : Int32) (t_size : Int32) (t_undoMany : Int32) (t_text : Nat → Int32) (t_sign : Nat → Int32) (t_read : Nat → Int32) : Option (Int32 × Int32 × Int32 × Int32 × (Nat → Int32) × (Nat → Int32)) := (S_X6_fault t_length t_text t_read).bind (fun (y1 : Int32 × Int32 × (Nat → Int32)) => if y1.1 = (-4 : Int32) then (S_X6_copy y1.2.2 t_sign).bind (fun (y28 : Nat → Int32) => some (y1.2.1, y1.2.1, (0 : Int32), y1.2.1, y28, y1.2.2)) else some ((-2 : Int32), t_size, t_undoMany, y1.2.1, t_sign, y1.2.2))
theorem kd_X6_lay : yX6_lay.cls = RX6 ∧ yX6_lay.cls ≠ "java/lang/invoke/MethodHandle" ∧ yX6_lay.cls ≠ "java/lang/invoke/VarHandle" ∧ (parseMethodDescriptor yX6_lay.desc).map (fun d => d.parameters.length) = some 0 := by decide +kernel
set_option maxHeartbeats 4000000 in
set_option maxRecDepth 100000 in
theorem c_X6_lay {l : Launch} {G : kG} (sz : Nat) {q_t : Nat} {t_length : Int32} {q_t_text : Nat} {t_size : Int32} {q_t_sign : Nat} {t_otherSize : Int32} {q_t_other : Nat} {q_t_before : Nat} {t_undoMany : Int32} {t_readSize : Int32} {q_t_read : Nat} {q_t_side : Nat} {q_t_tall : Nat} {q_t_endRow : Nat} {q_t_endColumn : Nat} {q_t_endSide : Nat} {q_t_gone : Nat} {t_lineRow : Int32} {t_lineColumn : Int32} {t_lineSide : Int32} {t_lineMany : Int32} {q_t_ways : Nat} {q_t_codes : Nat} {q_t_many : Nat} {t_text : Nat → Int32} {t_sign : Nat → Int32} {t_read : Nat → Int32} {res : Int32 × Int32 × Int32 × Int32 × (Nat → Int32) × (Nat → Int32)} (hE : S_X6_lay t_length t_size t_undoMany t_text t_sign t_read = some res) : Met l yX6_lay wsX6_lay ({ frames := 2, cells := 0, slots := 0, locals := 55 }) (va_Pc [.ref q_t] (fun U => U.heap.size = sz ∧ va_P G.1 vwCl [oX6 q_t t_length q_t_text t_size q_t_sign t_otherSize q_t_other q_t_before t_undoMany t_readSize q_t_read q_t_side q_t_tall q_t_endRow q_t_endColumn q_t_endSide q_t_gone t_lineRow t_lineColumn t_lineSide t_lineMany q_t_ways q_t_codes q_t_many, aI (G.2 1) q_t_text 200 t_text, aI (G.2 1) q_t_sign 36 t_sign, aI (G.2 1) q_t_read 36 t_read] U.heap ∧ kw G U ∧ va_D (fun _ => True) [oX6 q_t t_length q_t_text t_size q_t_sign t_otherSize q_t_other q_t_before t_undoMany t_readSize q_t_read q_t_side q_t_tall q_t_endRow q_t_endColumn q_t_endSide q_t_gone t_lineRow t_lineColumn t_lineSide t_lineMany q_t_ways q_t_codes q_t_many, aI (G.2 1) q_t_text 200 t_text, aI (G.2 1) q_t_sign 36 t_sign, aI (G.2 1) q_t_read 36 t_read])) (va_Qi (fun r (_ : Unit) => r = res.1) (fun _ t => va_P G.1 vwCl [oX6 q_t t_length q_t_text res.2.1 q_t_sign t_otherSize q_t_other q_t_before res.2.2.1 res.2.2.2.1 q_t_read q_t_side q_t_tall q_t_endRow q_t_endColumn q_t_endSide q_t_gone t_lineRow t_lineColumn t_lineSide t_lineMany q_t_ways q_t_codes q_t_many, aI (G.2 1) q_t_text 200 t_text, aI (G.2 1) q_t_sign 36 res.2.2.2.2.1, aI (G.2 1) q_t_read 36 res.2.2.2.2.2] t.heap ∧ va_D (va_A [oX6 q_t t_length q_t_text t_size q_t_sign t_otherSize q_t_other q_t_before t_undoMany t_readSize q_t_read q_t_side q_t_tall q_t_endRow q_t_endColumn q_t_endSide q_t_gone t_lineRow t_lineColumn t_lineSide t_lineMany q_t_ways q_t_codes q_t_many, aI (G.2 1) q_t_text 200 t_text, aI (G.2 1) q_t_sign 36 t_sign, aI (G.2 1) q_t_read 36 t_read] sz) [oX6 q_t t_length q_t_text res.2.1 q_t_sign t_otherSize q_t_other q_t_before res.2.2.1 res.2.2.2.1 q_t_read q_t_side q_t_tall q_t_endRow q_t_endColumn q_t_endSide q_t_gone t_lineRow t_lineColumn t_lineSide t_lineMany q_t_ways q_t_codes q_t_many, aI (G.2 1) q_t_text 200 t_text, aI (G.2 1) q_t_sign 36 res.2.2.2.2.1, aI (G.2 1) q_t_read 36 res.2.2.2.2.2]) (va_A [oX6 q_t t_length q_t_text t_size q_t_sign t_otherSize q_t_other q_t_before t_undoMany t_readSize q_t_read q_t_side q_t_tall q_t_endRow q_t_endColumn q_t_endSide q_t_gone t_lineRow t_lineColumn t_lineSide t_lineMany q_t_ways q_t_codes q_t_many, aI (G.2 1) q_t_text 200 t_text, aI (G.2 1) q_t_sign 36 t_sign, aI (G.2 1) q_t_read 36 t_read] sz)) 0 0 (va_A [oX6 q_t t_length q_t_text t_size q_t_sign t_otherSize q_t_other q_t_before t_undoMany t_readSize q_t_read q_t_side q_t_tall q_t_endRow q_t_endColumn q_t_endSide q_t_gone t_lineRow t_lineColumn t_lineSide t_lineMany q_t_ways q_t_codes q_t_many, aI (G.2 1) q_t_text 200 t_text, aI (G.2 1) q_t_sign 36 t_sign, aI (G.2 1) q_t_read 36 t_read] sz) := by
  refine Met.ofQ (cc := cX6_lay) (maxL := 1) (ret := (some .int)) (by decide) rfl ?_
  intro p e s m args below meth c s₁ Q hQ B hml hv
  obtain ⟨rfl, hsz, hP, hKW, hD0⟩ := hv
  have hK := hKW.1
  have hx := B.exec
  have hb := B.bytes
  have hr := B.returns
  have hts := atoms_spec (ws := wsX6_lay) B.pre
  have hown : s.vm.findClass RX6 = some m.cls := findClass_of_methodNamed B.named
  have hlocks := B.notSynchronized
  have iX6 : ∀ w ∈ u_ws RX6 TX6 23, w ∈ wsX6_lay := by decide +kernel
  have fl_69 := hts (.fieldLink RX6 69 "AlternateSignsModel" "readSize" "I") (by decide +kernel)
  have fl_54 := hts (.fieldLink RX6 54 "AlternateSignsModel" "size" "I") (by decide +kernel)
  have fl_22 := hts (.fieldLink RX6 22 "AlternateSignsModel" "read" "[I") (by decide +kernel)
  have fl_13 := hts (.fieldLink RX6 13 "AlternateSignsModel" "sign" "[I") (by decide +kernel)
  have fl_80 := hts (.fieldLink RX6 80 "AlternateSignsModel" "undoMany" "I") (by decide +kernel)
  subst hsz
  have hD := hD0.self (sz := s.heap.size)
  generalize hAe : va_A [oX6 q_t t_length q_t_text t_size q_t_sign t_otherSize q_t_other q_t_before t_undoMany t_readSize q_t_read q_t_side q_t_tall q_t_endRow q_t_endColumn q_t_endSide q_t_gone t_lineRow t_lineColumn t_lineSide t_lineMany q_t_ways q_t_codes q_t_many, aI (G.2 1) q_t_text 200 t_text, aI (G.2 1) q_t_sign 36 t_sign, aI (G.2 1) q_t_read 36 t_read] s.heap.size = A at hD hQ
  have hA : ∀ q : Nat, s.heap.size ≤ q → A q := fun q h => by rw [← hAe]; exact Or.inr h
  have hS : va_S A s.heap s.heap [] := va_S.rf
  have hl := lv_entry ([.ref q_t]) (n := 1) (Nat.le_of_ble_eq_true rfl)
  rw [lg_entry_eq]
  generalize (lg_sl ([.ref q_t]) ++ List.replicate (1 - (lg_sl ([.ref q_t])).length) Slot.unset).toArray = ls at hl ⊢
  have hl : lv_has ls 1 [(0, .ref q_t)] := hl
  unfold S_X6_lay at hE
  refine lv_aload_n hx hb dX6_lay_0 rfl (lv_at hl 0 rfl) ?_
  obtain ⟨y1, hC_1, hE⟩ := Option.bind_eq_some_iff.mp hE
  obtain ⟨r_1, m_1_0, m_1_1⟩ := y1
  try dsimp only at hE
  have hPc := hP.sub (ws' := [oX6 q_t t_length q_t_text t_size q_t_sign t_otherSize q_t_other q_t_before t_undoMany t_readSize q_t_read q_t_side q_t_tall q_t_endRow q_t_endColumn q_t_endSide q_t_gone t_lineRow t_lineColumn t_lineSide t_lineMany q_t_ways q_t_codes q_t_many, aI (G.2 1) q_t_text 200 t_text, aI (G.2 1) q_t_read 36 t_read]) [0, 1, 3] rfl
  have hDc := hD.sub (ws' := [oX6 q_t t_length q_t_text t_size q_t_sign t_otherSize q_t_other q_t_before t_undoMany t_readSize q_t_read q_t_side q_t_tall q_t_endRow q_t_endColumn q_t_endSide q_t_gone t_lineRow t_lineColumn t_lineSide t_lineMany q_t_ways q_t_codes q_t_many, aI (G.2 1) q_t_text 200 t_text, aI (G.2 1) q_t_read 36 t_read]) [0, 1, 3] (by decide) rfl
  have hFc := va_free (wc := [oX6 q_t t_length q_t_text t_size q_t_sign t_otherSize q_t_other q_t_before t_undoMany t_readSize q_t_read q_t_side q_t_tall q_t_endRow q_t_endColumn q_t_endSide q_t_gone t_lineRow t_lineColumn t_lineSide t_lineMany q_t_ways q_t_codes q_t_many, aI (G.2 1) q_t_text 200 t_text, aI (G.2 1) q_t_read 36 t_read]) hD hS hA [0, 1, 3] rfl
  refine va_calli (va_runV (As := []) (rest := []) ⟨hx, hb, hml, hown, hts⟩ (c_X6_fault (l := l) (G := G) _ (q_t := q_t) (t_length := t_length) (q_t_text := q_t_text) (t_size := t_size) (q_t_sign := q_t_sign) (t_otherSize := t_otherSize) (q_t_other := q_t_other) (q_t_before := q_t_before) (t_undoMany := t_undoMany) (t_readSize := t_readSize) (q_t_read := q_t_read) (q_t_side := q_t_side) (q_t_tall := q_t_tall) (q_t_endRow := q_t_endRow) (q_t_endColumn := q_t_endColumn) (q_t_endSide := q_t_endSide) (q_t_gone := q_t_gone) (t_lineRow := t_lineRow) (t_lineColumn := t_lineColumn) (t_lineSide := t_lineSide) (t_lineMany := t_lineMany) (q_t_ways := q_t_ways) (q_t_codes := q_t_codes) (q_t_many := q_t_many) (t_text := t_text) (t_read := t_read) hC_1) (cwV 0 hts gX6_lay_X6_fault rfl rfl rfl kd_X6_fault ⟨Nat.le_of_ble_eq_true rfl, Nat.le_of_ble_eq_true rfl⟩) (iv_V hKW hPc hDc (ci := 6) (q0 := 0) rfl rfl) rfl rfl hl.1 rfl (lv_room (Nat.le_of_ble_eq_true rfl)) dX6_lay_1 ⟨Nat.zero_le _, Nat.zero_le _⟩) hS (fun q _ h => hFc q h) hFc (fun r9 u9 t9 H1 locs ht9 hvm9 hw9 hB9 hz9 hk9 hS => ?_)
  subst r9
  obtain ⟨hP1, hD1⟩ := hB9
  rw [ht9] at hP1
  obtain ⟨hP, hD⟩ := va_join (wr := [aI (G.2 1) q_t_sign 36 t_sign]) (w1 := [oX6 q_t t_length q_t_text t_size q_t_sign t_otherSize q_t_other q_t_before t_undoMany m_1_0 q_t_read q_t_side q_t_tall q_t_endRow q_t_endColumn q_t_endSide q_t_gone t_lineRow t_lineColumn t_lineSide t_lineMany q_t_ways q_t_codes q_t_many, aI (G.2 1) q_t_text 200 t_text, aI (G.2 1) q_t_read 36 m_1_1]) hP hD [0, 1, 3] [2] rfl rfl (by decide) (by decide) hk9 hFc hP1 hD1
  have hP := hP.sub (ws' := [oX6 q_t t_length q_t_text t_size q_t_sign t_otherSize q_t_other q_t_before t_undoMany m_1_0 q_t_read q_t_side q_t_tall q_t_endRow q_t_endColumn q_t_endSide q_t_gone t_lineRow t_lineColumn t_lineSide t_lineMany q_t_ways q_t_codes q_t_many, aI (G.2 1) q_t_text 200 t_text, aI (G.2 1) q_t_sign 36 t_sign, aI (G.2 1) q_t_read 36 m_1_1]) [1, 2, 0, 3] rfl
  have hD := hD.sub (ws' := [oX6 q_t t_length q_t_text t_size q_t_sign t_otherSize q_t_other q_t_before t_undoMany m_1_0 q_t_read q_t_side q_t_tall q_t_endRow q_t_endColumn q_t_endSide q_t_gone t_lineRow t_lineColumn t_lineSide t_lineMany q_t_ways q_t_codes q_t_many, aI (G.2 1) q_t_text 200 t_text, aI (G.2 1) q_t_sign 36 t_sign, aI (G.2 1) q_t_read 36 m_1_1]) [1, 2, 0, 3] (by decide) rfl
  clear hPc hDc hFc hP1 hD1 hk9 hz9 hvm9
  refine lv_bipush (v := -4) hx hb dX6_lay_4 (by decide) ?_
  refine lv_icmp_eq (tgt := 12) hx hb dX6_lay_6 (by decide) (fun c_6 => ?_) (fun c_6 => ?_)
  · replace hE := (if_pos c_6).symm.trans hE
    refine lv_aload_n hx hb dX6_lay_12 rfl (lv_at hl 0 rfl) ?_
    refine lv_aload_n hx hb dX6_lay_13 rfl (lv_at hl 0 rfl) ?_
    refine va_get (D := G.1) (ci := 6) (v := .int m_1_0) (C := RX6) (T := TX6) (N := 23) hx hb hts iX6 hown hK hP 0 rfl rfl 8 (by decide) fl_69 (fun _ h9 => h9) rfl dX6_lay_14 ?_
    refine va_put (D := G.1) (ci := 6) (v := .int m_1_0) (ty := .int) (C := RX6) (T := TX6) (N := 23) hx hb hts iX6 tyX6 tyX6_ok nmX6 hown hK hP hD hS 0 rfl rfl 2 (by decide) fl_54 (fun _ h9 => h9) rfl (by decide +kernel) rfl rfl (Nat.le_of_ble_eq_true rfl) dX6_lay_17 (fun H locs hP hD hS => ?_)
    have hP : va_P G.1 vwCl [oX6 q_t t_length q_t_text m_1_0 q_t_sign t_otherSize q_t_other q_t_before t_undoMany m_1_0 q_t_read q_t_side q_t_tall q_t_endRow q_t_endColumn q_t_endSide q_t_gone t_lineRow t_lineColumn t_lineSide t_lineMany q_t_ways q_t_codes q_t_many, aI (G.2 1) q_t_text 200 t_text, aI (G.2 1) q_t_sign 36 t_sign, aI (G.2 1) q_t_read 36 m_1_1] H := hP
    have hD : va_D A [oX6 q_t t_length q_t_text m_1_0 q_t_sign t_otherSize q_t_other q_t_before t_undoMany m_1_0 q_t_read q_t_side q_t_tall q_t_endRow q_t_endColumn q_t_endSide q_t_gone t_lineRow t_lineColumn t_lineSide t_lineMany q_t_ways q_t_codes q_t_many, aI (G.2 1) q_t_text 200 t_text, aI (G.2 1) q_t_sign 36 t_sign, aI (G.2 1) q_t_read 36 m_1_1] := hD
    refine lv_aload_n hx hb dX6_lay_20 rfl (lv_at hl 0 rfl) ?_
    refine va_get (D := G.1) (ci := 6) (v := .ref q_t_read) (C := RX6) (T := TX6) (N := 23) hx hb hts iX6 hown hK hP 0 rfl rfl 9 (by decide) fl_22 (fun _ h9 => h9) rfl dX6_lay_21 ?_
    refine lv_aload_n hx hb dX6_lay_24 rfl (lv_at hl 0 rfl) ?_
    refine va_get (D := G.1) (ci := 6) (v := .ref q_t_sign) (C := RX6) (T := TX6) (N := 23) hx hb hts iX6 hown hK hP 0 rfl rfl 3 (by decide) fl_13 (fun _ h9 => h9) rfl dX6_lay_25 ?_
    obtain ⟨y28, hC_28, hE⟩ := Option.bind_eq_some_iff.mp hE
    obtain ⟨m_28_0, ex9⟩ : ∃ z, z = y28 := ⟨_, rfl⟩
    subst ex9
    try dsimp only at hE
    have hPc := hP.sub (ws' := [aI (G.2 1) q_t_read 36 m_1_1, aI (G.2 1) q_t_sign 36 t_sign]) [3, 2] rfl
    have hDc := hD.sub (ws' := [aI (G.2 1) q_t_read 36 m_1_1, aI (G.2 1) q_t_sign 36 t_sign]) [3, 2] (by decide) rfl
    have hFc := va_free (wc := [aI (G.2 1) q_t_read 36 m_1_1, aI (G.2 1) q_t_sign 36 t_sign]) hD hS hA [3, 2] rfl
    refine va_callv (va_runS (As := [.ref q_t_read, .ref q_t_sign]) (rest := []) ⟨hx, hb, hml, hown, hts⟩ (c_X6_copy (l := l) (G := G) _ (q_p1 := q_t_read) (p1 := m_1_1) (q_p2 := q_t_sign) (p2 := t_sign) hC_28) (va_cwS 2 hts gX6_lay_X6_copy rfl rfl rfl kd_X6_copy ⟨Nat.le_of_ble_eq_true rfl, Nat.le_of_ble_eq_true rfl⟩) (iv_S hKW hPc hDc) rfl rfl hl.1 rfl (lv_room (Nat.le_of_ble_eq_true rfl)) dX6_lay_28 ⟨Nat.zero_le _, Nat.zero_le _⟩) hS (fun q _ h => hFc q h) hFc (fun u9 t9 H1 locs ht9 hvm9 hw9 hB9 hz9 hk9 hS => ?_)
    obtain ⟨hP1, hD1⟩ := hB9
    rw [ht9] at hP1
    obtain ⟨hP, hD⟩ := va_join (wr := [oX6 q_t t_length q_t_text m_1_0 q_t_sign t_otherSize q_t_other q_t_before t_undoMany m_1_0 q_t_read q_t_side q_t_tall q_t_endRow q_t_endColumn q_t_endSide q_t_gone t_lineRow t_lineColumn t_lineSide t_lineMany q_t_ways q_t_codes q_t_many, aI (G.2 1) q_t_text 200 t_text]) (w1 := [aI (G.2 1) q_t_read 36 m_1_1, aI (G.2 1) q_t_sign 36 m_28_0]) hP hD [3, 2] [0, 1] rfl rfl (by decide) (by decide) hk9 hFc hP1 hD1
    have hP := hP.sub (ws' := [oX6 q_t t_length q_t_text m_1_0 q_t_sign t_otherSize q_t_other q_t_before t_undoMany m_1_0 q_t_read q_t_side q_t_tall q_t_endRow q_t_endColumn q_t_endSide q_t_gone t_lineRow t_lineColumn t_lineSide t_lineMany q_t_ways q_t_codes q_t_many, aI (G.2 1) q_t_text 200 t_text, aI (G.2 1) q_t_sign 36 m_28_0, aI (G.2 1) q_t_read 36 m_1_1]) [0, 1, 3, 2] rfl
    have hD := hD.sub (ws' := [oX6 q_t t_length q_t_text m_1_0 q_t_sign t_otherSize q_t_other q_t_before t_undoMany m_1_0 q_t_read q_t_side q_t_tall q_t_endRow q_t_endColumn q_t_endSide q_t_gone t_lineRow t_lineColumn t_lineSide t_lineMany q_t_ways q_t_codes q_t_many, aI (G.2 1) q_t_text 200 t_text, aI (G.2 1) q_t_sign 36 m_28_0, aI (G.2 1) q_t_read 36 m_1_1]) [0, 1, 3, 2] (by decide) rfl
    clear hPc hDc hFc hP1 hD1 hk9 hz9 hvm9
    refine lv_aload_n hx hb dX6_lay_31 rfl (lv_at hl 0 rfl) ?_
    refine lv_iconst (v := 0) hx hb dX6_lay_32 (by decide) ?_
    refine va_put (D := G.1) (ci := 6) (v := .int (0 : Int32)) (ty := .int) (C := RX6) (T := TX6) (N := 23) hx hb hts iX6 tyX6 tyX6_ok nmX6 hown hK hP hD hS 0 rfl rfl 7 (by decide) fl_80 (fun _ h9 => h9) rfl (by decide +kernel) rfl rfl (Nat.le_of_ble_eq_true rfl) dX6_lay_33 (fun H locs hP hD hS => ?_)
    have hP : va_P G.1 vwCl [oX6 q_t t_length q_t_text m_1_0 q_t_sign t_otherSize q_t_other q_t_before (0 : Int32) m_1_0 q_t_read q_t_side q_t_tall q_t_endRow q_t_endColumn q_t_endSide q_t_gone t_lineRow t_lineColumn t_lineSide t_lineMany q_t_ways q_t_codes q_t_many, aI (G.2 1) q_t_text 200 t_text, aI (G.2 1) q_t_sign 36 m_28_0, aI (G.2 1) q_t_read 36 m_1_1] H := hP
    have hD : va_D A [oX6 q_t t_length q_t_text m_1_0 q_t_sign t_otherSize q_t_other q_t_before (0 : Int32) m_1_0 q_t_read q_t_side q_t_tall q_t_endRow q_t_endColumn q_t_endSide q_t_gone t_lineRow t_lineColumn t_lineSide t_lineMany q_t_ways q_t_codes q_t_many, aI (G.2 1) q_t_text 200 t_text, aI (G.2 1) q_t_sign 36 m_28_0, aI (G.2 1) q_t_read 36 m_1_1] := hD
    refine lv_aload_n hx hb dX6_lay_36 rfl (lv_at hl 0 rfl) ?_
    refine va_get (D := G.1) (ci := 6) (v := .int m_1_0) (C := RX6) (T := TX6) (N := 23) hx hb hts iX6 hown hK hP 0 rfl rfl 2 (by decide) fl_54 (fun _ h9 => h9) rfl dX6_lay_37 ?_
    have e_0 := Option.some.inj hE
    subst e_0
    rw [hQ]
    exact W.iret (v := m_1_0) hx hb hr (fun t ht _ => ⟨⟨_, (), rfl, rfl, by rw [ht]; exact hP, hD⟩, hS.F ht⟩) hS.2.2 dX6_lay_40
  · replace hE := (if_neg c_6).symm.trans hE
    refine lv_bipush (v := -2) hx hb dX6_lay_9 (by decide) ?_
    have e_0 := Option.some.inj hE
    subst e_0
    rw [hQ]
    exact W.iret (v := (-2 : Int32)) hx hb hr (fun t ht _ => ⟨⟨_, (), rfl, rfl, by rw [ht]; exact hP, hD⟩, hS.F ht⟩) hS.2.2 dX6_lay_11
def S_X6_note (t_size : Int32) (t_undoMany : Int32) (t_sign : Nat → Int32) (t_before : Nat → Int32) : Option (Int32 × (Nat → Int32)) := jn (if t_undoMany = (6 : Int32) then itr (fun (x3 : Int32 × (Nat → Int32)) => if (185 : Int32) ≤ x3.1 then some (.inr (.inl (t_undoMany - (1 : Int32), x3.2))) else ck (inb ((37 : Int32) + x3.1) 222) (ck (inb x3.1 222) (some (.inl (x3.1 + (1 : Int32), upd x3.2 x3.1.toNatClampNeg (x3.2 ((37 : Int32) + x3.1).toNatClampNeg)))))) 10000 ((0 : Int32), t_before) else some (.inl (t_undoMany, t_before))) (fun (x1 : Int32 × (Nat → Int32)) => ck (inb ((37 : Int32) * x1.1) 222) (itr (fun (x2 : Int32 × (Nat → Int32)) => if (36 : Int32) ≤ x2.1 then some (.inr (x1.1 + (1 : Int32), x2.2)) else ck (inb x2.1 36) (ck (inb ((((37 : Int32) * x1.1) + (1 : Int32)) + x2.1) 222) ((some (upd x2.2 ((((37 : Int32) * x1.1) + (1 : Int32)) + x2.1).toNatClampNeg (t_sign x2.1.toNatClampNeg))).bind (fun (z_94 : Nat → Int32) => some (.inl (x2.1 + (1 : Int32), z_94)))))) 10000 ((0 : Int32), upd x1.2 ((37 : Int32) * x1.1).toNatClampNeg t_size)))
theorem kd_X6_note : yX6_note.cls = RX6 ∧ yX6_note.cls ≠ "java/lang/invoke/MethodHandle" ∧ yX6_note.cls ≠ "java/lang/invoke/VarHandle" ∧ (parseMethodDescriptor yX6_note.desc).map (fun d => d.parameters.length) = some 0 := by decide +kernel
set_option maxHeartbeats 4000000 in
set_option maxRecDepth 100000 in
theorem c_X6_note {l : Launch} {G : kG} (sz : Nat) {q_t : Nat} {t_length : Int32} {q_t_text : Nat} {t_size : Int32} {q_t_sign : Nat} {t_otherSize : Int32} {q_t_other : Nat} {q_t_before : Nat} {t_undoMany : Int32} {t_readSize : Int32} {q_t_read : Nat} {q_t_side : Nat} {q_t_tall : Nat} {q_t_endRow : Nat} {q_t_endColumn : Nat} {q_t_endSide : Nat} {q_t_gone : Nat} {t_lineRow : Int32} {t_lineColumn : Int32} {t_lineSide : Int32} {t_lineMany : Int32} {q_t_ways : Nat} {q_t_codes : Nat} {q_t_many : Nat} {t_sign : Nat → Int32} {t_before : Nat → Int32} {res : Int32 × (Nat → Int32)} (hE : S_X6_note t_size t_undoMany t_sign t_before = some res) : Met l yX6_note wsX6_note ({ frames := 0, cells := 0, slots := 0, locals := 0 }) (va_Pc [.ref q_t] (fun U => U.heap.size = sz ∧ va_P G.1 vwCl [oX6 q_t t_length q_t_text t_size q_t_sign t_otherSize q_t_other q_t_before t_undoMany t_readSize q_t_read q_t_side q_t_tall q_t_endRow q_t_endColumn q_t_endSide q_t_gone t_lineRow t_lineColumn t_lineSide t_lineMany q_t_ways q_t_codes q_t_many, aI (G.2 1) q_t_sign 36 t_sign, aI (G.2 1) q_t_before 222 t_before] U.heap ∧ kw G U ∧ va_D (fun _ => True) [oX6 q_t t_length q_t_text t_size q_t_sign t_otherSize q_t_other q_t_before t_undoMany t_readSize q_t_read q_t_side q_t_tall q_t_endRow q_t_endColumn q_t_endSide q_t_gone t_lineRow t_lineColumn t_lineSide t_lineMany q_t_ways q_t_codes q_t_many, aI (G.2 1) q_t_sign 36 t_sign, aI (G.2 1) q_t_before 222 t_before])) (va_Qv (fun (_ : Unit) => True) (fun _ t => va_P G.1 vwCl [oX6 q_t t_length q_t_text t_size q_t_sign t_otherSize q_t_other q_t_before res.1 t_readSize q_t_read q_t_side q_t_tall q_t_endRow q_t_endColumn q_t_endSide q_t_gone t_lineRow t_lineColumn t_lineSide t_lineMany q_t_ways q_t_codes q_t_many, aI (G.2 1) q_t_sign 36 t_sign, aI (G.2 1) q_t_before 222 res.2] t.heap ∧ va_D (va_A [oX6 q_t t_length q_t_text t_size q_t_sign t_otherSize q_t_other q_t_before t_undoMany t_readSize q_t_read q_t_side q_t_tall q_t_endRow q_t_endColumn q_t_endSide q_t_gone t_lineRow t_lineColumn t_lineSide t_lineMany q_t_ways q_t_codes q_t_many, aI (G.2 1) q_t_sign 36 t_sign, aI (G.2 1) q_t_before 222 t_before] sz) [oX6 q_t t_length q_t_text t_size q_t_sign t_otherSize q_t_other q_t_before res.1 t_readSize q_t_read q_t_side q_t_tall q_t_endRow q_t_endColumn q_t_endSide q_t_gone t_lineRow t_lineColumn t_lineSide t_lineMany q_t_ways q_t_codes q_t_many, aI (G.2 1) q_t_sign 36 t_sign, aI (G.2 1) q_t_before 222 res.2]) (va_A [oX6 q_t t_length q_t_text t_size q_t_sign t_otherSize q_t_other q_t_before t_undoMany t_readSize q_t_read q_t_side q_t_tall q_t_endRow q_t_endColumn q_t_endSide q_t_gone t_lineRow t_lineColumn t_lineSide t_lineMany q_t_ways q_t_codes q_t_many, aI (G.2 1) q_t_sign 36 t_sign, aI (G.2 1) q_t_before 222 t_before] sz)) 0 0 (va_A [oX6 q_t t_length q_t_text t_size q_t_sign t_otherSize q_t_other q_t_before t_undoMany t_readSize q_t_read q_t_side q_t_tall q_t_endRow q_t_endColumn q_t_endSide q_t_gone t_lineRow t_lineColumn t_lineSide t_lineMany q_t_ways q_t_codes q_t_many, aI (G.2 1) q_t_sign 36 t_sign, aI (G.2 1) q_t_before 222 t_before] sz) := by
  refine Met.ofQ (cc := cX6_note) (maxL := 2) (ret := none) (by decide) rfl ?_
  intro p e s m args below meth c s₁ Q hQ B hml hv
  obtain ⟨rfl, hsz, hP, hKW, hD0⟩ := hv
  have hK := hKW.1
  have hx := B.exec
  have hb := B.bytes
  have hr := B.returns
  have hts := atoms_spec (ws := wsX6_note) B.pre
  have hown : s.vm.findClass RX6 = some m.cls := findClass_of_methodNamed B.named
  have hlocks := B.notSynchronized
  have iX6 : ∀ w ∈ u_ws RX6 TX6 23, w ∈ wsX6_note := by decide +kernel
  have fl_80 := hts (.fieldLink RX6 80 "AlternateSignsModel" "undoMany" "I") (by decide +kernel)
  have fl_19 := hts (.fieldLink RX6 19 "AlternateSignsModel" "before" "[I") (by decide +kernel)
  have fl_54 := hts (.fieldLink RX6 54 "AlternateSignsModel" "size" "I") (by decide +kernel)
  have fl_13 := hts (.fieldLink RX6 13 "AlternateSignsModel" "sign" "[I") (by decide +kernel)
  subst hsz
  have hD := hD0.self (sz := s.heap.size)
  generalize hAe : va_A [oX6 q_t t_length q_t_text t_size q_t_sign t_otherSize q_t_other q_t_before t_undoMany t_readSize q_t_read q_t_side q_t_tall q_t_endRow q_t_endColumn q_t_endSide q_t_gone t_lineRow t_lineColumn t_lineSide t_lineMany q_t_ways q_t_codes q_t_many, aI (G.2 1) q_t_sign 36 t_sign, aI (G.2 1) q_t_before 222 t_before] s.heap.size = A at hD hQ
  have hA : ∀ q : Nat, s.heap.size ≤ q → A q := fun q h => by rw [← hAe]; exact Or.inr h
  have hS : va_S A s.heap s.heap [] := va_S.rf
  have hl := lv_entry ([.ref q_t]) (n := 2) (Nat.le_of_ble_eq_true rfl)
  rw [lg_entry_eq]
  generalize (lg_sl ([.ref q_t]) ++ List.replicate (2 - (lg_sl ([.ref q_t])).length) Slot.unset).toArray = ls at hl ⊢
  have hl : lv_has ls 2 [(0, .ref q_t)] := hl
  unfold S_X6_note at hE
  refine lv_aload_n hx hb dX6_note_0 rfl (lv_at hl 0 rfl) ?_
  refine va_get (D := G.1) (ci := 6) (v := .int t_undoMany) (C := RX6) (T := TX6) (N := 23) hx hb hts iX6 hown hK hP 0 rfl rfl 7 (by decide) fl_80 (fun _ h9 => h9) rfl dX6_note_1 ?_
  refine lv_bipush (v := 6) hx hb dX6_note_4 (by decide) ?_
  obtain ⟨o_1, hEp, hk9, hr_1⟩ := jn_some hE
  have ih_1 : ∀ (x1 : Int32 × (Nat → Int32)), o_1 = .inl x1 → ∀ (H : Heap) (locs : List Loc) (ls : Array Slot), va_P G.1 vwCl [oX6 q_t t_length q_t_text t_size q_t_sign t_otherSize q_t_other q_t_before x1.1 t_readSize q_t_read q_t_side q_t_tall q_t_endRow q_t_endColumn q_t_endSide q_t_gone t_lineRow t_lineColumn t_lineSide t_lineMany q_t_ways q_t_codes q_t_many, aI (G.2 1) q_t_sign 36 t_sign, aI (G.2 1) q_t_before 222 x1.2] H → va_D A [oX6 q_t t_length q_t_text t_size q_t_sign t_otherSize q_t_other q_t_before x1.1 t_readSize q_t_read q_t_side q_t_tall q_t_endRow q_t_endColumn q_t_endSide q_t_gone t_lineRow t_lineColumn t_lineSide t_lineMany q_t_ways q_t_codes q_t_many, aI (G.2 1) q_t_sign 36 t_sign, aI (G.2 1) q_t_before 222 x1.2] → va_S A s.heap H locs → lv_has ls 2 [(0, .ref q_t)] → W p l e (headSpec wsX6_note ({ frames := 0, cells := 0, slots := 0, locals := 0 })).room s m ([.ref q_t] : List Value).toArray below meth c H locs 0 0 Q (F0 m 49 ls []) := by
    intro x1 ho9
    have hE := hk9 _ ho9
    obtain ⟨w_t_undoMany_1, w_t_before_1⟩ := x1
    try dsimp only at hE
    intro H locs ls hP hD hS hl
    try dsimp only at hP hD hl ⊢
    refine lv_aload_n hx hb dX6_note_49 rfl (lv_at hl 0 rfl) ?_
    refine va_get (D := G.1) (ci := 6) (v := .ref q_t_before) (C := RX6) (T := TX6) (N := 23) hx hb hts iX6 hown hK hP 0 rfl rfl 6 (by decide) fl_19 (fun _ h9 => h9) rfl dX6_note_50 ?_
    refine lv_bipush (v := 37) hx hb dX6_note_53 (by decide) ?_
    refine lv_aload_n hx hb dX6_note_55 rfl (lv_at hl 0 rfl) ?_
    refine va_get (D := G.1) (ci := 6) (v := .int w_t_undoMany_1) (C := RX6) (T := TX6) (N := 23) hx hb hts iX6 hown hK hP 0 rfl rfl 7 (by decide) fl_80 (fun _ h9 => h9) rfl dX6_note_56 ?_
    refine lv_imul hx hb dX6_note_59 ?_
    refine lv_aload_n hx hb dX6_note_60 rfl (lv_at hl 0 rfl) ?_
    refine va_get (D := G.1) (ci := 6) (v := .int t_size) (C := RX6) (T := TX6) (N := 23) hx hb hts iX6 hown hK hP 0 rfl rfl 2 (by decide) fl_54 (fun _ h9 => h9) rfl dX6_note_61 ?_
    obtain ⟨hi_64, hE⟩ := ck_some hE
    refine va_iast hx hb hK hP hD hS 2 1 rfl rfl (inb_in hi_64) dX6_note_64 (fun H locs hP hD hS => ?_)
    have hP : va_P G.1 vwCl [oX6 q_t t_length q_t_text t_size q_t_sign t_otherSize q_t_other q_t_before w_t_undoMany_1 t_readSize q_t_read q_t_side q_t_tall q_t_endRow q_t_endColumn q_t_endSide q_t_gone t_lineRow t_lineColumn t_lineSide t_lineMany q_t_ways q_t_codes q_t_many, aI (G.2 1) q_t_sign 36 t_sign, aI (G.2 1) q_t_before 222 (upd w_t_before_1 ((37 : Int32) * w_t_undoMany_1).toNatClampNeg t_size)] H := hP
    have hD : va_D A [oX6 q_t t_length q_t_text t_size q_t_sign t_otherSize q_t_other q_t_before w_t_undoMany_1 t_readSize q_t_read q_t_side q_t_tall q_t_endRow q_t_endColumn q_t_endSide q_t_gone t_lineRow t_lineColumn t_lineSide t_lineMany q_t_ways q_t_codes q_t_many, aI (G.2 1) q_t_sign 36 t_sign, aI (G.2 1) q_t_before 222 (upd w_t_before_1 ((37 : Int32) * w_t_undoMany_1).toNatClampNeg t_size)] := hD
    refine lv_iconst (v := 0) hx hb dX6_note_65 (by decide) ?_
    refine lv_istore_n (lv' := [(1, .int (0 : Int32)), (0, .ref q_t)]) hx hb dX6_note_66 rfl hl (by decide) rfl (fun ls hl => ?_)
    refine itr_ind (fun (x2 : Int32 × (Nat → Int32)) => ∀ (H : Heap) (locs : List Loc) (ls : Array Slot), va_P G.1 vwCl [oX6 q_t t_length q_t_text t_size q_t_sign t_otherSize q_t_other q_t_before w_t_undoMany_1 t_readSize q_t_read q_t_side q_t_tall q_t_endRow q_t_endColumn q_t_endSide q_t_gone t_lineRow t_lineColumn t_lineSide t_lineMany q_t_ways q_t_codes q_t_many, aI (G.2 1) q_t_sign 36 t_sign, aI (G.2 1) q_t_before 222 x2.2] H → va_D A [oX6 q_t t_length q_t_text t_size q_t_sign t_otherSize q_t_other q_t_before w_t_undoMany_1 t_readSize q_t_read q_t_side q_t_tall q_t_endRow q_t_endColumn q_t_endSide q_t_gone t_lineRow t_lineColumn t_lineSide t_lineMany q_t_ways q_t_codes q_t_many, aI (G.2 1) q_t_sign 36 t_sign, aI (G.2 1) q_t_before 222 x2.2] → va_S A s.heap H locs → lv_has ls 2 [(0, .ref q_t), (1, .int x2.1)] → W p l e (headSpec wsX6_note ({ frames := 0, cells := 0, slots := 0, locals := 0 })).room s m ([.ref q_t] : List Value).toArray below meth c H locs 0 0 Q (F0 m 67 ls [])) (fun x2 o_1 hE ih_1 hr_1 => ?_) _ _ hE _ _ ls hP hD hS (lv_sub hl [1, 0] rfl)
    obtain ⟨v1_2, w_t_before_2⟩ := x2
    try dsimp only at hE
    intro H locs ls hP hD hS hl
    try dsimp only at hP hD hl ⊢
    refine lv_iload_n hx hb dX6_note_67 rfl (lv_at hl 1 rfl) ?_
    refine lv_bipush (v := 36) hx hb dX6_note_68 (by decide) ?_
    refine lv_icmp_ge (tgt := 101) hx hb dX6_note_70 (by decide) (fun c_70 => ?_) (fun c_70 => ?_)
    · replace hE := (if_pos c_70).symm.trans hE
      refine lv_aload_n hx hb dX6_note_101 rfl (lv_at hl 0 rfl) ?_
      refine lv_dup hx hb dX6_note_102 rfl ?_
      refine va_get (D := G.1) (ci := 6) (v := .int w_t_undoMany_1) (C := RX6) (T := TX6) (N := 23) hx hb hts iX6 hown hK hP 0 rfl rfl 7 (by decide) fl_80 (fun _ h9 => h9) rfl dX6_note_103 ?_
      refine lv_iconst (v := 1) hx hb dX6_note_106 (by decide) ?_
      refine lv_iadd hx hb dX6_note_107 ?_
      refine va_put (D := G.1) (ci := 6) (v := .int (w_t_undoMany_1 + (1 : Int32))) (ty := .int) (C := RX6) (T := TX6) (N := 23) hx hb hts iX6 tyX6 tyX6_ok nmX6 hown hK hP hD hS 0 rfl rfl 7 (by decide) fl_80 (fun _ h9 => h9) rfl (by decide +kernel) rfl rfl (Nat.le_of_ble_eq_true rfl) dX6_note_108 (fun H locs hP hD hS => ?_)
      have hP : va_P G.1 vwCl [oX6 q_t t_length q_t_text t_size q_t_sign t_otherSize q_t_other q_t_before (w_t_undoMany_1 + (1 : Int32)) t_readSize q_t_read q_t_side q_t_tall q_t_endRow q_t_endColumn q_t_endSide q_t_gone t_lineRow t_lineColumn t_lineSide t_lineMany q_t_ways q_t_codes q_t_many, aI (G.2 1) q_t_sign 36 t_sign, aI (G.2 1) q_t_before 222 w_t_before_2] H := hP
      have hD : va_D A [oX6 q_t t_length q_t_text t_size q_t_sign t_otherSize q_t_other q_t_before (w_t_undoMany_1 + (1 : Int32)) t_readSize q_t_read q_t_side q_t_tall q_t_endRow q_t_endColumn q_t_endSide q_t_gone t_lineRow t_lineColumn t_lineSide t_lineMany q_t_ways q_t_codes q_t_many, aI (G.2 1) q_t_sign 36 t_sign, aI (G.2 1) q_t_before 222 w_t_before_2] := hD
      have e_1 := Option.some.inj hE
      have e_0 := hr_1 _ e_1.symm
      subst e_0
      rw [hQ]
      exact W.vret hx hb hr (fun t ht _ => ⟨⟨(), rfl, trivial, by rw [ht]; exact hP, hD⟩, hS.F ht⟩) hS.2.2 dX6_note_111
    · replace hE := (if_neg c_70).symm.trans hE
      refine lv_aload_n hx hb dX6_note_73 rfl (lv_at hl 0 rfl) ?_
      refine va_get (D := G.1) (ci := 6) (v := .ref q_t_before) (C := RX6) (T := TX6) (N := 23) hx hb hts iX6 hown hK hP 0 rfl rfl 6 (by decide) fl_19 (fun _ h9 => h9) rfl dX6_note_74 ?_
      refine lv_bipush (v := 37) hx hb dX6_note_77 (by decide) ?_
      refine lv_aload_n hx hb dX6_note_79 rfl (lv_at hl 0 rfl) ?_
      refine va_get (D := G.1) (ci := 6) (v := .int w_t_undoMany_1) (C := RX6) (T := TX6) (N := 23) hx hb hts iX6 hown hK hP 0 rfl rfl 7 (by decide) fl_80 (fun _ h9 => h9) rfl dX6_note_80 ?_
      refine lv_imul hx hb dX6_note_83 ?_
      refine lv_iconst (v := 1) hx hb dX6_note_84 (by decide) ?_
      refine lv_iadd hx hb dX6_note_85 ?_
      refine lv_iload_n hx hb dX6_note_86 rfl (lv_at hl 1 rfl) ?_
      refine lv_iadd hx hb dX6_note_87 ?_
      refine lv_aload_n hx hb dX6_note_88 rfl (lv_at hl 0 rfl) ?_
      refine va_get (D := G.1) (ci := 6) (v := .ref q_t_sign) (C := RX6) (T := TX6) (N := 23) hx hb hts iX6 hown hK hP 0 rfl rfl 3 (by decide) fl_13 (fun _ h9 => h9) rfl dX6_note_89 ?_
      refine lv_iload_n hx hb dX6_note_92 rfl (lv_at hl 1 rfl) ?_
      obtain ⟨hi_93, hE⟩ := ck_some hE
      refine va_iald hx hb hK hP 1 1 rfl rfl (inb_in hi_93) dX6_note_93 ?_
      obtain ⟨hi_94, hE⟩ := ck_some hE
      refine va_iast hx hb hK hP hD hS 2 1 rfl rfl (inb_in hi_94) dX6_note_94 (fun H locs hP hD hS => ?_)
      have hP : va_P G.1 vwCl [oX6 q_t t_length q_t_text t_size q_t_sign t_otherSize q_t_other q_t_before w_t_undoMany_1 t_readSize q_t_read q_t_side q_t_tall q_t_endRow q_t_endColumn q_t_endSide q_t_gone t_lineRow t_lineColumn t_lineSide t_lineMany q_t_ways q_t_codes q_t_many, aI (G.2 1) q_t_sign 36 t_sign, aI (G.2 1) q_t_before 222 (upd w_t_before_2 ((((37 : Int32) * w_t_undoMany_1) + (1 : Int32)) + v1_2).toNatClampNeg (t_sign v1_2.toNatClampNeg))] H := hP
      have hD : va_D A [oX6 q_t t_length q_t_text t_size q_t_sign t_otherSize q_t_other q_t_before w_t_undoMany_1 t_readSize q_t_read q_t_side q_t_tall q_t_endRow q_t_endColumn q_t_endSide q_t_gone t_lineRow t_lineColumn t_lineSide t_lineMany q_t_ways q_t_codes q_t_many, aI (G.2 1) q_t_sign 36 t_sign, aI (G.2 1) q_t_before 222 (upd w_t_before_2 ((((37 : Int32) * w_t_undoMany_1) + (1 : Int32)) + v1_2).toNatClampNeg (t_sign v1_2.toNatClampNeg))] := hD
      obtain ⟨z_94, ez9⟩ : ∃ w, w = upd w_t_before_2 ((((37 : Int32) * w_t_undoMany_1) + (1 : Int32)) + v1_2).toNatClampNeg (t_sign v1_2.toNatClampNeg) := ⟨_, rfl⟩
      rw [← ez9] at hE hP hD
      replace hE := bs_some hE
      try dsimp only at hE
      clear ez9
      refine lv_iinc (v := v1_2 + (1 : Int32)) (lv' := [(1, .int (v1_2 + (1 : Int32))), (0, .ref q_t)]) hx hb dX6_note_95 hl (k := 1) rfl rfl (by decide) rfl (fun ls hl => ?_)
      refine lv_goto (tgt := 67) hx hb dX6_note_98 (by decide) ?_
      have e_1 := Option.some.inj hE
      exact ih_1 _ e_1.symm _ _ ls hP hD hS (lv_sub hl [1, 0] rfl)
  clear hE hk9
  have hE := hEp
  clear hEp
  refine lv_icmp_ne (tgt := 49) hx hb dX6_note_6 (by decide) (fun c_6 => ?_) (fun c_6 => ?_)
  · replace hE := (if_neg c_6).symm.trans hE
    have e_1 := Option.some.inj hE
    exact ih_1 _ e_1.symm _ _ ls hP hD hS (lv_sub hl [0] rfl)
  · replace hE := (if_pos c_6).symm.trans hE
    refine lv_iconst (v := 0) hx hb dX6_note_9 (by decide) ?_
    refine lv_istore_n (lv' := [(1, .int (0 : Int32)), (0, .ref q_t)]) hx hb dX6_note_10 rfl hl (by decide) rfl (fun ls hl => ?_)
    refine itr_ind (fun (x3 : Int32 × (Nat → Int32)) => ∀ (H : Heap) (locs : List Loc) (ls : Array Slot), va_P G.1 vwCl [oX6 q_t t_length q_t_text t_size q_t_sign t_otherSize q_t_other q_t_before t_undoMany t_readSize q_t_read q_t_side q_t_tall q_t_endRow q_t_endColumn q_t_endSide q_t_gone t_lineRow t_lineColumn t_lineSide t_lineMany q_t_ways q_t_codes q_t_many, aI (G.2 1) q_t_sign 36 t_sign, aI (G.2 1) q_t_before 222 x3.2] H → va_D A [oX6 q_t t_length q_t_text t_size q_t_sign t_otherSize q_t_other q_t_before t_undoMany t_readSize q_t_read q_t_side q_t_tall q_t_endRow q_t_endColumn q_t_endSide q_t_gone t_lineRow t_lineColumn t_lineSide t_lineMany q_t_ways q_t_codes q_t_many, aI (G.2 1) q_t_sign 36 t_sign, aI (G.2 1) q_t_before 222 x3.2] → va_S A s.heap H locs → lv_has ls 2 [(0, .ref q_t), (1, .int x3.1)] → W p l e (headSpec wsX6_note ({ frames := 0, cells := 0, slots := 0, locals := 0 })).room s m ([.ref q_t] : List Value).toArray below meth c H locs 0 0 Q (F0 m 11 ls [])) (fun x3 o_2 hE ih_2 hr_2 => ?_) _ _ hE _ _ ls hP hD hS (lv_sub hl [1, 0] rfl)
    obtain ⟨v1_3, w_t_before_3⟩ := x3
    try dsimp only at hE
    intro H locs ls hP hD hS hl
    try dsimp only at hP hD hl ⊢
    refine lv_iload_n hx hb dX6_note_11 rfl (lv_at hl 1 rfl) ?_
    refine lv_sipush (v := 185) hx hb dX6_note_12 (by decide) ?_
    refine lv_icmp_ge (tgt := 39) hx hb dX6_note_15 (by decide) (fun c_15 => ?_) (fun c_15 => ?_)
    · replace hE := (if_pos c_15).symm.trans hE
      refine lv_aload_n hx hb dX6_note_39 rfl (lv_at hl 0 rfl) ?_
      refine lv_dup hx hb dX6_note_40 rfl ?_
      refine va_get (D := G.1) (ci := 6) (v := .int t_undoMany) (C := RX6) (T := TX6) (N := 23) hx hb hts iX6 hown hK hP 0 rfl rfl 7 (by decide) fl_80 (fun _ h9 => h9) rfl dX6_note_41 ?_
      refine lv_iconst (v := 1) hx hb dX6_note_44 (by decide) ?_
      refine lv_isub hx hb dX6_note_45 ?_
      refine va_put (D := G.1) (ci := 6) (v := .int (t_undoMany - (1 : Int32))) (ty := .int) (C := RX6) (T := TX6) (N := 23) hx hb hts iX6 tyX6 tyX6_ok nmX6 hown hK hP hD hS 0 rfl rfl 7 (by decide) fl_80 (fun _ h9 => h9) rfl (by decide +kernel) rfl rfl (Nat.le_of_ble_eq_true rfl) dX6_note_46 (fun H locs hP hD hS => ?_)
      have hP : va_P G.1 vwCl [oX6 q_t t_length q_t_text t_size q_t_sign t_otherSize q_t_other q_t_before (t_undoMany - (1 : Int32)) t_readSize q_t_read q_t_side q_t_tall q_t_endRow q_t_endColumn q_t_endSide q_t_gone t_lineRow t_lineColumn t_lineSide t_lineMany q_t_ways q_t_codes q_t_many, aI (G.2 1) q_t_sign 36 t_sign, aI (G.2 1) q_t_before 222 w_t_before_3] H := hP
      have hD : va_D A [oX6 q_t t_length q_t_text t_size q_t_sign t_otherSize q_t_other q_t_before (t_undoMany - (1 : Int32)) t_readSize q_t_read q_t_side q_t_tall q_t_endRow q_t_endColumn q_t_endSide q_t_gone t_lineRow t_lineColumn t_lineSide t_lineMany q_t_ways q_t_codes q_t_many, aI (G.2 1) q_t_sign 36 t_sign, aI (G.2 1) q_t_before 222 w_t_before_3] := hD
      have e_2 := Option.some.inj hE
      have e_1 := hr_2 _ e_2.symm
      exact ih_1 _ e_1.symm _ _ ls hP hD hS (lv_sub hl [0] rfl)
    · replace hE := (if_neg c_15).symm.trans hE
      refine lv_aload_n hx hb dX6_note_18 rfl (lv_at hl 0 rfl) ?_
      refine va_get (D := G.1) (ci := 6) (v := .ref q_t_before) (C := RX6) (T := TX6) (N := 23) hx hb hts iX6 hown hK hP 0 rfl rfl 6 (by decide) fl_19 (fun _ h9 => h9) rfl dX6_note_19 ?_
      refine lv_iload_n hx hb dX6_note_22 rfl (lv_at hl 1 rfl) ?_
      refine lv_aload_n hx hb dX6_note_23 rfl (lv_at hl 0 rfl) ?_
      refine va_get (D := G.1) (ci := 6) (v := .ref q_t_before) (C := RX6) (T := TX6) (N := 23) hx hb hts iX6 hown hK hP 0 rfl rfl 6 (by decide) fl_19 (fun _ h9 => h9) rfl dX6_note_24 ?_
      refine lv_bipush (v := 37) hx hb dX6_note_27 (by decide) ?_
      refine lv_iload_n hx hb dX6_note_29 rfl (lv_at hl 1 rfl) ?_
      refine lv_iadd hx hb dX6_note_30 ?_
      obtain ⟨hi_31, hE⟩ := ck_some hE
      refine va_iald hx hb hK hP 2 1 rfl rfl (inb_in hi_31) dX6_note_31 ?_
      obtain ⟨hi_32, hE⟩ := ck_some hE
      refine va_iast hx hb hK hP hD hS 2 1 rfl rfl (inb_in hi_32) dX6_note_32 (fun H locs hP hD hS => ?_)
      have hP : va_P G.1 vwCl [oX6 q_t t_length q_t_text t_size q_t_sign t_otherSize q_t_other q_t_before t_undoMany t_readSize q_t_read q_t_side q_t_tall q_t_endRow q_t_endColumn q_t_endSide q_t_gone t_lineRow t_lineColumn t_lineSide t_lineMany q_t_ways q_t_codes q_t_many, aI (G.2 1) q_t_sign 36 t_sign, aI (G.2 1) q_t_before 222 (upd w_t_before_3 v1_3.toNatClampNeg (w_t_before_3 ((37 : Int32) + v1_3).toNatClampNeg))] H := hP
      have hD : va_D A [oX6 q_t t_length q_t_text t_size q_t_sign t_otherSize q_t_other q_t_before t_undoMany t_readSize q_t_read q_t_side q_t_tall q_t_endRow q_t_endColumn q_t_endSide q_t_gone t_lineRow t_lineColumn t_lineSide t_lineMany q_t_ways q_t_codes q_t_many, aI (G.2 1) q_t_sign 36 t_sign, aI (G.2 1) q_t_before 222 (upd w_t_before_3 v1_3.toNatClampNeg (w_t_before_3 ((37 : Int32) + v1_3).toNatClampNeg))] := hD
      refine lv_iinc (v := v1_3 + (1 : Int32)) (lv' := [(1, .int (v1_3 + (1 : Int32))), (0, .ref q_t)]) hx hb dX6_note_33 hl (k := 1) rfl rfl (by decide) rfl (fun ls hl => ?_)
      refine lv_goto (tgt := 11) hx hb dX6_note_36 (by decide) ?_
      have e_2 := Option.some.inj hE
      exact ih_2 _ e_2.symm _ _ ls hP hD hS (lv_sub hl [1, 0] rfl)
def S_X6_undo (t_size : Int32) (t_undoMany : Int32) (t_sign : Nat → Int32) (t_before : Nat → Int32) : Option (Int32 × Int32 × Int32 × (Nat → Int32)) := if t_undoMany = 0 then some ((-2 : Int32), t_size, t_undoMany, t_sign) else ck (inb ((37 : Int32) * (t_undoMany - (1 : Int32))) 222) (itr (fun (x1 : Int32 × (Nat → Int32)) => if (36 : Int32) ≤ x1.1 then some (.inr (t_undoMany - (1 : Int32), t_before ((37 : Int32) * (t_undoMany - (1 : Int32))).toNatClampNeg, t_undoMany - (1 : Int32), x1.2)) else ck (inb ((((37 : Int32) * (t_undoMany - (1 : Int32))) + (1 : Int32)) + x1.1) 222) (ck (inb x1.1 36) ((some (upd x1.2 x1.1.toNatClampNeg (t_before ((((37 : Int32) * (t_undoMany - (1 : Int32))) + (1 : Int32)) + x1.1).toNatClampNeg))).bind (fun (z_65 : Nat → Int32) => some (.inl (x1.1 + (1 : Int32), z_65)))))) 10000 ((0 : Int32), t_sign))
theorem kd_X6_undo : yX6_undo.cls = RX6 ∧ yX6_undo.cls ≠ "java/lang/invoke/MethodHandle" ∧ yX6_undo.cls ≠ "java/lang/invoke/VarHandle" ∧ (parseMethodDescriptor yX6_undo.desc).map (fun d => d.parameters.length) = some 0 := by decide +kernel
set_option maxHeartbeats 4000000 in
set_option maxRecDepth 100000 in
theorem c_X6_undo {l : Launch} {G : kG} (sz : Nat) {q_t : Nat} {t_length : Int32} {q_t_text : Nat} {t_size : Int32} {q_t_sign : Nat} {t_otherSize : Int32} {q_t_other : Nat} {q_t_before : Nat} {t_undoMany : Int32} {t_readSize : Int32} {q_t_read : Nat} {q_t_side : Nat} {q_t_tall : Nat} {q_t_endRow : Nat} {q_t_endColumn : Nat} {q_t_endSide : Nat} {q_t_gone : Nat} {t_lineRow : Int32} {t_lineColumn : Int32} {t_lineSide : Int32} {t_lineMany : Int32} {q_t_ways : Nat} {q_t_codes : Nat} {q_t_many : Nat} {t_sign : Nat → Int32} {t_before : Nat → Int32} {res : Int32 × Int32 × Int32 × (Nat → Int32)} (hE : S_X6_undo t_size t_undoMany t_sign t_before = some res) : Met l yX6_undo wsX6_undo ({ frames := 0, cells := 0, slots := 0, locals := 0 }) (va_Pc [.ref q_t] (fun U => U.heap.size = sz ∧ va_P G.1 vwCl [oX6 q_t t_length q_t_text t_size q_t_sign t_otherSize q_t_other q_t_before t_undoMany t_readSize q_t_read q_t_side q_t_tall q_t_endRow q_t_endColumn q_t_endSide q_t_gone t_lineRow t_lineColumn t_lineSide t_lineMany q_t_ways q_t_codes q_t_many, aI (G.2 1) q_t_sign 36 t_sign, aI (G.2 1) q_t_before 222 t_before] U.heap ∧ kw G U ∧ va_D (fun _ => True) [oX6 q_t t_length q_t_text t_size q_t_sign t_otherSize q_t_other q_t_before t_undoMany t_readSize q_t_read q_t_side q_t_tall q_t_endRow q_t_endColumn q_t_endSide q_t_gone t_lineRow t_lineColumn t_lineSide t_lineMany q_t_ways q_t_codes q_t_many, aI (G.2 1) q_t_sign 36 t_sign, aI (G.2 1) q_t_before 222 t_before])) (va_Qi (fun r (_ : Unit) => r = res.1) (fun _ t => va_P G.1 vwCl [oX6 q_t t_length q_t_text res.2.1 q_t_sign t_otherSize q_t_other q_t_before res.2.2.1 t_readSize q_t_read q_t_side q_t_tall q_t_endRow q_t_endColumn q_t_endSide q_t_gone t_lineRow t_lineColumn t_lineSide t_lineMany q_t_ways q_t_codes q_t_many, aI (G.2 1) q_t_sign 36 res.2.2.2, aI (G.2 1) q_t_before 222 t_before] t.heap ∧ va_D (va_A [oX6 q_t t_length q_t_text t_size q_t_sign t_otherSize q_t_other q_t_before t_undoMany t_readSize q_t_read q_t_side q_t_tall q_t_endRow q_t_endColumn q_t_endSide q_t_gone t_lineRow t_lineColumn t_lineSide t_lineMany q_t_ways q_t_codes q_t_many, aI (G.2 1) q_t_sign 36 t_sign, aI (G.2 1) q_t_before 222 t_before] sz) [oX6 q_t t_length q_t_text res.2.1 q_t_sign t_otherSize q_t_other q_t_before res.2.2.1 t_readSize q_t_read q_t_side q_t_tall q_t_endRow q_t_endColumn q_t_endSide q_t_gone t_lineRow t_lineColumn t_lineSide t_lineMany q_t_ways q_t_codes q_t_many, aI (G.2 1) q_t_sign 36 res.2.2.2, aI (G.2 1) q_t_before 222 t_before]) (va_A [oX6 q_t t_length q_t_text t_size q_t_sign t_otherSize q_t_other q_t_before t_undoMany t_readSize q_t_read q_t_side q_t_tall q_t_endRow q_t_endColumn q_t_endSide q_t_gone t_lineRow t_lineColumn t_lineSide t_lineMany q_t_ways q_t_codes q_t_many, aI (G.2 1) q_t_sign 36 t_sign, aI (G.2 1) q_t_before 222 t_before] sz)) 0 0 (va_A [oX6 q_t t_length q_t_text t_size q_t_sign t_otherSize q_t_other q_t_before t_undoMany t_readSize q_t_read q_t_side q_t_tall q_t_endRow q_t_endColumn q_t_endSide q_t_gone t_lineRow t_lineColumn t_lineSide t_lineMany q_t_ways q_t_codes q_t_many, aI (G.2 1) q_t_sign 36 t_sign, aI (G.2 1) q_t_before 222 t_before] sz) := by
  refine Met.ofQ (cc := cX6_undo) (maxL := 2) (ret := (some .int)) (by decide) rfl ?_
  intro p e s m args below meth c s₁ Q hQ B hml hv
  obtain ⟨rfl, hsz, hP, hKW, hD0⟩ := hv
  have hK := hKW.1
  have hx := B.exec
  have hb := B.bytes
  have hr := B.returns
  have hts := atoms_spec (ws := wsX6_undo) B.pre
  have hown : s.vm.findClass RX6 = some m.cls := findClass_of_methodNamed B.named
  have hlocks := B.notSynchronized
  have iX6 : ∀ w ∈ u_ws RX6 TX6 23, w ∈ wsX6_undo := by decide +kernel
  have fl_80 := hts (.fieldLink RX6 80 "AlternateSignsModel" "undoMany" "I") (by decide +kernel)
  have fl_19 := hts (.fieldLink RX6 19 "AlternateSignsModel" "before" "[I") (by decide +kernel)
  have fl_54 := hts (.fieldLink RX6 54 "AlternateSignsModel" "size" "I") (by decide +kernel)
  have fl_13 := hts (.fieldLink RX6 13 "AlternateSignsModel" "sign" "[I") (by decide +kernel)
  subst hsz
  have hD := hD0.self (sz := s.heap.size)
  generalize hAe : va_A [oX6 q_t t_length q_t_text t_size q_t_sign t_otherSize q_t_other q_t_before t_undoMany t_readSize q_t_read q_t_side q_t_tall q_t_endRow q_t_endColumn q_t_endSide q_t_gone t_lineRow t_lineColumn t_lineSide t_lineMany q_t_ways q_t_codes q_t_many, aI (G.2 1) q_t_sign 36 t_sign, aI (G.2 1) q_t_before 222 t_before] s.heap.size = A at hD hQ
  have hA : ∀ q : Nat, s.heap.size ≤ q → A q := fun q h => by rw [← hAe]; exact Or.inr h
  have hS : va_S A s.heap s.heap [] := va_S.rf
  have hl := lv_entry ([.ref q_t]) (n := 2) (Nat.le_of_ble_eq_true rfl)
  rw [lg_entry_eq]
  generalize (lg_sl ([.ref q_t]) ++ List.replicate (2 - (lg_sl ([.ref q_t])).length) Slot.unset).toArray = ls at hl ⊢
  have hl : lv_has ls 2 [(0, .ref q_t)] := hl
  unfold S_X6_undo at hE
  refine lv_aload_n hx hb dX6_undo_0 rfl (lv_at hl 0 rfl) ?_
  refine va_get (D := G.1) (ci := 6) (v := .int t_undoMany) (C := RX6) (T := TX6) (N := 23) hx hb hts iX6 hown hK hP 0 rfl rfl 7 (by decide) fl_80 (fun _ h9 => h9) rfl dX6_undo_1 ?_
  refine lv_if_ne (tgt := 10) hx hb dX6_undo_4 (by decide) (fun c_4 => ?_) (fun c_4 => ?_)
  · replace hE := (if_neg c_4).symm.trans hE
    refine lv_aload_n hx hb dX6_undo_10 rfl (lv_at hl 0 rfl) ?_
    refine lv_dup hx hb dX6_undo_11 rfl ?_
    refine va_get (D := G.1) (ci := 6) (v := .int t_undoMany) (C := RX6) (T := TX6) (N := 23) hx hb hts iX6 hown hK hP 0 rfl rfl 7 (by decide) fl_80 (fun _ h9 => h9) rfl dX6_undo_12 ?_
    refine lv_iconst (v := 1) hx hb dX6_undo_15 (by decide) ?_
    refine lv_isub hx hb dX6_undo_16 ?_
    refine va_put (D := G.1) (ci := 6) (v := .int (t_undoMany - (1 : Int32))) (ty := .int) (C := RX6) (T := TX6) (N := 23) hx hb hts iX6 tyX6 tyX6_ok nmX6 hown hK hP hD hS 0 rfl rfl 7 (by decide) fl_80 (fun _ h9 => h9) rfl (by decide +kernel) rfl rfl (Nat.le_of_ble_eq_true rfl) dX6_undo_17 (fun H locs hP hD hS => ?_)
    have hP : va_P G.1 vwCl [oX6 q_t t_length q_t_text t_size q_t_sign t_otherSize q_t_other q_t_before (t_undoMany - (1 : Int32)) t_readSize q_t_read q_t_side q_t_tall q_t_endRow q_t_endColumn q_t_endSide q_t_gone t_lineRow t_lineColumn t_lineSide t_lineMany q_t_ways q_t_codes q_t_many, aI (G.2 1) q_t_sign 36 t_sign, aI (G.2 1) q_t_before 222 t_before] H := hP
    have hD : va_D A [oX6 q_t t_length q_t_text t_size q_t_sign t_otherSize q_t_other q_t_before (t_undoMany - (1 : Int32)) t_readSize q_t_read q_t_side q_t_tall q_t_endRow q_t_endColumn q_t_endSide q_t_gone t_lineRow t_lineColumn t_lineSide t_lineMany q_t_ways q_t_codes q_t_many, aI (G.2 1) q_t_sign 36 t_sign, aI (G.2 1) q_t_before 222 t_before] := hD
    refine lv_aload_n hx hb dX6_undo_20 rfl (lv_at hl 0 rfl) ?_
    refine lv_aload_n hx hb dX6_undo_21 rfl (lv_at hl 0 rfl) ?_
    refine va_get (D := G.1) (ci := 6) (v := .ref q_t_before) (C := RX6) (T := TX6) (N := 23) hx hb hts iX6 hown hK hP 0 rfl rfl 6 (by decide) fl_19 (fun _ h9 => h9) rfl dX6_undo_22 ?_
    refine lv_bipush (v := 37) hx hb dX6_undo_25 (by decide) ?_
    refine lv_aload_n hx hb dX6_undo_27 rfl (lv_at hl 0 rfl) ?_
    refine va_get (D := G.1) (ci := 6) (v := .int (t_undoMany - (1 : Int32))) (C := RX6) (T := TX6) (N := 23) hx hb hts iX6 hown hK hP 0 rfl rfl 7 (by decide) fl_80 (fun _ h9 => h9) rfl dX6_undo_28 ?_
    refine lv_imul hx hb dX6_undo_31 ?_
    obtain ⟨hi_32, hE⟩ := ck_some hE
    refine va_iald hx hb hK hP 2 1 rfl rfl (inb_in hi_32) dX6_undo_32 ?_
    refine va_put (D := G.1) (ci := 6) (v := .int (t_before ((37 : Int32) * (t_undoMany - (1 : Int32))).toNatClampNeg)) (ty := .int) (C := RX6) (T := TX6) (N := 23) hx hb hts iX6 tyX6 tyX6_ok nmX6 hown hK hP hD hS 0 rfl rfl 2 (by decide) fl_54 (fun _ h9 => h9) rfl (by decide +kernel) rfl rfl (Nat.le_of_ble_eq_true rfl) dX6_undo_33 (fun H locs hP hD hS => ?_)
    have hP : va_P G.1 vwCl [oX6 q_t t_length q_t_text (t_before ((37 : Int32) * (t_undoMany - (1 : Int32))).toNatClampNeg) q_t_sign t_otherSize q_t_other q_t_before (t_undoMany - (1 : Int32)) t_readSize q_t_read q_t_side q_t_tall q_t_endRow q_t_endColumn q_t_endSide q_t_gone t_lineRow t_lineColumn t_lineSide t_lineMany q_t_ways q_t_codes q_t_many, aI (G.2 1) q_t_sign 36 t_sign, aI (G.2 1) q_t_before 222 t_before] H := hP
    have hD : va_D A [oX6 q_t t_length q_t_text (t_before ((37 : Int32) * (t_undoMany - (1 : Int32))).toNatClampNeg) q_t_sign t_otherSize q_t_other q_t_before (t_undoMany - (1 : Int32)) t_readSize q_t_read q_t_side q_t_tall q_t_endRow q_t_endColumn q_t_endSide q_t_gone t_lineRow t_lineColumn t_lineSide t_lineMany q_t_ways q_t_codes q_t_many, aI (G.2 1) q_t_sign 36 t_sign, aI (G.2 1) q_t_before 222 t_before] := hD
    refine lv_iconst (v := 0) hx hb dX6_undo_36 (by decide) ?_
    refine lv_istore_n (lv' := [(1, .int (0 : Int32)), (0, .ref q_t)]) hx hb dX6_undo_37 rfl hl (by decide) rfl (fun ls hl => ?_)
    refine itr_ind (fun (x1 : Int32 × (Nat → Int32)) => ∀ (H : Heap) (locs : List Loc) (ls : Array Slot), va_P G.1 vwCl [oX6 q_t t_length q_t_text (t_before ((37 : Int32) * (t_undoMany - (1 : Int32))).toNatClampNeg) q_t_sign t_otherSize q_t_other q_t_before (t_undoMany - (1 : Int32)) t_readSize q_t_read q_t_side q_t_tall q_t_endRow q_t_endColumn q_t_endSide q_t_gone t_lineRow t_lineColumn t_lineSide t_lineMany q_t_ways q_t_codes q_t_many, aI (G.2 1) q_t_sign 36 x1.2, aI (G.2 1) q_t_before 222 t_before] H → va_D A [oX6 q_t t_length q_t_text (t_before ((37 : Int32) * (t_undoMany - (1 : Int32))).toNatClampNeg) q_t_sign t_otherSize q_t_other q_t_before (t_undoMany - (1 : Int32)) t_readSize q_t_read q_t_side q_t_tall q_t_endRow q_t_endColumn q_t_endSide q_t_gone t_lineRow t_lineColumn t_lineSide t_lineMany q_t_ways q_t_codes q_t_many, aI (G.2 1) q_t_sign 36 x1.2, aI (G.2 1) q_t_before 222 t_before] → va_S A s.heap H locs → lv_has ls 2 [(0, .ref q_t), (1, .int x1.1)] → W p l e (headSpec wsX6_undo ({ frames := 0, cells := 0, slots := 0, locals := 0 })).room s m ([.ref q_t] : List Value).toArray below meth c H locs 0 0 Q (F0 m 38 ls [])) (fun x1 o_1 hE ih_1 hr_1 => ?_) _ _ hE _ _ ls hP hD hS (lv_sub hl [1, 0] rfl)
    obtain ⟨v1_1, w_t_sign_1⟩ := x1
    try dsimp only at hE
    intro H locs ls hP hD hS hl
    try dsimp only at hP hD hl ⊢
    refine lv_iload_n hx hb dX6_undo_38 rfl (lv_at hl 1 rfl) ?_
    refine lv_bipush (v := 36) hx hb dX6_undo_39 (by decide) ?_
    refine lv_icmp_ge (tgt := 72) hx hb dX6_undo_41 (by decide) (fun c_41 => ?_) (fun c_41 => ?_)
    · replace hE := (if_pos c_41).symm.trans hE
      refine lv_aload_n hx hb dX6_undo_72 rfl (lv_at hl 0 rfl) ?_
      refine va_get (D := G.1) (ci := 6) (v := .int (t_undoMany - (1 : Int32))) (C := RX6) (T := TX6) (N := 23) hx hb hts iX6 hown hK hP 0 rfl rfl 7 (by decide) fl_80 (fun _ h9 => h9) rfl dX6_undo_73 ?_
      have e_1 := Option.some.inj hE
      have e_0 := hr_1 _ e_1.symm
      subst e_0
      rw [hQ]
      exact W.iret (v := t_undoMany - (1 : Int32)) hx hb hr (fun t ht _ => ⟨⟨_, (), rfl, rfl, by rw [ht]; exact hP, hD⟩, hS.F ht⟩) hS.2.2 dX6_undo_76
    · replace hE := (if_neg c_41).symm.trans hE
      refine lv_aload_n hx hb dX6_undo_44 rfl (lv_at hl 0 rfl) ?_
      refine va_get (D := G.1) (ci := 6) (v := .ref q_t_sign) (C := RX6) (T := TX6) (N := 23) hx hb hts iX6 hown hK hP 0 rfl rfl 3 (by decide) fl_13 (fun _ h9 => h9) rfl dX6_undo_45 ?_
      refine lv_iload_n hx hb dX6_undo_48 rfl (lv_at hl 1 rfl) ?_
      refine lv_aload_n hx hb dX6_undo_49 rfl (lv_at hl 0 rfl) ?_
      refine va_get (D := G.1) (ci := 6) (v := .ref q_t_before) (C := RX6) (T := TX6) (N := 23) hx hb hts iX6 hown hK hP 0 rfl rfl 6 (by decide) fl_19 (fun _ h9 => h9) rfl dX6_undo_50 ?_
      refine lv_bipush (v := 37) hx hb dX6_undo_53 (by decide) ?_
      refine lv_aload_n hx hb dX6_undo_55 rfl (lv_at hl 0 rfl) ?_
      refine va_get (D := G.1) (ci := 6) (v := .int (t_undoMany - (1 : Int32))) (C := RX6) (T := TX6) (N := 23) hx hb hts iX6 hown hK hP 0 rfl rfl 7 (by decide) fl_80 (fun _ h9 => h9) rfl dX6_undo_56 ?_
      refine lv_imul hx hb dX6_undo_59 ?_
      refine lv_iconst (v := 1) hx hb dX6_undo_60 (by decide) ?_
      refine lv_iadd hx hb dX6_undo_61 ?_
      refine lv_iload_n hx hb dX6_undo_62 rfl (lv_at hl 1 rfl) ?_
      refine lv_iadd hx hb dX6_undo_63 ?_
      obtain ⟨hi_64, hE⟩ := ck_some hE
      refine va_iald hx hb hK hP 2 1 rfl rfl (inb_in hi_64) dX6_undo_64 ?_
      obtain ⟨hi_65, hE⟩ := ck_some hE
      refine va_iast hx hb hK hP hD hS 1 1 rfl rfl (inb_in hi_65) dX6_undo_65 (fun H locs hP hD hS => ?_)
      have hP : va_P G.1 vwCl [oX6 q_t t_length q_t_text (t_before ((37 : Int32) * (t_undoMany - (1 : Int32))).toNatClampNeg) q_t_sign t_otherSize q_t_other q_t_before (t_undoMany - (1 : Int32)) t_readSize q_t_read q_t_side q_t_tall q_t_endRow q_t_endColumn q_t_endSide q_t_gone t_lineRow t_lineColumn t_lineSide t_lineMany q_t_ways q_t_codes q_t_many, aI (G.2 1) q_t_sign 36 (upd w_t_sign_1 v1_1.toNatClampNeg (t_before ((((37 : Int32) * (t_undoMany - (1 : Int32))) + (1 : Int32)) + v1_1).toNatClampNeg)), aI (G.2 1) q_t_before 222 t_before] H := hP
      have hD : va_D A [oX6 q_t t_length q_t_text (t_before ((37 : Int32) * (t_undoMany - (1 : Int32))).toNatClampNeg) q_t_sign t_otherSize q_t_other q_t_before (t_undoMany - (1 : Int32)) t_readSize q_t_read q_t_side q_t_tall q_t_endRow q_t_endColumn q_t_endSide q_t_gone t_lineRow t_lineColumn t_lineSide t_lineMany q_t_ways q_t_codes q_t_many, aI (G.2 1) q_t_sign 36 (upd w_t_sign_1 v1_1.toNatClampNeg (t_before ((((37 : Int32) * (t_undoMany - (1 : Int32))) + (1 : Int32)) + v1_1).toNatClampNeg)), aI (G.2 1) q_t_before 222 t_before] := hD
      obtain ⟨z_65, ez9⟩ : ∃ w, w = upd w_t_sign_1 v1_1.toNatClampNeg (t_before ((((37 : Int32) * (t_undoMany - (1 : Int32))) + (1 : Int32)) + v1_1).toNatClampNeg) := ⟨_, rfl⟩
      rw [← ez9] at hE hP hD
      replace hE := bs_some hE
      try dsimp only at hE
      clear ez9
      refine lv_iinc (v := v1_1 + (1 : Int32)) (lv' := [(1, .int (v1_1 + (1 : Int32))), (0, .ref q_t)]) hx hb dX6_undo_66 hl (k := 1) rfl rfl (by decide) rfl (fun ls hl => ?_)
      refine lv_goto (tgt := 38) hx hb dX6_undo_69 (by decide) ?_
      have e_1 := Option.some.inj hE
      exact ih_1 _ e_1.symm _ _ ls hP hD hS (lv_sub hl [1, 0] rfl)
  · replace hE := (if_pos c_4).symm.trans hE
    refine lv_bipush (v := -2) hx hb dX6_undo_7 (by decide) ?_
    have e_0 := Option.some.inj hE
    subst e_0
    rw [hQ]
    exact W.iret (v := (-2 : Int32)) hx hb hr (fun t ht _ => ⟨⟨_, (), rfl, rfl, by rw [ht]; exact hP, hD⟩, hS.F ht⟩) hS.2.2 dX6_undo_9
def S_X6_keep (t_size : Int32) (t_sign : Nat → Int32) (t_other : Nat → Int32) : Option (Int32 × Int32 × (Nat → Int32)) := (S_X6_copy t_sign t_other).bind (fun (y16 : Nat → Int32) => some (t_size, t_size, y16))
theorem kd_X6_keep : yX6_keep.cls = RX6 ∧ yX6_keep.cls ≠ "java/lang/invoke/MethodHandle" ∧ yX6_keep.cls ≠ "java/lang/invoke/VarHandle" ∧ (parseMethodDescriptor yX6_keep.desc).map (fun d => d.parameters.length) = some 0 := by decide +kernel
set_option maxHeartbeats 4000000 in
set_option maxRecDepth 100000 in
theorem c_X6_keep {l : Launch} {G : kG} (sz : Nat) {q_t : Nat} {t_length : Int32} {q_t_text : Nat} {t_size : Int32} {q_t_sign : Nat} {t_otherSize : Int32} {q_t_other : Nat} {q_t_before : Nat} {t_undoMany : Int32} {t_readSize : Int32} {q_t_read : Nat} {q_t_side : Nat} {q_t_tall : Nat} {q_t_endRow : Nat} {q_t_endColumn : Nat} {q_t_endSide : Nat} {q_t_gone : Nat} {t_lineRow : Int32} {t_lineColumn : Int32} {t_lineSide : Int32} {t_lineMany : Int32} {q_t_ways : Nat} {q_t_codes : Nat} {q_t_many : Nat} {t_sign : Nat → Int32} {t_other : Nat → Int32} {res : Int32 × Int32 × (Nat → Int32)} (hE : S_X6_keep t_size t_sign t_other = some res) : Met l yX6_keep wsX6_keep ({ frames := 1, cells := 0, slots := 0, locals := 22 }) (va_Pc [.ref q_t] (fun U => U.heap.size = sz ∧ va_P G.1 vwCl [oX6 q_t t_length q_t_text t_size q_t_sign t_otherSize q_t_other q_t_before t_undoMany t_readSize q_t_read q_t_side q_t_tall q_t_endRow q_t_endColumn q_t_endSide q_t_gone t_lineRow t_lineColumn t_lineSide t_lineMany q_t_ways q_t_codes q_t_many, aI (G.2 1) q_t_sign 36 t_sign, aI (G.2 1) q_t_other 36 t_other] U.heap ∧ kw G U ∧ va_D (fun _ => True) [oX6 q_t t_length q_t_text t_size q_t_sign t_otherSize q_t_other q_t_before t_undoMany t_readSize q_t_read q_t_side q_t_tall q_t_endRow q_t_endColumn q_t_endSide q_t_gone t_lineRow t_lineColumn t_lineSide t_lineMany q_t_ways q_t_codes q_t_many, aI (G.2 1) q_t_sign 36 t_sign, aI (G.2 1) q_t_other 36 t_other])) (va_Qi (fun r (_ : Unit) => r = res.1) (fun _ t => va_P G.1 vwCl [oX6 q_t t_length q_t_text t_size q_t_sign res.2.1 q_t_other q_t_before t_undoMany t_readSize q_t_read q_t_side q_t_tall q_t_endRow q_t_endColumn q_t_endSide q_t_gone t_lineRow t_lineColumn t_lineSide t_lineMany q_t_ways q_t_codes q_t_many, aI (G.2 1) q_t_sign 36 t_sign, aI (G.2 1) q_t_other 36 res.2.2] t.heap ∧ va_D (va_A [oX6 q_t t_length q_t_text t_size q_t_sign t_otherSize q_t_other q_t_before t_undoMany t_readSize q_t_read q_t_side q_t_tall q_t_endRow q_t_endColumn q_t_endSide q_t_gone t_lineRow t_lineColumn t_lineSide t_lineMany q_t_ways q_t_codes q_t_many, aI (G.2 1) q_t_sign 36 t_sign, aI (G.2 1) q_t_other 36 t_other] sz) [oX6 q_t t_length q_t_text t_size q_t_sign res.2.1 q_t_other q_t_before t_undoMany t_readSize q_t_read q_t_side q_t_tall q_t_endRow q_t_endColumn q_t_endSide q_t_gone t_lineRow t_lineColumn t_lineSide t_lineMany q_t_ways q_t_codes q_t_many, aI (G.2 1) q_t_sign 36 t_sign, aI (G.2 1) q_t_other 36 res.2.2]) (va_A [oX6 q_t t_length q_t_text t_size q_t_sign t_otherSize q_t_other q_t_before t_undoMany t_readSize q_t_read q_t_side q_t_tall q_t_endRow q_t_endColumn q_t_endSide q_t_gone t_lineRow t_lineColumn t_lineSide t_lineMany q_t_ways q_t_codes q_t_many, aI (G.2 1) q_t_sign 36 t_sign, aI (G.2 1) q_t_other 36 t_other] sz)) 0 0 (va_A [oX6 q_t t_length q_t_text t_size q_t_sign t_otherSize q_t_other q_t_before t_undoMany t_readSize q_t_read q_t_side q_t_tall q_t_endRow q_t_endColumn q_t_endSide q_t_gone t_lineRow t_lineColumn t_lineSide t_lineMany q_t_ways q_t_codes q_t_many, aI (G.2 1) q_t_sign 36 t_sign, aI (G.2 1) q_t_other 36 t_other] sz) := by
  refine Met.ofQ (cc := cX6_keep) (maxL := 1) (ret := (some .int)) (by decide) rfl ?_
  intro p e s m args below meth c s₁ Q hQ B hml hv
  obtain ⟨rfl, hsz, hP, hKW, hD0⟩ := hv
  have hK := hKW.1
  have hx := B.exec
  have hb := B.bytes
  have hr := B.returns
  have hts := atoms_spec (ws := wsX6_keep) B.pre
  have hown : s.vm.findClass RX6 = some m.cls := findClass_of_methodNamed B.named
  have hlocks := B.notSynchronized
  have iX6 : ∀ w ∈ u_ws RX6 TX6 23, w ∈ wsX6_keep := by decide +kernel
  have fl_54 := hts (.fieldLink RX6 54 "AlternateSignsModel" "size" "I") (by decide +kernel)
  have fl_83 := hts (.fieldLink RX6 83 "AlternateSignsModel" "otherSize" "I") (by decide +kernel)
  have fl_13 := hts (.fieldLink RX6 13 "AlternateSignsModel" "sign" "[I") (by decide +kernel)
  have fl_16 := hts (.fieldLink RX6 16 "AlternateSignsModel" "other" "[I") (by decide +kernel)
  subst hsz
  have hD := hD0.self (sz := s.heap.size)
  generalize hAe : va_A [oX6 q_t t_length q_t_text t_size q_t_sign t_otherSize q_t_other q_t_before t_undoMany t_readSize q_t_read q_t_side q_t_tall q_t_endRow q_t_endColumn q_t_endSide q_t_gone t_lineRow t_lineColumn t_lineSide t_lineMany q_t_ways q_t_codes q_t_many, aI (G.2 1) q_t_sign 36 t_sign, aI (G.2 1) q_t_other 36 t_other] s.heap.size = A at hD hQ
  have hA : ∀ q : Nat, s.heap.size ≤ q → A q := fun q h => by rw [← hAe]; exact Or.inr h
  have hS : va_S A s.heap s.heap [] := va_S.rf
  have hl := lv_entry ([.ref q_t]) (n := 1) (Nat.le_of_ble_eq_true rfl)
  rw [lg_entry_eq]
  generalize (lg_sl ([.ref q_t]) ++ List.replicate (1 - (lg_sl ([.ref q_t])).length) Slot.unset).toArray = ls at hl ⊢
  have hl : lv_has ls 1 [(0, .ref q_t)] := hl
  unfold S_X6_keep at hE
  refine lv_aload_n hx hb dX6_keep_0 rfl (lv_at hl 0 rfl) ?_
  refine lv_aload_n hx hb dX6_keep_1 rfl (lv_at hl 0 rfl) ?_
  refine va_get (D := G.1) (ci := 6) (v := .int t_size) (C := RX6) (T := TX6) (N := 23) hx hb hts iX6 hown hK hP 0 rfl rfl 2 (by decide) fl_54 (fun _ h9 => h9) rfl dX6_keep_2 ?_
  refine va_put (D := G.1) (ci := 6) (v := .int t_size) (ty := .int) (C := RX6) (T := TX6) (N := 23) hx hb hts iX6 tyX6 tyX6_ok nmX6 hown hK hP hD hS 0 rfl rfl 4 (by decide) fl_83 (fun _ h9 => h9) rfl (by decide +kernel) rfl rfl (Nat.le_of_ble_eq_true rfl) dX6_keep_5 (fun H locs hP hD hS => ?_)
  have hP : va_P G.1 vwCl [oX6 q_t t_length q_t_text t_size q_t_sign t_size q_t_other q_t_before t_undoMany t_readSize q_t_read q_t_side q_t_tall q_t_endRow q_t_endColumn q_t_endSide q_t_gone t_lineRow t_lineColumn t_lineSide t_lineMany q_t_ways q_t_codes q_t_many, aI (G.2 1) q_t_sign 36 t_sign, aI (G.2 1) q_t_other 36 t_other] H := hP
  have hD : va_D A [oX6 q_t t_length q_t_text t_size q_t_sign t_size q_t_other q_t_before t_undoMany t_readSize q_t_read q_t_side q_t_tall q_t_endRow q_t_endColumn q_t_endSide q_t_gone t_lineRow t_lineColumn t_lineSide t_lineMany q_t_ways q_t_codes q_t_many, aI (G.2 1) q_t_sign 36 t_sign, aI (G.2 1) q_t_other 36 t_other] := hD
  refine lv_aload_n hx hb dX6_keep_8 rfl (lv_at hl 0 rfl) ?_
  refine va_get (D := G.1) (ci := 6) (v := .ref q_t_sign) (C := RX6) (T := TX6) (N := 23) hx hb hts iX6 hown hK hP 0 rfl rfl 3 (by decide) fl_13 (fun _ h9 => h9) rfl dX6_keep_9 ?_
  refine lv_aload_n hx hb dX6_keep_12 rfl (lv_at hl 0 rfl) ?_
  refine va_get (D := G.1) (ci := 6) (v := .ref q_t_other) (C := RX6) (T := TX6) (N := 23) hx hb hts iX6 hown hK hP 0 rfl rfl 5 (by decide) fl_16 (fun _ h9 => h9) rfl dX6_keep_13 ?_
  obtain ⟨y16, hC_16, hE⟩ := Option.bind_eq_some_iff.mp hE
  obtain ⟨m_16_0, ex9⟩ : ∃ z, z = y16 := ⟨_, rfl⟩
  subst ex9
  try dsimp only at hE
  have hPc := hP.sub (ws' := [aI (G.2 1) q_t_sign 36 t_sign, aI (G.2 1) q_t_other 36 t_other]) [1, 2] rfl
  have hDc := hD.sub (ws' := [aI (G.2 1) q_t_sign 36 t_sign, aI (G.2 1) q_t_other 36 t_other]) [1, 2] (by decide) rfl
  have hFc := va_free (wc := [aI (G.2 1) q_t_sign 36 t_sign, aI (G.2 1) q_t_other 36 t_other]) hD hS hA [1, 2] rfl
  refine va_callv (va_runS (As := [.ref q_t_sign, .ref q_t_other]) (rest := []) ⟨hx, hb, hml, hown, hts⟩ (c_X6_copy (l := l) (G := G) _ (q_p1 := q_t_sign) (p1 := t_sign) (q_p2 := q_t_other) (p2 := t_other) hC_16) (va_cwS 2 hts gX6_keep_X6_copy rfl rfl rfl kd_X6_copy ⟨Nat.le_of_ble_eq_true rfl, Nat.le_of_ble_eq_true rfl⟩) (iv_S hKW hPc hDc) rfl rfl hl.1 rfl (lv_room (Nat.le_of_ble_eq_true rfl)) dX6_keep_16 ⟨Nat.zero_le _, Nat.zero_le _⟩) hS (fun q _ h => hFc q h) hFc (fun u9 t9 H1 locs ht9 hvm9 hw9 hB9 hz9 hk9 hS => ?_)
  obtain ⟨hP1, hD1⟩ := hB9
  rw [ht9] at hP1
  obtain ⟨hP, hD⟩ := va_join (wr := [oX6 q_t t_length q_t_text t_size q_t_sign t_size q_t_other q_t_before t_undoMany t_readSize q_t_read q_t_side q_t_tall q_t_endRow q_t_endColumn q_t_endSide q_t_gone t_lineRow t_lineColumn t_lineSide t_lineMany q_t_ways q_t_codes q_t_many]) (w1 := [aI (G.2 1) q_t_sign 36 t_sign, aI (G.2 1) q_t_other 36 m_16_0]) hP hD [1, 2] [0] rfl rfl (by decide) (by decide) hk9 hFc hP1 hD1
  have hP := hP.sub (ws' := [oX6 q_t t_length q_t_text t_size q_t_sign t_size q_t_other q_t_before t_undoMany t_readSize q_t_read q_t_side q_t_tall q_t_endRow q_t_endColumn q_t_endSide q_t_gone t_lineRow t_lineColumn t_lineSide t_lineMany q_t_ways q_t_codes q_t_many, aI (G.2 1) q_t_sign 36 t_sign, aI (G.2 1) q_t_other 36 m_16_0]) [0, 1, 2] rfl
  have hD := hD.sub (ws' := [oX6 q_t t_length q_t_text t_size q_t_sign t_size q_t_other q_t_before t_undoMany t_readSize q_t_read q_t_side q_t_tall q_t_endRow q_t_endColumn q_t_endSide q_t_gone t_lineRow t_lineColumn t_lineSide t_lineMany q_t_ways q_t_codes q_t_many, aI (G.2 1) q_t_sign 36 t_sign, aI (G.2 1) q_t_other 36 m_16_0]) [0, 1, 2] (by decide) rfl
  clear hPc hDc hFc hP1 hD1 hk9 hz9 hvm9
  refine lv_aload_n hx hb dX6_keep_19 rfl (lv_at hl 0 rfl) ?_
  refine va_get (D := G.1) (ci := 6) (v := .int t_size) (C := RX6) (T := TX6) (N := 23) hx hb hts iX6 hown hK hP 0 rfl rfl 2 (by decide) fl_54 (fun _ h9 => h9) rfl dX6_keep_20 ?_
  have e_0 := Option.some.inj hE
  subst e_0
  rw [hQ]
  exact W.iret (v := t_size) hx hb hr (fun t ht _ => ⟨⟨_, (), rfl, rfl, by rw [ht]; exact hP, hD⟩, hS.F ht⟩) hS.2.2 dX6_keep_23
def S_X6_sign (p1 : Int32) (p2 : Int32) (t_size : Int32) (t_sign : Nat → Int32) : Option Int32 := (S_X6_in p1.toInt64 (0 : Int64) ((t_size - (1 : Int32)).toInt64)).bind (fun (y10 : Int32) => if y10 = 0 then some (-1 : Int32) else (S_X6_in p2.toInt64 (0 : Int64) ((t_size - (1 : Int32)).toInt64)).bind (fun (y26 : Int32) => if y26 = 0 then some (-1 : Int32) else ck (inb (((6 : Int32) * p1) + p2) 36) (some ((t_sign (((6 : Int32) * p1) + p2).toNatClampNeg) + (100 : Int32)))))
theorem kd_X6_sign : yX6_sign.cls = RX6 ∧ yX6_sign.cls ≠ "java/lang/invoke/MethodHandle" ∧ yX6_sign.cls ≠ "java/lang/invoke/VarHandle" ∧ (parseMethodDescriptor yX6_sign.desc).map (fun d => d.parameters.length) = some 2 := by decide +kernel
set_option maxHeartbeats 4000000 in
set_option maxRecDepth 100000 in
theorem c_X6_sign {l : Launch} {G : kG} {p1 : Int32} {p2 : Int32} {q_t : Nat} {t_length : Int32} {q_t_text : Nat} {t_size : Int32} {q_t_sign : Nat} {t_otherSize : Int32} {q_t_other : Nat} {q_t_before : Nat} {t_undoMany : Int32} {t_readSize : Int32} {q_t_read : Nat} {q_t_side : Nat} {q_t_tall : Nat} {q_t_endRow : Nat} {q_t_endColumn : Nat} {q_t_endSide : Nat} {q_t_gone : Nat} {t_lineRow : Int32} {t_lineColumn : Int32} {t_lineSide : Int32} {t_lineMany : Int32} {q_t_ways : Nat} {q_t_codes : Nat} {q_t_many : Nat} {t_sign : Nat → Int32} {res : Int32} (hE : S_X6_sign p1 p2 t_size t_sign = some res) : Met l yX6_sign wsX6_sign ({ frames := 1, cells := 0, slots := 0, locals := 25 }) (va_Pc [.ref q_t, .int p1, .int p2] (fun U => va_P G.1 vwCl [oX6 q_t t_length q_t_text t_size q_t_sign t_otherSize q_t_other q_t_before t_undoMany t_readSize q_t_read q_t_side q_t_tall q_t_endRow q_t_endColumn q_t_endSide q_t_gone t_lineRow t_lineColumn t_lineSide t_lineMany q_t_ways q_t_codes q_t_many, aI (G.2 1) q_t_sign 36 t_sign] U.heap ∧ kw G U)) (vp_Si (fun r => r = res)) 0 0 (fun _ => False) := by
  refine Met.ofQ (cc := cX6_sign) (maxL := 3) (ret := (some .int)) (by decide) rfl ?_
  intro p e s m args below meth c s₁ Q hQ B hml hv
  obtain ⟨rfl, hP, hKW⟩ := hv
  have hK := hKW.1
  have hx := B.exec
  have hb := B.bytes
  have hr := B.returns
  have hts := atoms_spec (ws := wsX6_sign) B.pre
  have hown : s.vm.findClass RX6 = some m.cls := findClass_of_methodNamed B.named
  have hlocks := B.notSynchronized
  have iX6 : ∀ w ∈ u_ws RX6 TX6 23, w ∈ wsX6_sign := by decide +kernel
  have fl_54 := hts (.fieldLink RX6 54 "AlternateSignsModel" "size" "I") (by decide +kernel)
  have fl_13 := hts (.fieldLink RX6 13 "AlternateSignsModel" "sign" "[I") (by decide +kernel)
  have hl := lv_entry ([.ref q_t, .int p1, .int p2]) (n := 3) (Nat.le_of_ble_eq_true rfl)
  rw [lg_entry_eq]
  generalize (lg_sl ([.ref q_t, .int p1, .int p2]) ++ List.replicate (3 - (lg_sl ([.ref q_t, .int p1, .int p2])).length) Slot.unset).toArray = ls at hl ⊢
  have hl : lv_has ls 3 [(0, .ref q_t), (1, .int p1), (2, .int p2)] := hl
  unfold S_X6_sign at hE
  refine lv_iload_n hx hb dX6_sign_0 rfl (lv_at hl 1 rfl) ?_
  refine lv_i2l (v := p1.toInt64) hx hb dX6_sign_1 rfl ?_
  refine lv_lconst (v := 0) hx hb dX6_sign_2 (by decide) ?_
  refine lv_aload_n hx hb dX6_sign_3 rfl (lv_at hl 0 rfl) ?_
  refine va_get (D := G.1) (ci := 6) (v := .int t_size) (C := RX6) (T := TX6) (N := 23) hx hb hts iX6 hown hK hP 0 rfl rfl 2 (by decide) fl_54 (fun _ h9 => h9) rfl dX6_sign_4 ?_
  refine lv_iconst (v := 1) hx hb dX6_sign_7 (by decide) ?_
  refine lv_isub hx hb dX6_sign_8 ?_
  refine lv_i2l (v := (t_size - (1 : Int32)).toInt64) hx hb dX6_sign_9 rfl ?_
  obtain ⟨y10, hC_10, hE⟩ := Option.bind_eq_some_iff.mp hE
  obtain ⟨r_10, ex9⟩ : ∃ z, z = y10 := ⟨_, rfl⟩
  subst ex9
  try dsimp only at hE
  refine vp_callSi (va_Run.run (va_runS (As := [.long p1.toInt64, .long (0 : Int64), .long ((t_size - (1 : Int32)).toInt64)]) (rest := []) ⟨hx, hb, hml, hown, hts⟩ (c_X6_in (l := l) (G := G) (p1 := p1.toInt64) (p2 := (0 : Int64)) (p3 := (t_size - (1 : Int32)).toInt64) hC_10) (va_cwS 3 hts gX6_sign_X6_in rfl rfl rfl kd_X6_in ⟨Nat.le_of_ble_eq_true rfl, Nat.le_of_ble_eq_true rfl⟩) (pv_S hKW (hP.sub (ws' := []) [] rfl)) rfl rfl hl.1 rfl (lv_room (Nat.le_of_ble_eq_true rfl)) dX6_sign_10 ⟨Nat.zero_le _, Nat.zero_le _⟩)) (fun r9 hr9 => ?_)
  subst r9
  refine lv_if_eq (tgt := 49) hx hb dX6_sign_13 (by decide) (fun c_13 => ?_) (fun c_13 => ?_)
  · replace hE := (if_pos c_13).symm.trans hE
    refine lv_iconst (v := -1) hx hb dX6_sign_49 (by decide) ?_
    have e_0 := Option.some.inj hE
    rw [hQ]
    exact W.iret (v := (-1 : Int32)) hx hb hr (fun t ht _ => ⟨_, rfl, e_0, ht⟩) (fun q h => by cases h) dX6_sign_50
  · replace hE := (if_neg c_13).symm.trans hE
    refine lv_iload_n hx hb dX6_sign_16 rfl (lv_at hl 2 rfl) ?_
    refine lv_i2l (v := p2.toInt64) hx hb dX6_sign_17 rfl ?_
    refine lv_lconst (v := 0) hx hb dX6_sign_18 (by decide) ?_
    refine lv_aload_n hx hb dX6_sign_19 rfl (lv_at hl 0 rfl) ?_
    refine va_get (D := G.1) (ci := 6) (v := .int t_size) (C := RX6) (T := TX6) (N := 23) hx hb hts iX6 hown hK hP 0 rfl rfl 2 (by decide) fl_54 (fun _ h9 => h9) rfl dX6_sign_20 ?_
    refine lv_iconst (v := 1) hx hb dX6_sign_23 (by decide) ?_
    refine lv_isub hx hb dX6_sign_24 ?_
    refine lv_i2l (v := (t_size - (1 : Int32)).toInt64) hx hb dX6_sign_25 rfl ?_
    obtain ⟨y26, hC_26, hE⟩ := Option.bind_eq_some_iff.mp hE
    obtain ⟨r_26, ex9⟩ : ∃ z, z = y26 := ⟨_, rfl⟩
    subst ex9
    try dsimp only at hE
    refine vp_callSi (va_Run.run (va_runS (As := [.long p2.toInt64, .long (0 : Int64), .long ((t_size - (1 : Int32)).toInt64)]) (rest := []) ⟨hx, hb, hml, hown, hts⟩ (c_X6_in (l := l) (G := G) (p1 := p2.toInt64) (p2 := (0 : Int64)) (p3 := (t_size - (1 : Int32)).toInt64) hC_26) (va_cwS 3 hts gX6_sign_X6_in rfl rfl rfl kd_X6_in ⟨Nat.le_of_ble_eq_true rfl, Nat.le_of_ble_eq_true rfl⟩) (pv_S hKW (hP.sub (ws' := []) [] rfl)) rfl rfl hl.1 rfl (lv_room (Nat.le_of_ble_eq_true rfl)) dX6_sign_26 ⟨Nat.zero_le _, Nat.zero_le _⟩)) (fun r9 hr9 => ?_)
    subst r9
    refine lv_if_eq (tgt := 49) hx hb dX6_sign_29 (by decide) (fun c_29 => ?_) (fun c_29 => ?_)
    · replace hE := (if_pos c_29).symm.trans hE
      refine lv_iconst (v := -1) hx hb dX6_sign_49 (by decide) ?_
      have e_0 := Option.some.inj hE
      rw [hQ]
      exact W.iret (v := (-1 : Int32)) hx hb hr (fun t ht _ => ⟨_, rfl, e_0, ht⟩) (fun q h => by cases h) dX6_sign_50
    · replace hE := (if_neg c_29).symm.trans hE
      refine lv_aload_n hx hb dX6_sign_32 rfl (lv_at hl 0 rfl) ?_
      refine va_get (D := G.1) (ci := 6) (v := .ref q_t_sign) (C := RX6) (T := TX6) (N := 23) hx hb hts iX6 hown hK hP 0 rfl rfl 3 (by decide) fl_13 (fun _ h9 => h9) rfl dX6_sign_33 ?_
      refine lv_bipush (v := 6) hx hb dX6_sign_36 (by decide) ?_
      refine lv_iload_n hx hb dX6_sign_38 rfl (lv_at hl 1 rfl) ?_
      refine lv_imul hx hb dX6_sign_39 ?_
      refine lv_iload_n hx hb dX6_sign_40 rfl (lv_at hl 2 rfl) ?_
      refine lv_iadd hx hb dX6_sign_41 ?_
      obtain ⟨hi_42, hE⟩ := ck_some hE
      refine va_iald hx hb hK hP 1 1 rfl rfl (inb_in hi_42) dX6_sign_42 ?_
      refine lv_bipush (v := 100) hx hb dX6_sign_43 (by decide) ?_
      refine lv_iadd hx hb dX6_sign_45 ?_
      refine lv_goto (tgt := 50) hx hb dX6_sign_46 (by decide) ?_
      have e_0 := Option.some.inj hE
      rw [hQ]
      exact W.iret (v := (t_sign (((6 : Int32) * p1) + p2).toNatClampNeg) + (100 : Int32)) hx hb hr (fun t ht _ => ⟨_, rfl, e_0, ht⟩) (fun q h => by cases h) dX6_sign_50
def S_X6_cornerOf (p2 : Int32) (p3 : Int32) (p1 : Nat → Int32) : Option Int32 := itr (fun (x1 : Int32 × Int32) => if p2 ≤ x1.2 then some (.inr x1.1) else itr (fun (x2 : Int32 × Int32) => if p3 ≤ x2.2 then some (.inr (.inl (x2.1, x1.2 + (1 : Int32)))) else ck (inb (((6 : Int32) * x1.2) + x2.2) 36) (some (.inl (x2.1 + (p1 (((6 : Int32) * x1.2) + x2.2).toNatClampNeg), x2.2 + (1 : Int32))))) 10000 (x1.1, (0 : Int32))) 10000 ((0 : Int32), (0 : Int32))
theorem kd_X6_cornerOf : yX6_cornerOf.cls ≠ "java/lang/invoke/MethodHandle" ∧ yX6_cornerOf.cls ≠ "java/lang/invoke/VarHandle" ∧ (parseMethodDescriptor yX6_cornerOf.desc).map (fun d => d.parameters.length) = some 3 := by decide +kernel
set_option maxHeartbeats 4000000 in
set_option maxRecDepth 100000 in
theorem c_X6_cornerOf {l : Launch} {G : kG} {p2 : Int32} {p3 : Int32} {q_p1 : Nat} {p1 : Nat → Int32} {res : Int32} (hE : S_X6_cornerOf p2 p3 p1 = some res) : Met l yX6_cornerOf wsX6_cornerOf ({ frames := 0, cells := 0, slots := 0, locals := 0 }) (va_Pc [.ref q_p1, .int p2, .int p3] (fun U => va_P G.1 vwCl [aI (G.2 1) q_p1 36 p1] U.heap ∧ kw G U)) (vp_Si (fun r => r = res)) 0 0 (fun _ => False) := by
  refine Met.ofQ (cc := cX6_cornerOf) (maxL := 6) (ret := (some .int)) (by decide) rfl ?_
  intro p e s m args below meth c s₁ Q hQ B hml hv
  obtain ⟨rfl, hP, hKW⟩ := hv
  have hK := hKW.1
  have hx := B.exec
  have hb := B.bytes
  have hr := B.returns
  have hts := atoms_spec (ws := wsX6_cornerOf) B.pre
  have hown : s.vm.findClass RX6 = some m.cls := findClass_of_methodNamed B.named
  have hlocks := B.notSynchronized
  have hl := lv_entry ([.ref q_p1, .int p2, .int p3]) (n := 6) (Nat.le_of_ble_eq_true rfl)
  rw [lg_entry_eq]
  generalize (lg_sl ([.ref q_p1, .int p2, .int p3]) ++ List.replicate (6 - (lg_sl ([.ref q_p1, .int p2, .int p3])).length) Slot.unset).toArray = ls at hl ⊢
  have hl : lv_has ls 6 [(0, .ref q_p1), (1, .int p2), (2, .int p3)] := hl
  unfold S_X6_cornerOf at hE
  refine lv_iconst (v := 0) hx hb dX6_cornerOf_0 (by decide) ?_
  refine lv_istore_n (lv' := [(3, .int (0 : Int32)), (0, .ref q_p1), (1, .int p2), (2, .int p3)]) hx hb dX6_cornerOf_1 rfl hl (by decide) rfl (fun ls hl => ?_)
  refine lv_iconst (v := 0) hx hb dX6_cornerOf_2 (by decide) ?_
  refine lv_istore (lv' := [(4, .int (0 : Int32)), (3, .int (0 : Int32)), (0, .ref q_p1), (1, .int p2), (2, .int p3)]) hx hb dX6_cornerOf_3 hl (by decide) rfl (fun ls hl => ?_)
  refine itr_ind (fun (x1 : Int32 × Int32) => ∀ (ls : Array Slot), lv_has ls 6 [(0, .ref q_p1), (1, .int p2), (2, .int p3), (3, .int x1.1), (4, .int x1.2)] → W p l e (headSpec wsX6_cornerOf ({ frames := 0, cells := 0, slots := 0, locals := 0 })).room s m ([.ref q_p1, .int p2, .int p3] : List Value).toArray below meth c s.heap [] 0 0 Q (F0 m 5 ls [])) (fun x1 o_1 hE ih_1 hr_1 => ?_) _ _ hE ls (lv_sub hl [2, 3, 4, 1, 0] rfl)
  obtain ⟨v3_1, v4_1⟩ := x1
  try dsimp only at hE
  intro ls hl
  try dsimp only at hl ⊢
  refine lv_iload hx hb dX6_cornerOf_5 (lv_at hl 4 rfl) ?_
  refine lv_iload_n hx hb dX6_cornerOf_7 rfl (lv_at hl 1 rfl) ?_
  refine lv_icmp_ge (tgt := 45) hx hb dX6_cornerOf_8 (by decide) (fun c_8 => ?_) (fun c_8 => ?_)
  · replace hE := (if_pos c_8).symm.trans hE
    refine lv_iload_n hx hb dX6_cornerOf_45 rfl (lv_at hl 3 rfl) ?_
    have e_1 := Option.some.inj hE
    have e_0 := hr_1 _ e_1.symm
    rw [hQ]
    exact W.iret (v := v3_1) hx hb hr (fun t ht _ => ⟨_, rfl, e_0, ht⟩) (fun q h => by cases h) dX6_cornerOf_46
  · replace hE := (if_neg c_8).symm.trans hE
    refine lv_iconst (v := 0) hx hb dX6_cornerOf_11 (by decide) ?_
    refine lv_istore (lv' := [(5, .int (0 : Int32)), (0, .ref q_p1), (1, .int p2), (2, .int p3), (3, .int v3_1), (4, .int v4_1)]) hx hb dX6_cornerOf_12 hl (by decide) rfl (fun ls hl => ?_)
    refine itr_ind (fun (x2 : Int32 × Int32) => ∀ (ls : Array Slot), lv_has ls 6 [(0, .ref q_p1), (1, .int p2), (2, .int p3), (3, .int x2.1), (4, .int v4_1), (5, .int x2.2)] → W p l e (headSpec wsX6_cornerOf ({ frames := 0, cells := 0, slots := 0, locals := 0 })).room s m ([.ref q_p1, .int p2, .int p3] : List Value).toArray below meth c s.heap [] 0 0 Q (F0 m 14 ls [])) (fun x2 o_2 hE ih_2 hr_2 => ?_) _ _ hE ls (lv_sub hl [1, 2, 3, 4, 5, 0] rfl)
    obtain ⟨v3_2, v5_2⟩ := x2
    try dsimp only at hE
    intro ls hl
    try dsimp only at hl ⊢
    refine lv_iload hx hb dX6_cornerOf_14 (lv_at hl 5 rfl) ?_
    refine lv_iload_n hx hb dX6_cornerOf_16 rfl (lv_at hl 2 rfl) ?_
    refine lv_icmp_ge (tgt := 39) hx hb dX6_cornerOf_17 (by decide) (fun c_17 => ?_) (fun c_17 => ?_)
    · replace hE := (if_pos c_17).symm.trans hE
      refine lv_iinc (v := v4_1 + (1 : Int32)) (lv' := [(4, .int (v4_1 + (1 : Int32))), (0, .ref q_p1), (1, .int p2), (2, .int p3), (3, .int v3_2), (5, .int v5_2)]) hx hb dX6_cornerOf_39 hl (k := 4) rfl rfl (by decide) rfl (fun ls hl => ?_)
      refine lv_goto (tgt := 5) hx hb dX6_cornerOf_42 (by decide) ?_
      have e_2 := Option.some.inj hE
      have e_1 := hr_2 _ e_2.symm
      exact ih_1 _ e_1.symm ls (lv_sub hl [1, 2, 3, 4, 0] rfl)
    · replace hE := (if_neg c_17).symm.trans hE
      refine lv_iload_n hx hb dX6_cornerOf_20 rfl (lv_at hl 3 rfl) ?_
      refine lv_aload_n hx hb dX6_cornerOf_21 rfl (lv_at hl 0 rfl) ?_
      refine lv_bipush (v := 6) hx hb dX6_cornerOf_22 (by decide) ?_
      refine lv_iload hx hb dX6_cornerOf_24 (lv_at hl 4 rfl) ?_
      refine lv_imul hx hb dX6_cornerOf_26 ?_
      refine lv_iload hx hb dX6_cornerOf_27 (lv_at hl 5 rfl) ?_
      refine lv_iadd hx hb dX6_cornerOf_29 ?_
      obtain ⟨hi_30, hE⟩ := ck_some hE
      refine va_iald hx hb hK hP 0 1 rfl rfl (inb_in hi_30) dX6_cornerOf_30 ?_
      refine lv_iadd hx hb dX6_cornerOf_31 ?_
      refine lv_istore_n (lv' := [(3, .int (v3_2 + (p1 (((6 : Int32) * v4_1) + v5_2).toNatClampNeg))), (0, .ref q_p1), (1, .int p2), (2, .int p3), (4, .int v4_1), (5, .int v5_2)]) hx hb dX6_cornerOf_32 rfl hl (by decide) rfl (fun ls hl => ?_)
      refine lv_iinc (v := v5_2 + (1 : Int32)) (lv' := [(5, .int (v5_2 + (1 : Int32))), (3, .int (v3_2 + (p1 (((6 : Int32) * v4_1) + v5_2).toNatClampNeg))), (0, .ref q_p1), (1, .int p2), (2, .int p3), (4, .int v4_1)]) hx hb dX6_cornerOf_33 hl (k := 5) rfl rfl (by decide) rfl (fun ls hl => ?_)
      refine lv_goto (tgt := 14) hx hb dX6_cornerOf_36 (by decide) ?_
      have e_2 := Option.some.inj hE
      exact ih_2 _ e_2.symm ls (lv_sub hl [2, 3, 4, 1, 5, 0] rfl)
def S_X6_heightOf (p2 : Int32) (p3 : Int32) (p1 : Nat → Int32) : Option Int32 := (S_X6_cornerOf p2 p3 p1).bind (fun (y7 : Int32) => some ((p2 + p3) - ((2 : Int32) * y7)))
theorem kd_X6_heightOf : yX6_heightOf.cls ≠ "java/lang/invoke/MethodHandle" ∧ yX6_heightOf.cls ≠ "java/lang/invoke/VarHandle" ∧ (parseMethodDescriptor yX6_heightOf.desc).map (fun d => d.parameters.length) = some 3 := by decide +kernel
set_option maxHeartbeats 4000000 in
set_option maxRecDepth 100000 in
theorem c_X6_heightOf {l : Launch} {G : kG} {p2 : Int32} {p3 : Int32} {q_p1 : Nat} {p1 : Nat → Int32} {res : Int32} (hE : S_X6_heightOf p2 p3 p1 = some res) : Met l yX6_heightOf wsX6_heightOf ({ frames := 1, cells := 0, slots := 0, locals := 25 }) (va_Pc [.ref q_p1, .int p2, .int p3] (fun U => va_P G.1 vwCl [aI (G.2 1) q_p1 36 p1] U.heap ∧ kw G U)) (vp_Si (fun r => r = res)) 0 0 (fun _ => False) := by
  refine Met.ofQ (cc := cX6_heightOf) (maxL := 3) (ret := (some .int)) (by decide) rfl ?_
  intro p e s m args below meth c s₁ Q hQ B hml hv
  obtain ⟨rfl, hP, hKW⟩ := hv
  have hK := hKW.1
  have hx := B.exec
  have hb := B.bytes
  have hr := B.returns
  have hts := atoms_spec (ws := wsX6_heightOf) B.pre
  have hown : s.vm.findClass RX6 = some m.cls := findClass_of_methodNamed B.named
  have hlocks := B.notSynchronized
  have hl := lv_entry ([.ref q_p1, .int p2, .int p3]) (n := 3) (Nat.le_of_ble_eq_true rfl)
  rw [lg_entry_eq]
  generalize (lg_sl ([.ref q_p1, .int p2, .int p3]) ++ List.replicate (3 - (lg_sl ([.ref q_p1, .int p2, .int p3])).length) Slot.unset).toArray = ls at hl ⊢
  have hl : lv_has ls 3 [(0, .ref q_p1), (1, .int p2), (2, .int p3)] := hl
  unfold S_X6_heightOf at hE
  refine lv_iload_n hx hb dX6_heightOf_0 rfl (lv_at hl 1 rfl) ?_
  refine lv_iload_n hx hb dX6_heightOf_1 rfl (lv_at hl 2 rfl) ?_
  refine lv_iadd hx hb dX6_heightOf_2 ?_
  refine lv_iconst (v := 2) hx hb dX6_heightOf_3 (by decide) ?_
  refine lv_aload_n hx hb dX6_heightOf_4 rfl (lv_at hl 0 rfl) ?_
  refine lv_iload_n hx hb dX6_heightOf_5 rfl (lv_at hl 1 rfl) ?_
  refine lv_iload_n hx hb dX6_heightOf_6 rfl (lv_at hl 2 rfl) ?_
  obtain ⟨y7, hC_7, hE⟩ := Option.bind_eq_some_iff.mp hE
  obtain ⟨r_7, ex9⟩ : ∃ z, z = y7 := ⟨_, rfl⟩
  subst ex9
  try dsimp only at hE
  refine vp_callSi (va_Run.run (va_runS (As := [.ref q_p1, .int p2, .int p3]) (rest := [.int (2 : Int32), .int (p2 + p3)]) ⟨hx, hb, hml, hown, hts⟩ (c_X6_cornerOf (l := l) (G := G) (p2 := p2) (p3 := p3) (q_p1 := q_p1) (p1 := p1) hC_7) (va_cwS 3 hts gX6_heightOf_X6_cornerOf rfl rfl rfl kd_X6_cornerOf ⟨Nat.le_of_ble_eq_true rfl, Nat.le_of_ble_eq_true rfl⟩) (pv_S hKW (hP.sub (ws' := [aI (G.2 1) q_p1 36 p1]) [0] rfl)) rfl rfl hl.1 rfl (lv_room (Nat.le_of_ble_eq_true rfl)) dX6_heightOf_7 ⟨Nat.zero_le _, Nat.zero_le _⟩)) (fun r9 hr9 => ?_)
  subst r9
  refine lv_imul hx hb dX6_heightOf_10 ?_
  refine lv_isub hx hb dX6_heightOf_11 ?_
  have e_0 := Option.some.inj hE
  rw [hQ]
  exact W.iret (v := (p2 + p3) - ((2 : Int32) * r_7)) hx hb hr (fun t ht _ => ⟨_, rfl, e_0, ht⟩) (fun q h => by cases h) dX6_heightOf_12
def S_X6_isCorner (p1 : Int32) (p2 : Int32) (t_size : Int32) : Option Int32 := (S_X6_in p1.toInt64 (0 : Int64) t_size.toInt64).bind (fun (y8 : Int32) => if y8 = 0 then some (0 : Int32) else (S_X6_in p2.toInt64 (0 : Int64) t_size.toInt64).bind (fun (y22 : Int32) => if y22 = 0 then some (0 : Int32) else some (1 : Int32)))
theorem kd_X6_isCorner : yX6_isCorner.cls = RX6 ∧ yX6_isCorner.cls ≠ "java/lang/invoke/MethodHandle" ∧ yX6_isCorner.cls ≠ "java/lang/invoke/VarHandle" ∧ (parseMethodDescriptor yX6_isCorner.desc).map (fun d => d.parameters.length) = some 2 := by decide +kernel
set_option maxHeartbeats 4000000 in
set_option maxRecDepth 100000 in
theorem c_X6_isCorner {l : Launch} {G : kG} {p1 : Int32} {p2 : Int32} {q_t : Nat} {t_length : Int32} {q_t_text : Nat} {t_size : Int32} {q_t_sign : Nat} {t_otherSize : Int32} {q_t_other : Nat} {q_t_before : Nat} {t_undoMany : Int32} {t_readSize : Int32} {q_t_read : Nat} {q_t_side : Nat} {q_t_tall : Nat} {q_t_endRow : Nat} {q_t_endColumn : Nat} {q_t_endSide : Nat} {q_t_gone : Nat} {t_lineRow : Int32} {t_lineColumn : Int32} {t_lineSide : Int32} {t_lineMany : Int32} {q_t_ways : Nat} {q_t_codes : Nat} {q_t_many : Nat} {res : Int32} (hE : S_X6_isCorner p1 p2 t_size = some res) : Met l yX6_isCorner wsX6_isCorner ({ frames := 1, cells := 0, slots := 0, locals := 25 }) (va_Pc [.ref q_t, .int p1, .int p2] (fun U => va_P G.1 vwCl [oX6 q_t t_length q_t_text t_size q_t_sign t_otherSize q_t_other q_t_before t_undoMany t_readSize q_t_read q_t_side q_t_tall q_t_endRow q_t_endColumn q_t_endSide q_t_gone t_lineRow t_lineColumn t_lineSide t_lineMany q_t_ways q_t_codes q_t_many] U.heap ∧ kw G U)) (vp_Si (fun r => r = res)) 0 0 (fun _ => False) := by
  refine Met.ofQ (cc := cX6_isCorner) (maxL := 3) (ret := (some .boolean)) (by decide) rfl ?_
  intro p e s m args below meth c s₁ Q hQ B hml hv
  obtain ⟨rfl, hP, hKW⟩ := hv
  have hK := hKW.1
  have hx := B.exec
  have hb := B.bytes
  have hr := B.returns
  have hts := atoms_spec (ws := wsX6_isCorner) B.pre
  have hown : s.vm.findClass RX6 = some m.cls := findClass_of_methodNamed B.named
  have hlocks := B.notSynchronized
  have iX6 : ∀ w ∈ u_ws RX6 TX6 23, w ∈ wsX6_isCorner := by decide +kernel
  have fl_54 := hts (.fieldLink RX6 54 "AlternateSignsModel" "size" "I") (by decide +kernel)
  have hl := lv_entry ([.ref q_t, .int p1, .int p2]) (n := 3) (Nat.le_of_ble_eq_true rfl)
  rw [lg_entry_eq]
  generalize (lg_sl ([.ref q_t, .int p1, .int p2]) ++ List.replicate (3 - (lg_sl ([.ref q_t, .int p1, .int p2])).length) Slot.unset).toArray = ls at hl ⊢
  have hl : lv_has ls 3 [(0, .ref q_t), (1, .int p1), (2, .int p2)] := hl
  unfold S_X6_isCorner at hE
  refine lv_iload_n hx hb dX6_isCorner_0 rfl (lv_at hl 1 rfl) ?_
  refine lv_i2l (v := p1.toInt64) hx hb dX6_isCorner_1 rfl ?_
  refine lv_lconst (v := 0) hx hb dX6_isCorner_2 (by decide) ?_
  refine lv_aload_n hx hb dX6_isCorner_3 rfl (lv_at hl 0 rfl) ?_
  refine va_get (D := G.1) (ci := 6) (v := .int t_size) (C := RX6) (T := TX6) (N := 23) hx hb hts iX6 hown hK hP 0 rfl rfl 2 (by decide) fl_54 (fun _ h9 => h9) rfl dX6_isCorner_4 ?_
  refine lv_i2l (v := t_size.toInt64) hx hb dX6_isCorner_7 rfl ?_
  obtain ⟨y8, hC_8, hE⟩ := Option.bind_eq_some_iff.mp hE
  obtain ⟨r_8, ex9⟩ : ∃ z, z = y8 := ⟨_, rfl⟩
  subst ex9
  try dsimp only at hE
  refine vp_callSi (va_Run.run (va_runS (As := [.long p1.toInt64, .long (0 : Int64), .long t_size.toInt64]) (rest := []) ⟨hx, hb, hml, hown, hts⟩ (c_X6_in (l := l) (G := G) (p1 := p1.toInt64) (p2 := (0 : Int64)) (p3 := t_size.toInt64) hC_8) (va_cwS 3 hts gX6_isCorner_X6_in rfl rfl rfl kd_X6_in ⟨Nat.le_of_ble_eq_true rfl, Nat.le_of_ble_eq_true rfl⟩) (pv_S hKW (hP.sub (ws' := []) [] rfl)) rfl rfl hl.1 rfl (lv_room (Nat.le_of_ble_eq_true rfl)) dX6_isCorner_8 ⟨Nat.zero_le _, Nat.zero_le _⟩)) (fun r9 hr9 => ?_)
  subst r9
  refine lv_if_eq (tgt := 32) hx hb dX6_isCorner_11 (by decide) (fun c_11 => ?_) (fun c_11 => ?_)
  · replace hE := (if_pos c_11).symm.trans hE
    refine lv_iconst (v := 0) hx hb dX6_isCorner_32 (by decide) ?_
    have e_0 := Option.some.inj hE
    rw [hQ]
    exact W.zret (v := (0 : Int32)) hx hb hr rfl (fun t ht _ => ⟨_, rfl, e_0, ht⟩) (fun q h => by cases h) dX6_isCorner_33
  · replace hE := (if_neg c_11).symm.trans hE
    refine lv_iload_n hx hb dX6_isCorner_14 rfl (lv_at hl 2 rfl) ?_
    refine lv_i2l (v := p2.toInt64) hx hb dX6_isCorner_15 rfl ?_
    refine lv_lconst (v := 0) hx hb dX6_isCorner_16 (by decide) ?_
    refine lv_aload_n hx hb dX6_isCorner_17 rfl (lv_at hl 0 rfl) ?_
    refine va_get (D := G.1) (ci := 6) (v := .int t_size) (C := RX6) (T := TX6) (N := 23) hx hb hts iX6 hown hK hP 0 rfl rfl 2 (by decide) fl_54 (fun _ h9 => h9) rfl dX6_isCorner_18 ?_
    refine lv_i2l (v := t_size.toInt64) hx hb dX6_isCorner_21 rfl ?_
    obtain ⟨y22, hC_22, hE⟩ := Option.bind_eq_some_iff.mp hE
    obtain ⟨r_22, ex9⟩ : ∃ z, z = y22 := ⟨_, rfl⟩
    subst ex9
    try dsimp only at hE
    refine vp_callSi (va_Run.run (va_runS (As := [.long p2.toInt64, .long (0 : Int64), .long t_size.toInt64]) (rest := []) ⟨hx, hb, hml, hown, hts⟩ (c_X6_in (l := l) (G := G) (p1 := p2.toInt64) (p2 := (0 : Int64)) (p3 := t_size.toInt64) hC_22) (va_cwS 3 hts gX6_isCorner_X6_in rfl rfl rfl kd_X6_in ⟨Nat.le_of_ble_eq_true rfl, Nat.le_of_ble_eq_true rfl⟩) (pv_S hKW (hP.sub (ws' := []) [] rfl)) rfl rfl hl.1 rfl (lv_room (Nat.le_of_ble_eq_true rfl)) dX6_isCorner_22 ⟨Nat.zero_le _, Nat.zero_le _⟩)) (fun r9 hr9 => ?_)
    subst r9
    refine lv_if_eq (tgt := 32) hx hb dX6_isCorner_25 (by decide) (fun c_25 => ?_) (fun c_25 => ?_)
    · replace hE := (if_pos c_25).symm.trans hE
      refine lv_iconst (v := 0) hx hb dX6_isCorner_32 (by decide) ?_
      have e_0 := Option.some.inj hE
      rw [hQ]
      exact W.zret (v := (0 : Int32)) hx hb hr rfl (fun t ht _ => ⟨_, rfl, e_0, ht⟩) (fun q h => by cases h) dX6_isCorner_33
    · replace hE := (if_neg c_25).symm.trans hE
      refine lv_iconst (v := 1) hx hb dX6_isCorner_28 (by decide) ?_
      refine lv_goto (tgt := 33) hx hb dX6_isCorner_29 (by decide) ?_
      have e_0 := Option.some.inj hE
      rw [hQ]
      exact W.zret (v := (1 : Int32)) hx hb hr rfl (fun t ht _ => ⟨_, rfl, e_0, ht⟩) (fun q h => by cases h) dX6_isCorner_33
def S_X6_corner (p1 : Int32) (p2 : Int32) (t_size : Int32) (t_sign : Nat → Int32) : Option Int32 := (S_X6_isCorner p1 p2 t_size).bind (fun (y3 : Int32) => if y3 = 0 then some (-1 : Int32) else (S_X6_cornerOf p1 p2 t_sign).bind (fun (y15 : Int32) => some y15))
theorem kd_X6_corner : yX6_corner.cls = RX6 ∧ yX6_corner.cls ≠ "java/lang/invoke/MethodHandle" ∧ yX6_corner.cls ≠ "java/lang/invoke/VarHandle" ∧ (parseMethodDescriptor yX6_corner.desc).map (fun d => d.parameters.length) = some 2 := by decide +kernel
set_option maxHeartbeats 4000000 in
set_option maxRecDepth 100000 in
theorem c_X6_corner {l : Launch} {G : kG} {p1 : Int32} {p2 : Int32} {q_t : Nat} {t_length : Int32} {q_t_text : Nat} {t_size : Int32} {q_t_sign : Nat} {t_otherSize : Int32} {q_t_other : Nat} {q_t_before : Nat} {t_undoMany : Int32} {t_readSize : Int32} {q_t_read : Nat} {q_t_side : Nat} {q_t_tall : Nat} {q_t_endRow : Nat} {q_t_endColumn : Nat} {q_t_endSide : Nat} {q_t_gone : Nat} {t_lineRow : Int32} {t_lineColumn : Int32} {t_lineSide : Int32} {t_lineMany : Int32} {q_t_ways : Nat} {q_t_codes : Nat} {q_t_many : Nat} {t_sign : Nat → Int32} {res : Int32} (hE : S_X6_corner p1 p2 t_size t_sign = some res) : Met l yX6_corner wsX6_corner ({ frames := 2, cells := 0, slots := 0, locals := 47 }) (va_Pc [.ref q_t, .int p1, .int p2] (fun U => va_P G.1 vwCl [oX6 q_t t_length q_t_text t_size q_t_sign t_otherSize q_t_other q_t_before t_undoMany t_readSize q_t_read q_t_side q_t_tall q_t_endRow q_t_endColumn q_t_endSide q_t_gone t_lineRow t_lineColumn t_lineSide t_lineMany q_t_ways q_t_codes q_t_many, aI (G.2 1) q_t_sign 36 t_sign] U.heap ∧ kw G U)) (vp_Si (fun r => r = res)) 0 0 (fun _ => False) := by
  refine Met.ofQ (cc := cX6_corner) (maxL := 3) (ret := (some .int)) (by decide) rfl ?_
  intro p e s m args below meth c s₁ Q hQ B hml hv
  obtain ⟨rfl, hP, hKW⟩ := hv
  have hK := hKW.1
  have hx := B.exec
  have hb := B.bytes
  have hr := B.returns
  have hts := atoms_spec (ws := wsX6_corner) B.pre
  have hown : s.vm.findClass RX6 = some m.cls := findClass_of_methodNamed B.named
  have hlocks := B.notSynchronized
  have iX6 : ∀ w ∈ u_ws RX6 TX6 23, w ∈ wsX6_corner := by decide +kernel
  have fl_13 := hts (.fieldLink RX6 13 "AlternateSignsModel" "sign" "[I") (by decide +kernel)
  have hl := lv_entry ([.ref q_t, .int p1, .int p2]) (n := 3) (Nat.le_of_ble_eq_true rfl)
  rw [lg_entry_eq]
  generalize (lg_sl ([.ref q_t, .int p1, .int p2]) ++ List.replicate (3 - (lg_sl ([.ref q_t, .int p1, .int p2])).length) Slot.unset).toArray = ls at hl ⊢
  have hl : lv_has ls 3 [(0, .ref q_t), (1, .int p1), (2, .int p2)] := hl
  unfold S_X6_corner at hE
  refine lv_aload_n hx hb dX6_corner_0 rfl (lv_at hl 0 rfl) ?_
  refine lv_iload_n hx hb dX6_corner_1 rfl (lv_at hl 1 rfl) ?_
  refine lv_iload_n hx hb dX6_corner_2 rfl (lv_at hl 2 rfl) ?_
  obtain ⟨y3, hC_3, hE⟩ := Option.bind_eq_some_iff.mp hE
  obtain ⟨r_3, ex9⟩ : ∃ z, z = y3 := ⟨_, rfl⟩
  subst ex9
  try dsimp only at hE
  refine vp_callSi (va_Run.run (va_runV (As := [.int p1, .int p2]) (rest := []) ⟨hx, hb, hml, hown, hts⟩ (c_X6_isCorner (l := l) (G := G) (p1 := p1) (p2 := p2) (q_t := q_t) (t_length := t_length) (q_t_text := q_t_text) (t_size := t_size) (q_t_sign := q_t_sign) (t_otherSize := t_otherSize) (q_t_other := q_t_other) (q_t_before := q_t_before) (t_undoMany := t_undoMany) (t_readSize := t_readSize) (q_t_read := q_t_read) (q_t_side := q_t_side) (q_t_tall := q_t_tall) (q_t_endRow := q_t_endRow) (q_t_endColumn := q_t_endColumn) (q_t_endSide := q_t_endSide) (q_t_gone := q_t_gone) (t_lineRow := t_lineRow) (t_lineColumn := t_lineColumn) (t_lineSide := t_lineSide) (t_lineMany := t_lineMany) (q_t_ways := q_t_ways) (q_t_codes := q_t_codes) (q_t_many := q_t_many) hC_3) (cwV 2 hts gX6_corner_X6_isCorner rfl rfl rfl kd_X6_isCorner ⟨Nat.le_of_ble_eq_true rfl, Nat.le_of_ble_eq_true rfl⟩) (pv_V hKW (hP.sub (ws' := [oX6 q_t t_length q_t_text t_size q_t_sign t_otherSize q_t_other q_t_before t_undoMany t_readSize q_t_read q_t_side q_t_tall q_t_endRow q_t_endColumn q_t_endSide q_t_gone t_lineRow t_lineColumn t_lineSide t_lineMany q_t_ways q_t_codes q_t_many]) [0] rfl) (ci := 6) (q0 := 0) rfl rfl) rfl rfl hl.1 rfl (lv_room (Nat.le_of_ble_eq_true rfl)) dX6_corner_3 ⟨Nat.zero_le _, Nat.zero_le _⟩)) (fun r9 hr9 => ?_)
  subst r9
  refine lv_if_eq (tgt := 21) hx hb dX6_corner_6 (by decide) (fun c_6 => ?_) (fun c_6 => ?_)
  · replace hE := (if_pos c_6).symm.trans hE
    refine lv_iconst (v := -1) hx hb dX6_corner_21 (by decide) ?_
    have e_0 := Option.some.inj hE
    rw [hQ]
    exact W.iret (v := (-1 : Int32)) hx hb hr (fun t ht _ => ⟨_, rfl, e_0, ht⟩) (fun q h => by cases h) dX6_corner_22
  · replace hE := (if_neg c_6).symm.trans hE
    refine lv_aload_n hx hb dX6_corner_9 rfl (lv_at hl 0 rfl) ?_
    refine va_get (D := G.1) (ci := 6) (v := .ref q_t_sign) (C := RX6) (T := TX6) (N := 23) hx hb hts iX6 hown hK hP 0 rfl rfl 3 (by decide) fl_13 (fun _ h9 => h9) rfl dX6_corner_10 ?_
    refine lv_iload_n hx hb dX6_corner_13 rfl (lv_at hl 1 rfl) ?_
    refine lv_iload_n hx hb dX6_corner_14 rfl (lv_at hl 2 rfl) ?_
    obtain ⟨y15, hC_15, hE⟩ := Option.bind_eq_some_iff.mp hE
    obtain ⟨r_15, ex9⟩ : ∃ z, z = y15 := ⟨_, rfl⟩
    subst ex9
    try dsimp only at hE
    refine vp_callSi (va_Run.run (va_runS (As := [.ref q_t_sign, .int p1, .int p2]) (rest := []) ⟨hx, hb, hml, hown, hts⟩ (c_X6_cornerOf (l := l) (G := G) (p2 := p1) (p3 := p2) (q_p1 := q_t_sign) (p1 := t_sign) hC_15) (va_cwS 3 hts gX6_corner_X6_cornerOf rfl rfl rfl kd_X6_cornerOf ⟨Nat.le_of_ble_eq_true rfl, Nat.le_of_ble_eq_true rfl⟩) (pv_S hKW (hP.sub (ws' := [aI (G.2 1) q_t_sign 36 t_sign]) [1] rfl)) rfl rfl hl.1 rfl (lv_room (Nat.le_of_ble_eq_true rfl)) dX6_corner_15 ⟨Nat.zero_le _, Nat.zero_le _⟩)) (fun r9 hr9 => ?_)
    subst r9
    refine lv_goto (tgt := 22) hx hb dX6_corner_18 (by decide) ?_
    have e_0 := Option.some.inj hE
    rw [hQ]
    exact W.iret (v := r_15) hx hb hr (fun t ht _ => ⟨_, rfl, e_0, ht⟩) (fun q h => by cases h) dX6_corner_22
def S_X6_height (p1 : Int32) (p2 : Int32) (t_size : Int32) (t_sign : Nat → Int32) : Option Int32 := (S_X6_isCorner p1 p2 t_size).bind (fun (y3 : Int32) => if y3 = 0 then some (-1 : Int32) else (S_X6_heightOf p1 p2 t_sign).bind (fun (y15 : Int32) => some y15))
theorem kd_X6_height : yX6_height.cls = RX6 ∧ yX6_height.cls ≠ "java/lang/invoke/MethodHandle" ∧ yX6_height.cls ≠ "java/lang/invoke/VarHandle" ∧ (parseMethodDescriptor yX6_height.desc).map (fun d => d.parameters.length) = some 2 := by decide +kernel
set_option maxHeartbeats 4000000 in
set_option maxRecDepth 100000 in
theorem c_X6_height {l : Launch} {G : kG} {p1 : Int32} {p2 : Int32} {q_t : Nat} {t_length : Int32} {q_t_text : Nat} {t_size : Int32} {q_t_sign : Nat} {t_otherSize : Int32} {q_t_other : Nat} {q_t_before : Nat} {t_undoMany : Int32} {t_readSize : Int32} {q_t_read : Nat} {q_t_side : Nat} {q_t_tall : Nat} {q_t_endRow : Nat} {q_t_endColumn : Nat} {q_t_endSide : Nat} {q_t_gone : Nat} {t_lineRow : Int32} {t_lineColumn : Int32} {t_lineSide : Int32} {t_lineMany : Int32} {q_t_ways : Nat} {q_t_codes : Nat} {q_t_many : Nat} {t_sign : Nat → Int32} {res : Int32} (hE : S_X6_height p1 p2 t_size t_sign = some res) : Met l yX6_height wsX6_height ({ frames := 2, cells := 0, slots := 0, locals := 47 }) (va_Pc [.ref q_t, .int p1, .int p2] (fun U => va_P G.1 vwCl [oX6 q_t t_length q_t_text t_size q_t_sign t_otherSize q_t_other q_t_before t_undoMany t_readSize q_t_read q_t_side q_t_tall q_t_endRow q_t_endColumn q_t_endSide q_t_gone t_lineRow t_lineColumn t_lineSide t_lineMany q_t_ways q_t_codes q_t_many, aI (G.2 1) q_t_sign 36 t_sign] U.heap ∧ kw G U)) (vp_Si (fun r => r = res)) 0 0 (fun _ => False) := by
  refine Met.ofQ (cc := cX6_height) (maxL := 3) (ret := (some .int)) (by decide) rfl ?_
  intro p e s m args below meth c s₁ Q hQ B hml hv
  obtain ⟨rfl, hP, hKW⟩ := hv
  have hK := hKW.1
  have hx := B.exec
  have hb := B.bytes
  have hr := B.returns
  have hts := atoms_spec (ws := wsX6_height) B.pre
  have hown : s.vm.findClass RX6 = some m.cls := findClass_of_methodNamed B.named
  have hlocks := B.notSynchronized
  have iX6 : ∀ w ∈ u_ws RX6 TX6 23, w ∈ wsX6_height := by decide +kernel
  have fl_13 := hts (.fieldLink RX6 13 "AlternateSignsModel" "sign" "[I") (by decide +kernel)
  have hl := lv_entry ([.ref q_t, .int p1, .int p2]) (n := 3) (Nat.le_of_ble_eq_true rfl)
  rw [lg_entry_eq]
  generalize (lg_sl ([.ref q_t, .int p1, .int p2]) ++ List.replicate (3 - (lg_sl ([.ref q_t, .int p1, .int p2])).length) Slot.unset).toArray = ls at hl ⊢
  have hl : lv_has ls 3 [(0, .ref q_t), (1, .int p1), (2, .int p2)] := hl
  unfold S_X6_height at hE
  refine lv_aload_n hx hb dX6_height_0 rfl (lv_at hl 0 rfl) ?_
  refine lv_iload_n hx hb dX6_height_1 rfl (lv_at hl 1 rfl) ?_
  refine lv_iload_n hx hb dX6_height_2 rfl (lv_at hl 2 rfl) ?_
  obtain ⟨y3, hC_3, hE⟩ := Option.bind_eq_some_iff.mp hE
  obtain ⟨r_3, ex9⟩ : ∃ z, z = y3 := ⟨_, rfl⟩
  subst ex9
  try dsimp only at hE
  refine vp_callSi (va_Run.run (va_runV (As := [.int p1, .int p2]) (rest := []) ⟨hx, hb, hml, hown, hts⟩ (c_X6_isCorner (l := l) (G := G) (p1 := p1) (p2 := p2) (q_t := q_t) (t_length := t_length) (q_t_text := q_t_text) (t_size := t_size) (q_t_sign := q_t_sign) (t_otherSize := t_otherSize) (q_t_other := q_t_other) (q_t_before := q_t_before) (t_undoMany := t_undoMany) (t_readSize := t_readSize) (q_t_read := q_t_read) (q_t_side := q_t_side) (q_t_tall := q_t_tall) (q_t_endRow := q_t_endRow) (q_t_endColumn := q_t_endColumn) (q_t_endSide := q_t_endSide) (q_t_gone := q_t_gone) (t_lineRow := t_lineRow) (t_lineColumn := t_lineColumn) (t_lineSide := t_lineSide) (t_lineMany := t_lineMany) (q_t_ways := q_t_ways) (q_t_codes := q_t_codes) (q_t_many := q_t_many) hC_3) (cwV 2 hts gX6_height_X6_isCorner rfl rfl rfl kd_X6_isCorner ⟨Nat.le_of_ble_eq_true rfl, Nat.le_of_ble_eq_true rfl⟩) (pv_V hKW (hP.sub (ws' := [oX6 q_t t_length q_t_text t_size q_t_sign t_otherSize q_t_other q_t_before t_undoMany t_readSize q_t_read q_t_side q_t_tall q_t_endRow q_t_endColumn q_t_endSide q_t_gone t_lineRow t_lineColumn t_lineSide t_lineMany q_t_ways q_t_codes q_t_many]) [0] rfl) (ci := 6) (q0 := 0) rfl rfl) rfl rfl hl.1 rfl (lv_room (Nat.le_of_ble_eq_true rfl)) dX6_height_3 ⟨Nat.zero_le _, Nat.zero_le _⟩)) (fun r9 hr9 => ?_)
  subst r9
  refine lv_if_eq (tgt := 21) hx hb dX6_height_6 (by decide) (fun c_6 => ?_) (fun c_6 => ?_)
  · replace hE := (if_pos c_6).symm.trans hE
    refine lv_iconst (v := -1) hx hb dX6_height_21 (by decide) ?_
    have e_0 := Option.some.inj hE
    rw [hQ]
    exact W.iret (v := (-1 : Int32)) hx hb hr (fun t ht _ => ⟨_, rfl, e_0, ht⟩) (fun q h => by cases h) dX6_height_22
  · replace hE := (if_neg c_6).symm.trans hE
    refine lv_aload_n hx hb dX6_height_9 rfl (lv_at hl 0 rfl) ?_
    refine va_get (D := G.1) (ci := 6) (v := .ref q_t_sign) (C := RX6) (T := TX6) (N := 23) hx hb hts iX6 hown hK hP 0 rfl rfl 3 (by decide) fl_13 (fun _ h9 => h9) rfl dX6_height_10 ?_
    refine lv_iload_n hx hb dX6_height_13 rfl (lv_at hl 1 rfl) ?_
    refine lv_iload_n hx hb dX6_height_14 rfl (lv_at hl 2 rfl) ?_
    obtain ⟨y15, hC_15, hE⟩ := Option.bind_eq_some_iff.mp hE
    obtain ⟨r_15, ex9⟩ : ∃ z, z = y15 := ⟨_, rfl⟩
    subst ex9
    try dsimp only at hE
    refine vp_callSi (va_Run.run (va_runS (As := [.ref q_t_sign, .int p1, .int p2]) (rest := []) ⟨hx, hb, hml, hown, hts⟩ (c_X6_heightOf (l := l) (G := G) (p2 := p1) (p3 := p2) (q_p1 := q_t_sign) (p1 := t_sign) hC_15) (va_cwS 3 hts gX6_height_X6_heightOf rfl rfl rfl kd_X6_heightOf ⟨Nat.le_of_ble_eq_true rfl, Nat.le_of_ble_eq_true rfl⟩) (pv_S hKW (hP.sub (ws' := [aI (G.2 1) q_t_sign 36 t_sign]) [1] rfl)) rfl rfl hl.1 rfl (lv_room (Nat.le_of_ble_eq_true rfl)) dX6_height_15 ⟨Nat.zero_le _, Nat.zero_le _⟩)) (fun r9 hr9 => ?_)
    subst r9
    refine lv_goto (tgt := 22) hx hb dX6_height_18 (by decide) ?_
    have e_0 := Option.some.inj hE
    rw [hQ]
    exact W.iret (v := r_15) hx hb hr (fun t ht _ => ⟨_, rfl, e_0, ht⟩) (fun q h => by cases h) dX6_height_22
def S_X6_mayBe (p2 : Int32) (p3 : Int32) (p1 : Nat → Int32) : Option Int32 := (S_X6_heightOf p2 p3 p1).bind (fun (y3 : Int32) => (S_X6_heightOf (p2 - (1 : Int32)) p3 p1).bind (fun (y12 : Int32) => (S_X6_heightOf (p2 + (1 : Int32)) p3 p1).bind (fun (y24 : Int32) => jn (if y12 = y24 then (S_X6_heightOf p2 (p3 - (1 : Int32)) p1).bind (fun (y37 : Int32) => if y12 = y37 then (S_X6_heightOf p2 (p3 + (1 : Int32)) p1).bind (fun (y50 : Int32) => if y12 = y50 then some (.inl (1 : Int32)) else some (.inl (0 : Int32))) else some (.inl (0 : Int32))) else some (.inl (0 : Int32))) (fun (x1 : Int32) => if x1 = 0 then some (0 : Int32) else if y12 ≤ y3 then some (2 : Int32) else some (1 : Int32)))))
theorem kd_X6_mayBe : yX6_mayBe.cls ≠ "java/lang/invoke/MethodHandle" ∧ yX6_mayBe.cls ≠ "java/lang/invoke/VarHandle" ∧ (parseMethodDescriptor yX6_mayBe.desc).map (fun d => d.parameters.length) = some 3 := by decide +kernel
set_option maxHeartbeats 4000000 in
set_option maxRecDepth 100000 in
theorem c_X6_mayBe {l : Launch} {G : kG} {p2 : Int32} {p3 : Int32} {q_p1 : Nat} {p1 : Nat → Int32} {res : Int32} (hE : S_X6_mayBe p2 p3 p1 = some res) : Met l yX6_mayBe wsX6_mayBe ({ frames := 2, cells := 0, slots := 0, locals := 47 }) (va_Pc [.ref q_p1, .int p2, .int p3] (fun U => va_P G.1 vwCl [aI (G.2 1) q_p1 36 p1] U.heap ∧ kw G U)) (vp_Si (fun r => r = res)) 0 0 (fun _ => False) := by
  refine Met.ofQ (cc := cX6_mayBe) (maxL := 6) (ret := (some .int)) (by decide) rfl ?_
  intro p e s m args below meth c s₁ Q hQ B hml hv
  obtain ⟨rfl, hP, hKW⟩ := hv
  have hK := hKW.1
  have hx := B.exec
  have hb := B.bytes
  have hr := B.returns
  have hts := atoms_spec (ws := wsX6_mayBe) B.pre
  have hown : s.vm.findClass RX6 = some m.cls := findClass_of_methodNamed B.named
  have hlocks := B.notSynchronized
  have hl := lv_entry ([.ref q_p1, .int p2, .int p3]) (n := 6) (Nat.le_of_ble_eq_true rfl)
  rw [lg_entry_eq]
  generalize (lg_sl ([.ref q_p1, .int p2, .int p3]) ++ List.replicate (6 - (lg_sl ([.ref q_p1, .int p2, .int p3])).length) Slot.unset).toArray = ls at hl ⊢
  have hl : lv_has ls 6 [(0, .ref q_p1), (1, .int p2), (2, .int p3)] := hl
  unfold S_X6_mayBe at hE
  refine lv_aload_n hx hb dX6_mayBe_0 rfl (lv_at hl 0 rfl) ?_
  refine lv_iload_n hx hb dX6_mayBe_1 rfl (lv_at hl 1 rfl) ?_
  refine lv_iload_n hx hb dX6_mayBe_2 rfl (lv_at hl 2 rfl) ?_
  obtain ⟨y3, hC_3, hE⟩ := Option.bind_eq_some_iff.mp hE
  obtain ⟨r_3, ex9⟩ : ∃ z, z = y3 := ⟨_, rfl⟩
  subst ex9
  try dsimp only at hE
  refine vp_callSi (va_Run.run (va_runS (As := [.ref q_p1, .int p2, .int p3]) (rest := []) ⟨hx, hb, hml, hown, hts⟩ (c_X6_heightOf (l := l) (G := G) (p2 := p2) (p3 := p3) (q_p1 := q_p1) (p1 := p1) hC_3) (va_cwS 3 hts gX6_mayBe_X6_heightOf rfl rfl rfl kd_X6_heightOf ⟨Nat.le_of_ble_eq_true rfl, Nat.le_of_ble_eq_true rfl⟩) (pv_S hKW (hP.sub (ws' := [aI (G.2 1) q_p1 36 p1]) [0] rfl)) rfl rfl hl.1 rfl (lv_room (Nat.le_of_ble_eq_true rfl)) dX6_mayBe_3 ⟨Nat.zero_le _, Nat.zero_le _⟩)) (fun r9 hr9 => ?_)
  subst r9
  refine lv_istore_n (lv' := [(3, .int r_3), (0, .ref q_p1), (1, .int p2), (2, .int p3)]) hx hb dX6_mayBe_6 rfl hl (by decide) rfl (fun ls hl => ?_)
  refine lv_aload_n hx hb dX6_mayBe_7 rfl (lv_at hl 1 rfl) ?_
  refine lv_iload_n hx hb dX6_mayBe_8 rfl (lv_at hl 2 rfl) ?_
  refine lv_iconst (v := 1) hx hb dX6_mayBe_9 (by decide) ?_
  refine lv_isub hx hb dX6_mayBe_10 ?_
  refine lv_iload_n hx hb dX6_mayBe_11 rfl (lv_at hl 3 rfl) ?_
  obtain ⟨y12, hC_12, hE⟩ := Option.bind_eq_some_iff.mp hE
  obtain ⟨r_12, ex9⟩ : ∃ z, z = y12 := ⟨_, rfl⟩
  subst ex9
  try dsimp only at hE
  refine vp_callSi (va_Run.run (va_runS (As := [.ref q_p1, .int (p2 - (1 : Int32)), .int p3]) (rest := []) ⟨hx, hb, hml, hown, hts⟩ (c_X6_heightOf (l := l) (G := G) (p2 := p2 - (1 : Int32)) (p3 := p3) (q_p1 := q_p1) (p1 := p1) hC_12) (va_cwS 3 hts gX6_mayBe_X6_heightOf rfl rfl rfl kd_X6_heightOf ⟨Nat.le_of_ble_eq_true rfl, Nat.le_of_ble_eq_true rfl⟩) (pv_S hKW (hP.sub (ws' := [aI (G.2 1) q_p1 36 p1]) [0] rfl)) rfl rfl hl.1 rfl (lv_room (Nat.le_of_ble_eq_true rfl)) dX6_mayBe_12 ⟨Nat.zero_le _, Nat.zero_le _⟩)) (fun r9 hr9 => ?_)
  subst r9
  refine lv_istore (lv' := [(4, .int r_12), (3, .int r_3), (0, .ref q_p1), (1, .int p2), (2, .int p3)]) hx hb dX6_mayBe_15 hl (by decide) rfl (fun ls hl => ?_)
  refine lv_iload hx hb dX6_mayBe_17 (lv_at hl 0 rfl) ?_
  refine lv_aload_n hx hb dX6_mayBe_19 rfl (lv_at hl 2 rfl) ?_
  refine lv_iload_n hx hb dX6_mayBe_20 rfl (lv_at hl 3 rfl) ?_
  refine lv_iconst (v := 1) hx hb dX6_mayBe_21 (by decide) ?_
  refine lv_iadd hx hb dX6_mayBe_22 ?_
  refine lv_iload_n hx hb dX6_mayBe_23 rfl (lv_at hl 4 rfl) ?_
  obtain ⟨y24, hC_24, hE⟩ := Option.bind_eq_some_iff.mp hE
  obtain ⟨r_24, ex9⟩ : ∃ z, z = y24 := ⟨_, rfl⟩
  subst ex9
  try dsimp only at hE
  refine vp_callSi (va_Run.run (va_runS (As := [.ref q_p1, .int (p2 + (1 : Int32)), .int p3]) (rest := [.int r_12]) ⟨hx, hb, hml, hown, hts⟩ (c_X6_heightOf (l := l) (G := G) (p2 := p2 + (1 : Int32)) (p3 := p3) (q_p1 := q_p1) (p1 := p1) hC_24) (va_cwS 3 hts gX6_mayBe_X6_heightOf rfl rfl rfl kd_X6_heightOf ⟨Nat.le_of_ble_eq_true rfl, Nat.le_of_ble_eq_true rfl⟩) (pv_S hKW (hP.sub (ws' := [aI (G.2 1) q_p1 36 p1]) [0] rfl)) rfl rfl hl.1 rfl (lv_room (Nat.le_of_ble_eq_true rfl)) dX6_mayBe_24 ⟨Nat.zero_le _, Nat.zero_le _⟩)) (fun r9 hr9 => ?_)
  subst r9
  obtain ⟨o_1, hEp, hk9, hr_1⟩ := jn_some hE
  have ih_1 : ∀ (x1 : Int32), o_1 = .inl x1 → ∀ (ls : Array Slot), lv_has ls 6 [(3, .int r_3), (4, .int r_12)] → W p l e (headSpec wsX6_mayBe ({ frames := 2, cells := 0, slots := 0, locals := 47 })).room s m ([.ref q_p1, .int p2, .int p3] : List Value).toArray below meth c s.heap [] 0 0 Q (F0 m 61 ls [.int x1]) := by
    intro x1 ho9
    have hE := hk9 _ ho9
    obtain ⟨k0_1, ex9⟩ : ∃ z, z = x1 := ⟨_, rfl⟩
    subst ex9
    try dsimp only at hE
    intro ls hl
    try dsimp only at hl ⊢
    refine lv_istore (lv' := [(5, .int k0_1), (3, .int r_3), (4, .int r_12)]) hx hb dX6_mayBe_61 hl (by decide) rfl (fun ls hl => ?_)
    refine lv_iload hx hb dX6_mayBe_63 (lv_at hl 0 rfl) ?_
    refine lv_if_ne (tgt := 72) hx hb dX6_mayBe_65 (by decide) (fun c_65 => ?_) (fun c_65 => ?_)
    · replace hE := (if_neg c_65).symm.trans hE
      refine lv_iload_n hx hb dX6_mayBe_72 rfl (lv_at hl 1 rfl) ?_
      refine lv_iload hx hb dX6_mayBe_73 (lv_at hl 2 rfl) ?_
      refine lv_icmp_ge (tgt := 82) hx hb dX6_mayBe_75 (by decide) (fun c_75 => ?_) (fun c_75 => ?_)
      · replace hE := (if_pos c_75).symm.trans hE
        refine lv_iconst (v := 2) hx hb dX6_mayBe_82 (by decide) ?_
        have e_0 := Option.some.inj hE
        rw [hQ]
        exact W.iret (v := (2 : Int32)) hx hb hr (fun t ht _ => ⟨_, rfl, e_0, ht⟩) (fun q h => by cases h) dX6_mayBe_83
      · replace hE := (if_neg c_75).symm.trans hE
        refine lv_iconst (v := 1) hx hb dX6_mayBe_78 (by decide) ?_
        refine lv_goto (tgt := 83) hx hb dX6_mayBe_79 (by decide) ?_
        have e_0 := Option.some.inj hE
        rw [hQ]
        exact W.iret (v := (1 : Int32)) hx hb hr (fun t ht _ => ⟨_, rfl, e_0, ht⟩) (fun q h => by cases h) dX6_mayBe_83
    · replace hE := (if_pos c_65).symm.trans hE
      refine lv_iconst (v := 0) hx hb dX6_mayBe_68 (by decide) ?_
      refine lv_goto (tgt := 83) hx hb dX6_mayBe_69 (by decide) ?_
      have e_0 := Option.some.inj hE
      rw [hQ]
      exact W.iret (v := (0 : Int32)) hx hb hr (fun t ht _ => ⟨_, rfl, e_0, ht⟩) (fun q h => by cases h) dX6_mayBe_83
  clear hE hk9
  have hE := hEp
  clear hEp
  refine lv_icmp_ne (tgt := 60) hx hb dX6_mayBe_27 (by decide) (fun c_27 => ?_) (fun c_27 => ?_)
  · replace hE := (if_neg c_27).symm.trans hE
    refine lv_iconst (v := 0) hx hb dX6_mayBe_60 (by decide) ?_
    have e_1 := Option.some.inj hE
    exact ih_1 _ e_1.symm ls (lv_sub hl [1, 0] rfl)
  · replace hE := (if_pos c_27).symm.trans hE
    refine lv_iload hx hb dX6_mayBe_30 (lv_at hl 0 rfl) ?_
    refine lv_aload_n hx hb dX6_mayBe_32 rfl (lv_at hl 2 rfl) ?_
    refine lv_iload_n hx hb dX6_mayBe_33 rfl (lv_at hl 3 rfl) ?_
    refine lv_iload_n hx hb dX6_mayBe_34 rfl (lv_at hl 4 rfl) ?_
    refine lv_iconst (v := 1) hx hb dX6_mayBe_35 (by decide) ?_
    refine lv_isub hx hb dX6_mayBe_36 ?_
    obtain ⟨y37, hC_37, hE⟩ := Option.bind_eq_some_iff.mp hE
    obtain ⟨r_37, ex9⟩ : ∃ z, z = y37 := ⟨_, rfl⟩
    subst ex9
    try dsimp only at hE
    refine vp_callSi (va_Run.run (va_runS (As := [.ref q_p1, .int p2, .int (p3 - (1 : Int32))]) (rest := [.int r_12]) ⟨hx, hb, hml, hown, hts⟩ (c_X6_heightOf (l := l) (G := G) (p2 := p2) (p3 := p3 - (1 : Int32)) (q_p1 := q_p1) (p1 := p1) hC_37) (va_cwS 3 hts gX6_mayBe_X6_heightOf rfl rfl rfl kd_X6_heightOf ⟨Nat.le_of_ble_eq_true rfl, Nat.le_of_ble_eq_true rfl⟩) (pv_S hKW (hP.sub (ws' := [aI (G.2 1) q_p1 36 p1]) [0] rfl)) rfl rfl hl.1 rfl (lv_room (Nat.le_of_ble_eq_true rfl)) dX6_mayBe_37 ⟨Nat.zero_le _, Nat.zero_le _⟩)) (fun r9 hr9 => ?_)
    subst r9
    refine lv_icmp_ne (tgt := 60) hx hb dX6_mayBe_40 (by decide) (fun c_40 => ?_) (fun c_40 => ?_)
    · replace hE := (if_neg c_40).symm.trans hE
      refine lv_iconst (v := 0) hx hb dX6_mayBe_60 (by decide) ?_
      have e_1 := Option.some.inj hE
      exact ih_1 _ e_1.symm ls (lv_sub hl [1, 0] rfl)
    · replace hE := (if_pos c_40).symm.trans hE
      refine lv_iload hx hb dX6_mayBe_43 (lv_at hl 0 rfl) ?_
      refine lv_aload_n hx hb dX6_mayBe_45 rfl (lv_at hl 2 rfl) ?_
      refine lv_iload_n hx hb dX6_mayBe_46 rfl (lv_at hl 3 rfl) ?_
      refine lv_iload_n hx hb dX6_mayBe_47 rfl (lv_at hl 4 rfl) ?_
      refine lv_iconst (v := 1) hx hb dX6_mayBe_48 (by decide) ?_
      refine lv_iadd hx hb dX6_mayBe_49 ?_
      obtain ⟨y50, hC_50, hE⟩ := Option.bind_eq_some_iff.mp hE
      obtain ⟨r_50, ex9⟩ : ∃ z, z = y50 := ⟨_, rfl⟩
      subst ex9
      try dsimp only at hE
      refine vp_callSi (va_Run.run (va_runS (As := [.ref q_p1, .int p2, .int (p3 + (1 : Int32))]) (rest := [.int r_12]) ⟨hx, hb, hml, hown, hts⟩ (c_X6_heightOf (l := l) (G := G) (p2 := p2) (p3 := p3 + (1 : Int32)) (q_p1 := q_p1) (p1 := p1) hC_50) (va_cwS 3 hts gX6_mayBe_X6_heightOf rfl rfl rfl kd_X6_heightOf ⟨Nat.le_of_ble_eq_true rfl, Nat.le_of_ble_eq_true rfl⟩) (pv_S hKW (hP.sub (ws' := [aI (G.2 1) q_p1 36 p1]) [0] rfl)) rfl rfl hl.1 rfl (lv_room (Nat.le_of_ble_eq_true rfl)) dX6_mayBe_50 ⟨Nat.zero_le _, Nat.zero_le _⟩)) (fun r9 hr9 => ?_)
      subst r9
      refine lv_icmp_ne (tgt := 60) hx hb dX6_mayBe_53 (by decide) (fun c_53 => ?_) (fun c_53 => ?_)
      · replace hE := (if_neg c_53).symm.trans hE
        refine lv_iconst (v := 0) hx hb dX6_mayBe_60 (by decide) ?_
        have e_1 := Option.some.inj hE
        exact ih_1 _ e_1.symm ls (lv_sub hl [1, 0] rfl)
      · replace hE := (if_pos c_53).symm.trans hE
        refine lv_iconst (v := 1) hx hb dX6_mayBe_56 (by decide) ?_
        refine lv_goto (tgt := 61) hx hb dX6_mayBe_57 (by decide) ?_
        have e_1 := Option.some.inj hE
        exact ih_1 _ e_1.symm ls (lv_sub hl [1, 0] rfl)
def S_X6_isInner (p1 : Int32) (p2 : Int32) (t_size : Int32) : Option Int32 := (S_X6_in p1.toInt64 (1 : Int64) ((t_size - (1 : Int32)).toInt64)).bind (fun (y10 : Int32) => if y10 = 0 then some (0 : Int32) else (S_X6_in p2.toInt64 (1 : Int64) ((t_size - (1 : Int32)).toInt64)).bind (fun (y26 : Int32) => if y26 = 0 then some (0 : Int32) else some (1 : Int32)))
theorem kd_X6_isInner : yX6_isInner.cls = RX6 ∧ yX6_isInner.cls ≠ "java/lang/invoke/MethodHandle" ∧ yX6_isInner.cls ≠ "java/lang/invoke/VarHandle" ∧ (parseMethodDescriptor yX6_isInner.desc).map (fun d => d.parameters.length) = some 2 := by decide +kernel
set_option maxHeartbeats 4000000 in
set_option maxRecDepth 100000 in
theorem c_X6_isInner {l : Launch} {G : kG} {p1 : Int32} {p2 : Int32} {q_t : Nat} {t_length : Int32} {q_t_text : Nat} {t_size : Int32} {q_t_sign : Nat} {t_otherSize : Int32} {q_t_other : Nat} {q_t_before : Nat} {t_undoMany : Int32} {t_readSize : Int32} {q_t_read : Nat} {q_t_side : Nat} {q_t_tall : Nat} {q_t_endRow : Nat} {q_t_endColumn : Nat} {q_t_endSide : Nat} {q_t_gone : Nat} {t_lineRow : Int32} {t_lineColumn : Int32} {t_lineSide : Int32} {t_lineMany : Int32} {q_t_ways : Nat} {q_t_codes : Nat} {q_t_many : Nat} {res : Int32} (hE : S_X6_isInner p1 p2 t_size = some res) : Met l yX6_isInner wsX6_isInner ({ frames := 1, cells := 0, slots := 0, locals := 25 }) (va_Pc [.ref q_t, .int p1, .int p2] (fun U => va_P G.1 vwCl [oX6 q_t t_length q_t_text t_size q_t_sign t_otherSize q_t_other q_t_before t_undoMany t_readSize q_t_read q_t_side q_t_tall q_t_endRow q_t_endColumn q_t_endSide q_t_gone t_lineRow t_lineColumn t_lineSide t_lineMany q_t_ways q_t_codes q_t_many] U.heap ∧ kw G U)) (vp_Si (fun r => r = res)) 0 0 (fun _ => False) := by
  refine Met.ofQ (cc := cX6_isInner) (maxL := 3) (ret := (some .boolean)) (by decide) rfl ?_
  intro p e s m args below meth c s₁ Q hQ B hml hv
  obtain ⟨rfl, hP, hKW⟩ := hv
  have hK := hKW.1
  have hx := B.exec
  have hb := B.bytes
  have hr := B.returns
  have hts := atoms_spec (ws := wsX6_isInner) B.pre
  have hown : s.vm.findClass RX6 = some m.cls := findClass_of_methodNamed B.named
  have hlocks := B.notSynchronized
  have iX6 : ∀ w ∈ u_ws RX6 TX6 23, w ∈ wsX6_isInner := by decide +kernel
  have fl_54 := hts (.fieldLink RX6 54 "AlternateSignsModel" "size" "I") (by decide +kernel)
  have hl := lv_entry ([.ref q_t, .int p1, .int p2]) (n := 3) (Nat.le_of_ble_eq_true rfl)
  rw [lg_entry_eq]
  generalize (lg_sl ([.ref q_t, .int p1, .int p2]) ++ List.replicate (3 - (lg_sl ([.ref q_t, .int p1, .int p2])).length) Slot.unset).toArray = ls at hl ⊢
  have hl : lv_has ls 3 [(0, .ref q_t), (1, .int p1), (2, .int p2)] := hl
  unfold S_X6_isInner at hE
  refine lv_iload_n hx hb dX6_isInner_0 rfl (lv_at hl 1 rfl) ?_
  refine lv_i2l (v := p1.toInt64) hx hb dX6_isInner_1 rfl ?_
  refine lv_lconst (v := 1) hx hb dX6_isInner_2 (by decide) ?_
  refine lv_aload_n hx hb dX6_isInner_3 rfl (lv_at hl 0 rfl) ?_
  refine va_get (D := G.1) (ci := 6) (v := .int t_size) (C := RX6) (T := TX6) (N := 23) hx hb hts iX6 hown hK hP 0 rfl rfl 2 (by decide) fl_54 (fun _ h9 => h9) rfl dX6_isInner_4 ?_
  refine lv_iconst (v := 1) hx hb dX6_isInner_7 (by decide) ?_
  refine lv_isub hx hb dX6_isInner_8 ?_
  refine lv_i2l (v := (t_size - (1 : Int32)).toInt64) hx hb dX6_isInner_9 rfl ?_
  obtain ⟨y10, hC_10, hE⟩ := Option.bind_eq_some_iff.mp hE
  obtain ⟨r_10, ex9⟩ : ∃ z, z = y10 := ⟨_, rfl⟩
  subst ex9
  try dsimp only at hE
  refine vp_callSi (va_Run.run (va_runS (As := [.long p1.toInt64, .long (1 : Int64), .long ((t_size - (1 : Int32)).toInt64)]) (rest := []) ⟨hx, hb, hml, hown, hts⟩ (c_X6_in (l := l) (G := G) (p1 := p1.toInt64) (p2 := (1 : Int64)) (p3 := (t_size - (1 : Int32)).toInt64) hC_10) (va_cwS 3 hts gX6_isInner_X6_in rfl rfl rfl kd_X6_in ⟨Nat.le_of_ble_eq_true rfl, Nat.le_of_ble_eq_true rfl⟩) (pv_S hKW (hP.sub (ws' := []) [] rfl)) rfl rfl hl.1 rfl (lv_room (Nat.le_of_ble_eq_true rfl)) dX6_isInner_10 ⟨Nat.zero_le _, Nat.zero_le _⟩)) (fun r9 hr9 => ?_)
  subst r9
  refine lv_if_eq (tgt := 36) hx hb dX6_isInner_13 (by decide) (fun c_13 => ?_) (fun c_13 => ?_)
  · replace hE := (if_pos c_13).symm.trans hE
    refine lv_iconst (v := 0) hx hb dX6_isInner_36 (by decide) ?_
    have e_0 := Option.some.inj hE
    rw [hQ]
    exact W.zret (v := (0 : Int32)) hx hb hr rfl (fun t ht _ => ⟨_, rfl, e_0, ht⟩) (fun q h => by cases h) dX6_isInner_37
  · replace hE := (if_neg c_13).symm.trans hE
    refine lv_iload_n hx hb dX6_isInner_16 rfl (lv_at hl 2 rfl) ?_
    refine lv_i2l (v := p2.toInt64) hx hb dX6_isInner_17 rfl ?_
    refine lv_lconst (v := 1) hx hb dX6_isInner_18 (by decide) ?_
    refine lv_aload_n hx hb dX6_isInner_19 rfl (lv_at hl 0 rfl) ?_
    refine va_get (D := G.1) (ci := 6) (v := .int t_size) (C := RX6) (T := TX6) (N := 23) hx hb hts iX6 hown hK hP 0 rfl rfl 2 (by decide) fl_54 (fun _ h9 => h9) rfl dX6_isInner_20 ?_
    refine lv_iconst (v := 1) hx hb dX6_isInner_23 (by decide) ?_
    refine lv_isub hx hb dX6_isInner_24 ?_
    refine lv_i2l (v := (t_size - (1 : Int32)).toInt64) hx hb dX6_isInner_25 rfl ?_
    obtain ⟨y26, hC_26, hE⟩ := Option.bind_eq_some_iff.mp hE
    obtain ⟨r_26, ex9⟩ : ∃ z, z = y26 := ⟨_, rfl⟩
    subst ex9
    try dsimp only at hE
    refine vp_callSi (va_Run.run (va_runS (As := [.long p2.toInt64, .long (1 : Int64), .long ((t_size - (1 : Int32)).toInt64)]) (rest := []) ⟨hx, hb, hml, hown, hts⟩ (c_X6_in (l := l) (G := G) (p1 := p2.toInt64) (p2 := (1 : Int64)) (p3 := (t_size - (1 : Int32)).toInt64) hC_26) (va_cwS 3 hts gX6_isInner_X6_in rfl rfl rfl kd_X6_in ⟨Nat.le_of_ble_eq_true rfl, Nat.le_of_ble_eq_true rfl⟩) (pv_S hKW (hP.sub (ws' := []) [] rfl)) rfl rfl hl.1 rfl (lv_room (Nat.le_of_ble_eq_true rfl)) dX6_isInner_26 ⟨Nat.zero_le _, Nat.zero_le _⟩)) (fun r9 hr9 => ?_)
    subst r9
    refine lv_if_eq (tgt := 36) hx hb dX6_isInner_29 (by decide) (fun c_29 => ?_) (fun c_29 => ?_)
    · replace hE := (if_pos c_29).symm.trans hE
      refine lv_iconst (v := 0) hx hb dX6_isInner_36 (by decide) ?_
      have e_0 := Option.some.inj hE
      rw [hQ]
      exact W.zret (v := (0 : Int32)) hx hb hr rfl (fun t ht _ => ⟨_, rfl, e_0, ht⟩) (fun q h => by cases h) dX6_isInner_37
    · replace hE := (if_neg c_29).symm.trans hE
      refine lv_iconst (v := 1) hx hb dX6_isInner_32 (by decide) ?_
      refine lv_goto (tgt := 37) hx hb dX6_isInner_33 (by decide) ?_
      have e_0 := Option.some.inj hE
      rw [hQ]
      exact W.zret (v := (1 : Int32)) hx hb hr rfl (fun t ht _ => ⟨_, rfl, e_0, ht⟩) (fun q h => by cases h) dX6_isInner_37
def S_X6_may (p1 : Int32) (p2 : Int32) (t_size : Int32) (t_sign : Nat → Int32) : Option Int32 := (S_X6_isInner p1 p2 t_size).bind (fun (y3 : Int32) => if y3 = 0 then some (-1 : Int32) else (S_X6_mayBe p1 p2 t_sign).bind (fun (y15 : Int32) => some y15))
theorem kd_X6_may : yX6_may.cls = RX6 ∧ yX6_may.cls ≠ "java/lang/invoke/MethodHandle" ∧ yX6_may.cls ≠ "java/lang/invoke/VarHandle" ∧ (parseMethodDescriptor yX6_may.desc).map (fun d => d.parameters.length) = some 2 := by decide +kernel
set_option maxHeartbeats 4000000 in
set_option maxRecDepth 100000 in
theorem c_X6_may {l : Launch} {G : kG} {p1 : Int32} {p2 : Int32} {q_t : Nat} {t_length : Int32} {q_t_text : Nat} {t_size : Int32} {q_t_sign : Nat} {t_otherSize : Int32} {q_t_other : Nat} {q_t_before : Nat} {t_undoMany : Int32} {t_readSize : Int32} {q_t_read : Nat} {q_t_side : Nat} {q_t_tall : Nat} {q_t_endRow : Nat} {q_t_endColumn : Nat} {q_t_endSide : Nat} {q_t_gone : Nat} {t_lineRow : Int32} {t_lineColumn : Int32} {t_lineSide : Int32} {t_lineMany : Int32} {q_t_ways : Nat} {q_t_codes : Nat} {q_t_many : Nat} {t_sign : Nat → Int32} {res : Int32} (hE : S_X6_may p1 p2 t_size t_sign = some res) : Met l yX6_may wsX6_may ({ frames := 3, cells := 0, slots := 0, locals := 72 }) (va_Pc [.ref q_t, .int p1, .int p2] (fun U => va_P G.1 vwCl [oX6 q_t t_length q_t_text t_size q_t_sign t_otherSize q_t_other q_t_before t_undoMany t_readSize q_t_read q_t_side q_t_tall q_t_endRow q_t_endColumn q_t_endSide q_t_gone t_lineRow t_lineColumn t_lineSide t_lineMany q_t_ways q_t_codes q_t_many, aI (G.2 1) q_t_sign 36 t_sign] U.heap ∧ kw G U)) (vp_Si (fun r => r = res)) 0 0 (fun _ => False) := by
  refine Met.ofQ (cc := cX6_may) (maxL := 3) (ret := (some .int)) (by decide) rfl ?_
  intro p e s m args below meth c s₁ Q hQ B hml hv
  obtain ⟨rfl, hP, hKW⟩ := hv
  have hK := hKW.1
  have hx := B.exec
  have hb := B.bytes
  have hr := B.returns
  have hts := atoms_spec (ws := wsX6_may) B.pre
  have hown : s.vm.findClass RX6 = some m.cls := findClass_of_methodNamed B.named
  have hlocks := B.notSynchronized
  have iX6 : ∀ w ∈ u_ws RX6 TX6 23, w ∈ wsX6_may := by decide +kernel
  have fl_13 := hts (.fieldLink RX6 13 "AlternateSignsModel" "sign" "[I") (by decide +kernel)
  have hl := lv_entry ([.ref q_t, .int p1, .int p2]) (n := 3) (Nat.le_of_ble_eq_true rfl)
  rw [lg_entry_eq]
  generalize (lg_sl ([.ref q_t, .int p1, .int p2]) ++ List.replicate (3 - (lg_sl ([.ref q_t, .int p1, .int p2])).length) Slot.unset).toArray = ls at hl ⊢
  have hl : lv_has ls 3 [(0, .ref q_t), (1, .int p1), (2, .int p2)] := hl
  unfold S_X6_may at hE
  refine lv_aload_n hx hb dX6_may_0 rfl (lv_at hl 0 rfl) ?_
  refine lv_iload_n hx hb dX6_may_1 rfl (lv_at hl 1 rfl) ?_
  refine lv_iload_n hx hb dX6_may_2 rfl (lv_at hl 2 rfl) ?_
  obtain ⟨y3, hC_3, hE⟩ := Option.bind_eq_some_iff.mp hE
  obtain ⟨r_3, ex9⟩ : ∃ z, z = y3 := ⟨_, rfl⟩
  subst ex9
  try dsimp only at hE
  refine vp_callSi (va_Run.run (va_runV (As := [.int p1, .int p2]) (rest := []) ⟨hx, hb, hml, hown, hts⟩ (c_X6_isInner (l := l) (G := G) (p1 := p1) (p2 := p2) (q_t := q_t) (t_length := t_length) (q_t_text := q_t_text) (t_size := t_size) (q_t_sign := q_t_sign) (t_otherSize := t_otherSize) (q_t_other := q_t_other) (q_t_before := q_t_before) (t_undoMany := t_undoMany) (t_readSize := t_readSize) (q_t_read := q_t_read) (q_t_side := q_t_side) (q_t_tall := q_t_tall) (q_t_endRow := q_t_endRow) (q_t_endColumn := q_t_endColumn) (q_t_endSide := q_t_endSide) (q_t_gone := q_t_gone) (t_lineRow := t_lineRow) (t_lineColumn := t_lineColumn) (t_lineSide := t_lineSide) (t_lineMany := t_lineMany) (q_t_ways := q_t_ways) (q_t_codes := q_t_codes) (q_t_many := q_t_many) hC_3) (cwV 2 hts gX6_may_X6_isInner rfl rfl rfl kd_X6_isInner ⟨Nat.le_of_ble_eq_true rfl, Nat.le_of_ble_eq_true rfl⟩) (pv_V hKW (hP.sub (ws' := [oX6 q_t t_length q_t_text t_size q_t_sign t_otherSize q_t_other q_t_before t_undoMany t_readSize q_t_read q_t_side q_t_tall q_t_endRow q_t_endColumn q_t_endSide q_t_gone t_lineRow t_lineColumn t_lineSide t_lineMany q_t_ways q_t_codes q_t_many]) [0] rfl) (ci := 6) (q0 := 0) rfl rfl) rfl rfl hl.1 rfl (lv_room (Nat.le_of_ble_eq_true rfl)) dX6_may_3 ⟨Nat.zero_le _, Nat.zero_le _⟩)) (fun r9 hr9 => ?_)
  subst r9
  refine lv_if_eq (tgt := 21) hx hb dX6_may_6 (by decide) (fun c_6 => ?_) (fun c_6 => ?_)
  · replace hE := (if_pos c_6).symm.trans hE
    refine lv_iconst (v := -1) hx hb dX6_may_21 (by decide) ?_
    have e_0 := Option.some.inj hE
    rw [hQ]
    exact W.iret (v := (-1 : Int32)) hx hb hr (fun t ht _ => ⟨_, rfl, e_0, ht⟩) (fun q h => by cases h) dX6_may_22
  · replace hE := (if_neg c_6).symm.trans hE
    refine lv_aload_n hx hb dX6_may_9 rfl (lv_at hl 0 rfl) ?_
    refine va_get (D := G.1) (ci := 6) (v := .ref q_t_sign) (C := RX6) (T := TX6) (N := 23) hx hb hts iX6 hown hK hP 0 rfl rfl 3 (by decide) fl_13 (fun _ h9 => h9) rfl dX6_may_10 ?_
    refine lv_iload_n hx hb dX6_may_13 rfl (lv_at hl 1 rfl) ?_
    refine lv_iload_n hx hb dX6_may_14 rfl (lv_at hl 2 rfl) ?_
    obtain ⟨y15, hC_15, hE⟩ := Option.bind_eq_some_iff.mp hE
    obtain ⟨r_15, ex9⟩ : ∃ z, z = y15 := ⟨_, rfl⟩
    subst ex9
    try dsimp only at hE
    refine vp_callSi (va_Run.run (va_runS (As := [.ref q_t_sign, .int p1, .int p2]) (rest := []) ⟨hx, hb, hml, hown, hts⟩ (c_X6_mayBe (l := l) (G := G) (p2 := p1) (p3 := p2) (q_p1 := q_t_sign) (p1 := t_sign) hC_15) (va_cwS 3 hts gX6_may_X6_mayBe rfl rfl rfl kd_X6_mayBe ⟨Nat.le_of_ble_eq_true rfl, Nat.le_of_ble_eq_true rfl⟩) (pv_S hKW (hP.sub (ws' := [aI (G.2 1) q_t_sign 36 t_sign]) [1] rfl)) rfl rfl hl.1 rfl (lv_room (Nat.le_of_ble_eq_true rfl)) dX6_may_15 ⟨Nat.zero_le _, Nat.zero_le _⟩)) (fun r9 hr9 => ?_)
    subst r9
    refine lv_goto (tgt := 22) hx hb dX6_may_18 (by decide) ?_
    have e_0 := Option.some.inj hE
    rw [hQ]
    exact W.iret (v := r_15) hx hb hr (fun t ht _ => ⟨_, rfl, e_0, ht⟩) (fun q h => by cases h) dX6_may_22
def S_X6_flips (p2 : Int32) (p3 : Int32) (p1 : Nat → Int32) : Option (Int32 × (Nat → Int32)) := (S_X6_mayBe p2 p3 p1).bind (fun (y3 : Int32) => jn (if y3 = (2 : Int32) then some (.inl (1 : Int32)) else some (.inl (-1 : Int32))) (fun (x1 : Int32) => if y3 = 0 then some ((0 : Int32), p1) else ck (inb ((((6 : Int32) * (p2 - (1 : Int32))) + p3) - (1 : Int32)) 36) (ck (inb ((((6 : Int32) * (p2 - (1 : Int32))) + p3) - (1 : Int32)) 36) ((some (upd p1 ((((6 : Int32) * (p2 - (1 : Int32))) + p3) - (1 : Int32)).toNatClampNeg ((p1 ((((6 : Int32) * (p2 - (1 : Int32))) + p3) - (1 : Int32)).toNatClampNeg) + x1))).bind (fun (z_41 : Nat → Int32) => ck (inb (((6 : Int32) * (p2 - (1 : Int32))) + p3) 36) (ck (inb (((6 : Int32) * (p2 - (1 : Int32))) + p3) 36) ((some (upd z_41 (((6 : Int32) * (p2 - (1 : Int32))) + p3).toNatClampNeg ((z_41 (((6 : Int32) * (p2 - (1 : Int32))) + p3).toNatClampNeg) - x1))).bind (fun (z_56 : Nat → Int32) => ck (inb ((((6 : Int32) * p2) + p3) - (1 : Int32)) 36) (ck (inb ((((6 : Int32) * p2) + p3) - (1 : Int32)) 36) ((some (upd z_56 ((((6 : Int32) * p2) + p3) - (1 : Int32)).toNatClampNeg ((z_56 ((((6 : Int32) * p2) + p3) - (1 : Int32)).toNatClampNeg) - x1))).bind (fun (z_71 : Nat → Int32) => ck (inb (((6 : Int32) * p2) + p3) 36) (ck (inb (((6 : Int32) * p2) + p3) 36) ((some (upd z_71 (((6 : Int32) * p2) + p3).toNatClampNeg ((z_71 (((6 : Int32) * p2) + p3).toNatClampNeg) + x1))).bind (fun (z_84 : Nat → Int32) => some ((1 : Int32), z_84)))))))))))))))
theorem kd_X6_flips : yX6_flips.cls ≠ "java/lang/invoke/MethodHandle" ∧ yX6_flips.cls ≠ "java/lang/invoke/VarHandle" ∧ (parseMethodDescriptor yX6_flips.desc).map (fun d => d.parameters.length) = some 3 := by decide +kernel
set_option maxHeartbeats 4000000 in
set_option maxRecDepth 100000 in
theorem c_X6_flips {l : Launch} {G : kG} (sz : Nat) {p2 : Int32} {p3 : Int32} {q_p1 : Nat} {p1 : Nat → Int32} {res : Int32 × (Nat → Int32)} (hE : S_X6_flips p2 p3 p1 = some res) : Met l yX6_flips wsX6_flips ({ frames := 3, cells := 0, slots := 0, locals := 72 }) (va_Pc [.ref q_p1, .int p2, .int p3] (fun U => U.heap.size = sz ∧ va_P G.1 vwCl [aI (G.2 1) q_p1 36 p1] U.heap ∧ kw G U ∧ va_D (fun _ => True) [aI (G.2 1) q_p1 36 p1])) (va_Qi (fun r (_ : Unit) => r = res.1) (fun _ t => va_P G.1 vwCl [aI (G.2 1) q_p1 36 res.2] t.heap ∧ va_D (va_A [aI (G.2 1) q_p1 36 p1] sz) [aI (G.2 1) q_p1 36 res.2]) (va_A [aI (G.2 1) q_p1 36 p1] sz)) 0 0 (va_A [aI (G.2 1) q_p1 36 p1] sz) := by
  refine Met.ofQ (cc := cX6_flips) (maxL := 5) (ret := (some .boolean)) (by decide) rfl ?_
  intro p e s m args below meth c s₁ Q hQ B hml hv
  obtain ⟨rfl, hsz, hP, hKW, hD0⟩ := hv
  have hK := hKW.1
  have hx := B.exec
  have hb := B.bytes
  have hr := B.returns
  have hts := atoms_spec (ws := wsX6_flips) B.pre
  have hown : s.vm.findClass RX6 = some m.cls := findClass_of_methodNamed B.named
  have hlocks := B.notSynchronized
  subst hsz
  have hD := hD0.self (sz := s.heap.size)
  generalize hAe : va_A [aI (G.2 1) q_p1 36 p1] s.heap.size = A at hD hQ
  have hA : ∀ q : Nat, s.heap.size ≤ q → A q := fun q h => by rw [← hAe]; exact Or.inr h
  have hS : va_S A s.heap s.heap [] := va_S.rf
  have hl := lv_entry ([.ref q_p1, .int p2, .int p3]) (n := 5) (Nat.le_of_ble_eq_true rfl)
  rw [lg_entry_eq]
  generalize (lg_sl ([.ref q_p1, .int p2, .int p3]) ++ List.replicate (5 - (lg_sl ([.ref q_p1, .int p2, .int p3])).length) Slot.unset).toArray = ls at hl ⊢
  have hl : lv_has ls 5 [(0, .ref q_p1), (1, .int p2), (2, .int p3)] := hl
  unfold S_X6_flips at hE
  refine lv_aload_n hx hb dX6_flips_0 rfl (lv_at hl 0 rfl) ?_
  refine lv_iload_n hx hb dX6_flips_1 rfl (lv_at hl 1 rfl) ?_
  refine lv_iload_n hx hb dX6_flips_2 rfl (lv_at hl 2 rfl) ?_
  obtain ⟨y3, hC_3, hE⟩ := Option.bind_eq_some_iff.mp hE
  obtain ⟨r_3, ex9⟩ : ∃ z, z = y3 := ⟨_, rfl⟩
  subst ex9
  try dsimp only at hE
  refine vp_callSi (va_Run.run (va_runS (As := [.ref q_p1, .int p2, .int p3]) (rest := []) ⟨hx, hb, hml, hown, hts⟩ (c_X6_mayBe (l := l) (G := G) (p2 := p2) (p3 := p3) (q_p1 := q_p1) (p1 := p1) hC_3) (va_cwS 3 hts gX6_flips_X6_mayBe rfl rfl rfl kd_X6_mayBe ⟨Nat.le_of_ble_eq_true rfl, Nat.le_of_ble_eq_true rfl⟩) (pv_S hKW (hP.sub (ws' := [aI (G.2 1) q_p1 36 p1]) [0] rfl)) rfl rfl hl.1 rfl (lv_room (Nat.le_of_ble_eq_true rfl)) dX6_flips_3 ⟨Nat.zero_le _, Nat.zero_le _⟩)) (fun r9 hr9 => ?_)
  subst r9
  refine lv_istore_n (lv' := [(3, .int r_3), (0, .ref q_p1), (1, .int p2), (2, .int p3)]) hx hb dX6_flips_6 rfl hl (by decide) rfl (fun ls hl => ?_)
  refine lv_iload_n hx hb dX6_flips_7 rfl (lv_at hl 0 rfl) ?_
  refine lv_iconst (v := 2) hx hb dX6_flips_8 (by decide) ?_
  obtain ⟨o_1, hEp, hk9, hr_1⟩ := jn_some hE
  have ih_1 : ∀ (x1 : Int32), o_1 = .inl x1 → ∀ (H : Heap) (locs : List Loc) (ls : Array Slot), va_P G.1 vwCl [aI (G.2 1) q_p1 36 p1] H → va_D A [aI (G.2 1) q_p1 36 p1] → va_S A s.heap H locs → lv_has ls 5 [(0, .ref q_p1), (1, .int p2), (2, .int p3), (3, .int r_3)] → W p l e (headSpec wsX6_flips ({ frames := 3, cells := 0, slots := 0, locals := 72 })).room s m ([.ref q_p1, .int p2, .int p3] : List Value).toArray below meth c H locs 0 0 Q (F0 m 17 ls [.int x1]) := by
    intro x1 ho9
    have hE := hk9 _ ho9
    obtain ⟨k0_1, ex9⟩ : ∃ z, z = x1 := ⟨_, rfl⟩
    subst ex9
    try dsimp only at hE
    intro H locs ls hP hD hS hl
    try dsimp only at hP hD hl ⊢
    refine lv_istore (lv' := [(4, .int k0_1), (0, .ref q_p1), (1, .int p2), (2, .int p3), (3, .int r_3)]) hx hb dX6_flips_17 hl (by decide) rfl (fun ls hl => ?_)
    refine lv_iload_n hx hb dX6_flips_19 rfl (lv_at hl 4 rfl) ?_
    refine lv_if_ne (tgt := 25) hx hb dX6_flips_20 (by decide) (fun c_20 => ?_) (fun c_20 => ?_)
    · replace hE := (if_neg c_20).symm.trans hE
      refine lv_aload_n hx hb dX6_flips_25 rfl (lv_at hl 1 rfl) ?_
      refine lv_bipush (v := 6) hx hb dX6_flips_26 (by decide) ?_
      refine lv_iload_n hx hb dX6_flips_28 rfl (lv_at hl 2 rfl) ?_
      refine lv_iconst (v := 1) hx hb dX6_flips_29 (by decide) ?_
      refine lv_isub hx hb dX6_flips_30 ?_
      refine lv_imul hx hb dX6_flips_31 ?_
      refine lv_iload_n hx hb dX6_flips_32 rfl (lv_at hl 3 rfl) ?_
      refine lv_iadd hx hb dX6_flips_33 ?_
      refine lv_iconst (v := 1) hx hb dX6_flips_34 (by decide) ?_
      refine lv_isub hx hb dX6_flips_35 ?_
      refine lv_dup2_11 hx hb dX6_flips_36 rfl rfl ?_
      obtain ⟨hi_37, hE⟩ := ck_some hE
      refine va_iald hx hb hK hP 0 1 rfl rfl (inb_in hi_37) dX6_flips_37 ?_
      refine lv_iload hx hb dX6_flips_38 (lv_at hl 0 rfl) ?_
      refine lv_iadd hx hb dX6_flips_40 ?_
      obtain ⟨hi_41, hE⟩ := ck_some hE
      refine va_iast hx hb hK hP hD hS 0 1 rfl rfl (inb_in hi_41) dX6_flips_41 (fun H locs hP hD hS => ?_)
      have hP : va_P G.1 vwCl [aI (G.2 1) q_p1 36 (upd p1 ((((6 : Int32) * (p2 - (1 : Int32))) + p3) - (1 : Int32)).toNatClampNeg ((p1 ((((6 : Int32) * (p2 - (1 : Int32))) + p3) - (1 : Int32)).toNatClampNeg) + k0_1))] H := hP
      have hD : va_D A [aI (G.2 1) q_p1 36 (upd p1 ((((6 : Int32) * (p2 - (1 : Int32))) + p3) - (1 : Int32)).toNatClampNeg ((p1 ((((6 : Int32) * (p2 - (1 : Int32))) + p3) - (1 : Int32)).toNatClampNeg) + k0_1))] := hD
      obtain ⟨z_41, ez9⟩ : ∃ w, w = upd p1 ((((6 : Int32) * (p2 - (1 : Int32))) + p3) - (1 : Int32)).toNatClampNeg ((p1 ((((6 : Int32) * (p2 - (1 : Int32))) + p3) - (1 : Int32)).toNatClampNeg) + k0_1) := ⟨_, rfl⟩
      rw [← ez9] at hE hP hD
      replace hE := bs_some hE
      try dsimp only at hE
      clear ez9
      refine lv_aload_n hx hb dX6_flips_42 rfl (lv_at hl 1 rfl) ?_
      refine lv_bipush (v := 6) hx hb dX6_flips_43 (by decide) ?_
      refine lv_iload_n hx hb dX6_flips_45 rfl (lv_at hl 2 rfl) ?_
      refine lv_iconst (v := 1) hx hb dX6_flips_46 (by decide) ?_
      refine lv_isub hx hb dX6_flips_47 ?_
      refine lv_imul hx hb dX6_flips_48 ?_
      refine lv_iload_n hx hb dX6_flips_49 rfl (lv_at hl 3 rfl) ?_
      refine lv_iadd hx hb dX6_flips_50 ?_
      refine lv_dup2_11 hx hb dX6_flips_51 rfl rfl ?_
      obtain ⟨hi_52, hE⟩ := ck_some hE
      refine va_iald hx hb hK hP 0 1 rfl rfl (inb_in hi_52) dX6_flips_52 ?_
      refine lv_iload hx hb dX6_flips_53 (lv_at hl 0 rfl) ?_
      refine lv_isub hx hb dX6_flips_55 ?_
      obtain ⟨hi_56, hE⟩ := ck_some hE
      refine va_iast hx hb hK hP hD hS 0 1 rfl rfl (inb_in hi_56) dX6_flips_56 (fun H locs hP hD hS => ?_)
      have hP : va_P G.1 vwCl [aI (G.2 1) q_p1 36 (upd z_41 (((6 : Int32) * (p2 - (1 : Int32))) + p3).toNatClampNeg ((z_41 (((6 : Int32) * (p2 - (1 : Int32))) + p3).toNatClampNeg) - k0_1))] H := hP
      have hD : va_D A [aI (G.2 1) q_p1 36 (upd z_41 (((6 : Int32) * (p2 - (1 : Int32))) + p3).toNatClampNeg ((z_41 (((6 : Int32) * (p2 - (1 : Int32))) + p3).toNatClampNeg) - k0_1))] := hD
      obtain ⟨z_56, ez9⟩ : ∃ w, w = upd z_41 (((6 : Int32) * (p2 - (1 : Int32))) + p3).toNatClampNeg ((z_41 (((6 : Int32) * (p2 - (1 : Int32))) + p3).toNatClampNeg) - k0_1) := ⟨_, rfl⟩
      rw [← ez9] at hE hP hD
      replace hE := bs_some hE
      try dsimp only at hE
      clear ez9
      refine lv_aload_n hx hb dX6_flips_57 rfl (lv_at hl 1 rfl) ?_
      refine lv_bipush (v := 6) hx hb dX6_flips_58 (by decide) ?_
      refine lv_iload_n hx hb dX6_flips_60 rfl (lv_at hl 2 rfl) ?_
      refine lv_imul hx hb dX6_flips_61 ?_
      refine lv_iload_n hx hb dX6_flips_62 rfl (lv_at hl 3 rfl) ?_
      refine lv_iadd hx hb dX6_flips_63 ?_
      refine lv_iconst (v := 1) hx hb dX6_flips_64 (by decide) ?_
      refine lv_isub hx hb dX6_flips_65 ?_
      refine lv_dup2_11 hx hb dX6_flips_66 rfl rfl ?_
      obtain ⟨hi_67, hE⟩ := ck_some hE
      refine va_iald hx hb hK hP 0 1 rfl rfl (inb_in hi_67) dX6_flips_67 ?_
      refine lv_iload hx hb dX6_flips_68 (lv_at hl 0 rfl) ?_
      refine lv_isub hx hb dX6_flips_70 ?_
      obtain ⟨hi_71, hE⟩ := ck_some hE
      refine va_iast hx hb hK hP hD hS 0 1 rfl rfl (inb_in hi_71) dX6_flips_71 (fun H locs hP hD hS => ?_)
      have hP : va_P G.1 vwCl [aI (G.2 1) q_p1 36 (upd z_56 ((((6 : Int32) * p2) + p3) - (1 : Int32)).toNatClampNeg ((z_56 ((((6 : Int32) * p2) + p3) - (1 : Int32)).toNatClampNeg) - k0_1))] H := hP
      have hD : va_D A [aI (G.2 1) q_p1 36 (upd z_56 ((((6 : Int32) * p2) + p3) - (1 : Int32)).toNatClampNeg ((z_56 ((((6 : Int32) * p2) + p3) - (1 : Int32)).toNatClampNeg) - k0_1))] := hD
      obtain ⟨z_71, ez9⟩ : ∃ w, w = upd z_56 ((((6 : Int32) * p2) + p3) - (1 : Int32)).toNatClampNeg ((z_56 ((((6 : Int32) * p2) + p3) - (1 : Int32)).toNatClampNeg) - k0_1) := ⟨_, rfl⟩
      rw [← ez9] at hE hP hD
      replace hE := bs_some hE
      try dsimp only at hE
      clear ez9
      refine lv_aload_n hx hb dX6_flips_72 rfl (lv_at hl 1 rfl) ?_
      refine lv_bipush (v := 6) hx hb dX6_flips_73 (by decide) ?_
      refine lv_iload_n hx hb dX6_flips_75 rfl (lv_at hl 2 rfl) ?_
      refine lv_imul hx hb dX6_flips_76 ?_
      refine lv_iload_n hx hb dX6_flips_77 rfl (lv_at hl 3 rfl) ?_
      refine lv_iadd hx hb dX6_flips_78 ?_
      refine lv_dup2_11 hx hb dX6_flips_79 rfl rfl ?_
      obtain ⟨hi_80, hE⟩ := ck_some hE
      refine va_iald hx hb hK hP 0 1 rfl rfl (inb_in hi_80) dX6_flips_80 ?_
      refine lv_iload hx hb dX6_flips_81 (lv_at hl 0 rfl) ?_
      refine lv_iadd hx hb dX6_flips_83 ?_
      obtain ⟨hi_84, hE⟩ := ck_some hE
      refine va_iast hx hb hK hP hD hS 0 1 rfl rfl (inb_in hi_84) dX6_flips_84 (fun H locs hP hD hS => ?_)
      have hP : va_P G.1 vwCl [aI (G.2 1) q_p1 36 (upd z_71 (((6 : Int32) * p2) + p3).toNatClampNeg ((z_71 (((6 : Int32) * p2) + p3).toNatClampNeg) + k0_1))] H := hP
      have hD : va_D A [aI (G.2 1) q_p1 36 (upd z_71 (((6 : Int32) * p2) + p3).toNatClampNeg ((z_71 (((6 : Int32) * p2) + p3).toNatClampNeg) + k0_1))] := hD
      obtain ⟨z_84, ez9⟩ : ∃ w, w = upd z_71 (((6 : Int32) * p2) + p3).toNatClampNeg ((z_71 (((6 : Int32) * p2) + p3).toNatClampNeg) + k0_1) := ⟨_, rfl⟩
      rw [← ez9] at hE hP hD
      replace hE := bs_some hE
      try dsimp only at hE
      clear ez9
      refine lv_iconst (v := 1) hx hb dX6_flips_85 (by decide) ?_
      have e_0 := Option.some.inj hE
      subst e_0
      rw [hQ]
      exact W.zret (v := (1 : Int32)) hx hb hr rfl (fun t ht _ => ⟨⟨_, (), rfl, rfl, by rw [ht]; exact hP, hD⟩, hS.F ht⟩) hS.2.2 dX6_flips_86
    · replace hE := (if_pos c_20).symm.trans hE
      refine lv_iconst (v := 0) hx hb dX6_flips_23 (by decide) ?_
      have e_0 := Option.some.inj hE
      subst e_0
      rw [hQ]
      exact W.zret (v := (0 : Int32)) hx hb hr rfl (fun t ht _ => ⟨⟨_, (), rfl, rfl, by rw [ht]; exact hP, hD⟩, hS.F ht⟩) hS.2.2 dX6_flips_24
  clear hE hk9
  have hE := hEp
  clear hEp
  refine lv_icmp_ne (tgt := 16) hx hb dX6_flips_9 (by decide) (fun c_9 => ?_) (fun c_9 => ?_)
  · replace hE := (if_neg c_9).symm.trans hE
    refine lv_iconst (v := -1) hx hb dX6_flips_16 (by decide) ?_
    have e_1 := Option.some.inj hE
    exact ih_1 _ e_1.symm _ _ ls hP hD hS (lv_sub hl [1, 2, 3, 0] rfl)
  · replace hE := (if_pos c_9).symm.trans hE
    refine lv_iconst (v := 1) hx hb dX6_flips_12 (by decide) ?_
    refine lv_goto (tgt := 17) hx hb dX6_flips_13 (by decide) ?_
    have e_1 := Option.some.inj hE
    exact ih_1 _ e_1.symm _ _ ls hP hD hS (lv_sub hl [1, 2, 3, 0] rfl)
def S_X6_flip (p1 : Int32) (p2 : Int32) (t_size : Int32) (t_undoMany : Int32) (t_sign : Nat → Int32) (t_before : Nat → Int32) : Option (Int32 × Int32 × (Nat → Int32) × (Nat → Int32)) := (S_X6_isInner p1 p2 t_size).bind (fun (y3 : Int32) => if y3 = 0 then some ((-1 : Int32), t_undoMany, t_sign, t_before) else (S_X6_mayBe p1 p2 t_sign).bind (fun (y17 : Int32) => if y17 = 0 then some ((-2 : Int32), t_undoMany, t_sign, t_before) else (S_X6_note t_size t_undoMany t_sign t_before).bind (fun (y27 : Int32 × (Nat → Int32)) => (S_X6_flips p1 p2 t_sign).bind (fun (y36 : Int32 × (Nat → Int32)) => (S_X6_heightOf p1 p2 y36.2).bind (fun (y46 : Int32) => some (y46, y27.1, y36.2, y27.2))))))
theorem kd_X6_flip : yX6_flip.cls = RX6 ∧ yX6_flip.cls ≠ "java/lang/invoke/MethodHandle" ∧ yX6_flip.cls ≠ "java/lang/invoke/VarHandle" ∧ (parseMethodDescriptor yX6_flip.desc).map (fun d => d.parameters.length) = some 2 := by decide +kernel
set_option maxHeartbeats 4000000 in
set_option maxRecDepth 100000 in
theorem c_X6_flip {l : Launch} {G : kG} (sz : Nat) {p1 : Int32} {p2 : Int32} {q_t : Nat} {t_length : Int32} {q_t_text : Nat} {t_size : Int32} {q_t_sign : Nat} {t_otherSize : Int32} {q_t_other : Nat} {q_t_before : Nat} {t_undoMany : Int32} {t_readSize : Int32} {q_t_read : Nat} {q_t_side : Nat} {q_t_tall : Nat} {q_t_endRow : Nat} {q_t_endColumn : Nat} {q_t_endSide : Nat} {q_t_gone : Nat} {t_lineRow : Int32} {t_lineColumn : Int32} {t_lineSide : Int32} {t_lineMany : Int32} {q_t_ways : Nat} {q_t_codes : Nat} {q_t_many : Nat} {t_sign : Nat → Int32} {t_before : Nat → Int32} {res : Int32 × Int32 × (Nat → Int32) × (Nat → Int32)} (hE : S_X6_flip p1 p2 t_size t_undoMany t_sign t_before = some res) : Met l yX6_flip wsX6_flip ({ frames := 4, cells := 0, slots := 0, locals := 96 }) (va_Pc [.ref q_t, .int p1, .int p2] (fun U => U.heap.size = sz ∧ va_P G.1 vwCl [oX6 q_t t_length q_t_text t_size q_t_sign t_otherSize q_t_other q_t_before t_undoMany t_readSize q_t_read q_t_side q_t_tall q_t_endRow q_t_endColumn q_t_endSide q_t_gone t_lineRow t_lineColumn t_lineSide t_lineMany q_t_ways q_t_codes q_t_many, aI (G.2 1) q_t_sign 36 t_sign, aI (G.2 1) q_t_before 222 t_before] U.heap ∧ kw G U ∧ va_D (fun _ => True) [oX6 q_t t_length q_t_text t_size q_t_sign t_otherSize q_t_other q_t_before t_undoMany t_readSize q_t_read q_t_side q_t_tall q_t_endRow q_t_endColumn q_t_endSide q_t_gone t_lineRow t_lineColumn t_lineSide t_lineMany q_t_ways q_t_codes q_t_many, aI (G.2 1) q_t_sign 36 t_sign, aI (G.2 1) q_t_before 222 t_before])) (va_Qi (fun r (_ : Unit) => r = res.1) (fun _ t => va_P G.1 vwCl [oX6 q_t t_length q_t_text t_size q_t_sign t_otherSize q_t_other q_t_before res.2.1 t_readSize q_t_read q_t_side q_t_tall q_t_endRow q_t_endColumn q_t_endSide q_t_gone t_lineRow t_lineColumn t_lineSide t_lineMany q_t_ways q_t_codes q_t_many, aI (G.2 1) q_t_sign 36 res.2.2.1, aI (G.2 1) q_t_before 222 res.2.2.2] t.heap ∧ va_D (va_A [oX6 q_t t_length q_t_text t_size q_t_sign t_otherSize q_t_other q_t_before t_undoMany t_readSize q_t_read q_t_side q_t_tall q_t_endRow q_t_endColumn q_t_endSide q_t_gone t_lineRow t_lineColumn t_lineSide t_lineMany q_t_ways q_t_codes q_t_many, aI (G.2 1) q_t_sign 36 t_sign, aI (G.2 1) q_t_before 222 t_before] sz) [oX6 q_t t_length q_t_text t_size q_t_sign t_otherSize q_t_other q_t_before res.2.1 t_readSize q_t_read q_t_side q_t_tall q_t_endRow q_t_endColumn q_t_endSide q_t_gone t_lineRow t_lineColumn t_lineSide t_lineMany q_t_ways q_t_codes q_t_many, aI (G.2 1) q_t_sign 36 res.2.2.1, aI (G.2 1) q_t_before 222 res.2.2.2]) (va_A [oX6 q_t t_length q_t_text t_size q_t_sign t_otherSize q_t_other q_t_before t_undoMany t_readSize q_t_read q_t_side q_t_tall q_t_endRow q_t_endColumn q_t_endSide q_t_gone t_lineRow t_lineColumn t_lineSide t_lineMany q_t_ways q_t_codes q_t_many, aI (G.2 1) q_t_sign 36 t_sign, aI (G.2 1) q_t_before 222 t_before] sz)) 0 0 (va_A [oX6 q_t t_length q_t_text t_size q_t_sign t_otherSize q_t_other q_t_before t_undoMany t_readSize q_t_read q_t_side q_t_tall q_t_endRow q_t_endColumn q_t_endSide q_t_gone t_lineRow t_lineColumn t_lineSide t_lineMany q_t_ways q_t_codes q_t_many, aI (G.2 1) q_t_sign 36 t_sign, aI (G.2 1) q_t_before 222 t_before] sz) := by
  refine Met.ofQ (cc := cX6_flip) (maxL := 3) (ret := (some .int)) (by decide) rfl ?_
  intro p e s m args below meth c s₁ Q hQ B hml hv
  obtain ⟨rfl, hsz, hP, hKW, hD0⟩ := hv
  have hK := hKW.1
  have hx := B.exec
  have hb := B.bytes
  have hr := B.returns
  have hts := atoms_spec (ws := wsX6_flip) B.pre
  have hown : s.vm.findClass RX6 = some m.cls := findClass_of_methodNamed B.named
  have hlocks := B.notSynchronized
  have iX6 : ∀ w ∈ u_ws RX6 TX6 23, w ∈ wsX6_flip := by decide +kernel
  have fl_13 := hts (.fieldLink RX6 13 "AlternateSignsModel" "sign" "[I") (by decide +kernel)
  subst hsz
  have hD := hD0.self (sz := s.heap.size)
  generalize hAe : va_A [oX6 q_t t_length q_t_text t_size q_t_sign t_otherSize q_t_other q_t_before t_undoMany t_readSize q_t_read q_t_side q_t_tall q_t_endRow q_t_endColumn q_t_endSide q_t_gone t_lineRow t_lineColumn t_lineSide t_lineMany q_t_ways q_t_codes q_t_many, aI (G.2 1) q_t_sign 36 t_sign, aI (G.2 1) q_t_before 222 t_before] s.heap.size = A at hD hQ
  have hA : ∀ q : Nat, s.heap.size ≤ q → A q := fun q h => by rw [← hAe]; exact Or.inr h
  have hS : va_S A s.heap s.heap [] := va_S.rf
  have hl := lv_entry ([.ref q_t, .int p1, .int p2]) (n := 3) (Nat.le_of_ble_eq_true rfl)
  rw [lg_entry_eq]
  generalize (lg_sl ([.ref q_t, .int p1, .int p2]) ++ List.replicate (3 - (lg_sl ([.ref q_t, .int p1, .int p2])).length) Slot.unset).toArray = ls at hl ⊢
  have hl : lv_has ls 3 [(0, .ref q_t), (1, .int p1), (2, .int p2)] := hl
  unfold S_X6_flip at hE
  refine lv_aload_n hx hb dX6_flip_0 rfl (lv_at hl 0 rfl) ?_
  refine lv_iload_n hx hb dX6_flip_1 rfl (lv_at hl 1 rfl) ?_
  refine lv_iload_n hx hb dX6_flip_2 rfl (lv_at hl 2 rfl) ?_
  obtain ⟨y3, hC_3, hE⟩ := Option.bind_eq_some_iff.mp hE
  obtain ⟨r_3, ex9⟩ : ∃ z, z = y3 := ⟨_, rfl⟩
  subst ex9
  try dsimp only at hE
  refine vp_callSi (va_Run.run (va_runV (As := [.int p1, .int p2]) (rest := []) ⟨hx, hb, hml, hown, hts⟩ (c_X6_isInner (l := l) (G := G) (p1 := p1) (p2 := p2) (q_t := q_t) (t_length := t_length) (q_t_text := q_t_text) (t_size := t_size) (q_t_sign := q_t_sign) (t_otherSize := t_otherSize) (q_t_other := q_t_other) (q_t_before := q_t_before) (t_undoMany := t_undoMany) (t_readSize := t_readSize) (q_t_read := q_t_read) (q_t_side := q_t_side) (q_t_tall := q_t_tall) (q_t_endRow := q_t_endRow) (q_t_endColumn := q_t_endColumn) (q_t_endSide := q_t_endSide) (q_t_gone := q_t_gone) (t_lineRow := t_lineRow) (t_lineColumn := t_lineColumn) (t_lineSide := t_lineSide) (t_lineMany := t_lineMany) (q_t_ways := q_t_ways) (q_t_codes := q_t_codes) (q_t_many := q_t_many) hC_3) (cwV 2 hts gX6_flip_X6_isInner rfl rfl rfl kd_X6_isInner ⟨Nat.le_of_ble_eq_true rfl, Nat.le_of_ble_eq_true rfl⟩) (pv_V hKW (hP.sub (ws' := [oX6 q_t t_length q_t_text t_size q_t_sign t_otherSize q_t_other q_t_before t_undoMany t_readSize q_t_read q_t_side q_t_tall q_t_endRow q_t_endColumn q_t_endSide q_t_gone t_lineRow t_lineColumn t_lineSide t_lineMany q_t_ways q_t_codes q_t_many]) [0] rfl) (ci := 6) (q0 := 0) rfl rfl) rfl rfl hl.1 rfl (lv_room (Nat.le_of_ble_eq_true rfl)) dX6_flip_3 ⟨Nat.zero_le _, Nat.zero_le _⟩)) (fun r9 hr9 => ?_)
  subst r9
  refine lv_if_ne (tgt := 11) hx hb dX6_flip_6 (by decide) (fun c_6 => ?_) (fun c_6 => ?_)
  · replace hE := (if_neg c_6).symm.trans hE
    refine lv_aload_n hx hb dX6_flip_11 rfl (lv_at hl 0 rfl) ?_
    refine va_get (D := G.1) (ci := 6) (v := .ref q_t_sign) (C := RX6) (T := TX6) (N := 23) hx hb hts iX6 hown hK hP 0 rfl rfl 3 (by decide) fl_13 (fun _ h9 => h9) rfl dX6_flip_12 ?_
    refine lv_iload_n hx hb dX6_flip_15 rfl (lv_at hl 1 rfl) ?_
    refine lv_iload_n hx hb dX6_flip_16 rfl (lv_at hl 2 rfl) ?_
    obtain ⟨y17, hC_17, hE⟩ := Option.bind_eq_some_iff.mp hE
    obtain ⟨r_17, ex9⟩ : ∃ z, z = y17 := ⟨_, rfl⟩
    subst ex9
    try dsimp only at hE
    refine vp_callSi (va_Run.run (va_runS (As := [.ref q_t_sign, .int p1, .int p2]) (rest := []) ⟨hx, hb, hml, hown, hts⟩ (c_X6_mayBe (l := l) (G := G) (p2 := p1) (p3 := p2) (q_p1 := q_t_sign) (p1 := t_sign) hC_17) (va_cwS 3 hts gX6_flip_X6_mayBe rfl rfl rfl kd_X6_mayBe ⟨Nat.le_of_ble_eq_true rfl, Nat.le_of_ble_eq_true rfl⟩) (pv_S hKW (hP.sub (ws' := [aI (G.2 1) q_t_sign 36 t_sign]) [1] rfl)) rfl rfl hl.1 rfl (lv_room (Nat.le_of_ble_eq_true rfl)) dX6_flip_17 ⟨Nat.zero_le _, Nat.zero_le _⟩)) (fun r9 hr9 => ?_)
    subst r9
    refine lv_if_ne (tgt := 26) hx hb dX6_flip_20 (by decide) (fun c_20 => ?_) (fun c_20 => ?_)
    · replace hE := (if_neg c_20).symm.trans hE
      refine lv_aload_n hx hb dX6_flip_26 rfl (lv_at hl 0 rfl) ?_
      obtain ⟨y27, hC_27, hE⟩ := Option.bind_eq_some_iff.mp hE
      obtain ⟨m_27_0, m_27_1⟩ := y27
      try dsimp only at hE
      have hPc := hP.sub (ws' := [oX6 q_t t_length q_t_text t_size q_t_sign t_otherSize q_t_other q_t_before t_undoMany t_readSize q_t_read q_t_side q_t_tall q_t_endRow q_t_endColumn q_t_endSide q_t_gone t_lineRow t_lineColumn t_lineSide t_lineMany q_t_ways q_t_codes q_t_many, aI (G.2 1) q_t_sign 36 t_sign, aI (G.2 1) q_t_before 222 t_before]) [0, 1, 2] rfl
      have hDc := hD.sub (ws' := [oX6 q_t t_length q_t_text t_size q_t_sign t_otherSize q_t_other q_t_before t_undoMany t_readSize q_t_read q_t_side q_t_tall q_t_endRow q_t_endColumn q_t_endSide q_t_gone t_lineRow t_lineColumn t_lineSide t_lineMany q_t_ways q_t_codes q_t_many, aI (G.2 1) q_t_sign 36 t_sign, aI (G.2 1) q_t_before 222 t_before]) [0, 1, 2] (by decide) rfl
      have hFc := va_free (wc := [oX6 q_t t_length q_t_text t_size q_t_sign t_otherSize q_t_other q_t_before t_undoMany t_readSize q_t_read q_t_side q_t_tall q_t_endRow q_t_endColumn q_t_endSide q_t_gone t_lineRow t_lineColumn t_lineSide t_lineMany q_t_ways q_t_codes q_t_many, aI (G.2 1) q_t_sign 36 t_sign, aI (G.2 1) q_t_before 222 t_before]) hD hS hA [0, 1, 2] rfl
      refine va_callv (va_runV (As := []) (rest := []) ⟨hx, hb, hml, hown, hts⟩ (c_X6_note (l := l) (G := G) _ (q_t := q_t) (t_length := t_length) (q_t_text := q_t_text) (t_size := t_size) (q_t_sign := q_t_sign) (t_otherSize := t_otherSize) (q_t_other := q_t_other) (q_t_before := q_t_before) (t_undoMany := t_undoMany) (t_readSize := t_readSize) (q_t_read := q_t_read) (q_t_side := q_t_side) (q_t_tall := q_t_tall) (q_t_endRow := q_t_endRow) (q_t_endColumn := q_t_endColumn) (q_t_endSide := q_t_endSide) (q_t_gone := q_t_gone) (t_lineRow := t_lineRow) (t_lineColumn := t_lineColumn) (t_lineSide := t_lineSide) (t_lineMany := t_lineMany) (q_t_ways := q_t_ways) (q_t_codes := q_t_codes) (q_t_many := q_t_many) (t_sign := t_sign) (t_before := t_before) hC_27) (cwV 0 hts gX6_flip_X6_note rfl rfl rfl kd_X6_note ⟨Nat.le_of_ble_eq_true rfl, Nat.le_of_ble_eq_true rfl⟩) (iv_V hKW hPc hDc (ci := 6) (q0 := 0) rfl rfl) rfl rfl hl.1 rfl (lv_room (Nat.le_of_ble_eq_true rfl)) dX6_flip_27 ⟨Nat.zero_le _, Nat.zero_le _⟩) hS (fun q _ h => hFc q h) hFc (fun u9 t9 H1 locs ht9 hvm9 hw9 hB9 hz9 hk9 hS => ?_)
      obtain ⟨hP1, hD1⟩ := hB9
      rw [ht9] at hP1
      obtain ⟨hP, hD⟩ := va_join (wr := []) (w1 := [oX6 q_t t_length q_t_text t_size q_t_sign t_otherSize q_t_other q_t_before m_27_0 t_readSize q_t_read q_t_side q_t_tall q_t_endRow q_t_endColumn q_t_endSide q_t_gone t_lineRow t_lineColumn t_lineSide t_lineMany q_t_ways q_t_codes q_t_many, aI (G.2 1) q_t_sign 36 t_sign, aI (G.2 1) q_t_before 222 m_27_1]) hP hD [0, 1, 2] [] rfl rfl (by decide) (by decide) hk9 hFc hP1 hD1
      have hP := hP.sub (ws' := [oX6 q_t t_length q_t_text t_size q_t_sign t_otherSize q_t_other q_t_before m_27_0 t_readSize q_t_read q_t_side q_t_tall q_t_endRow q_t_endColumn q_t_endSide q_t_gone t_lineRow t_lineColumn t_lineSide t_lineMany q_t_ways q_t_codes q_t_many, aI (G.2 1) q_t_sign 36 t_sign, aI (G.2 1) q_t_before 222 m_27_1]) [0, 1, 2] rfl
      have hD := hD.sub (ws' := [oX6 q_t t_length q_t_text t_size q_t_sign t_otherSize q_t_other q_t_before m_27_0 t_readSize q_t_read q_t_side q_t_tall q_t_endRow q_t_endColumn q_t_endSide q_t_gone t_lineRow t_lineColumn t_lineSide t_lineMany q_t_ways q_t_codes q_t_many, aI (G.2 1) q_t_sign 36 t_sign, aI (G.2 1) q_t_before 222 m_27_1]) [0, 1, 2] (by decide) rfl
      clear hPc hDc hFc hP1 hD1 hk9 hz9 hvm9
      refine lv_aload_n hx hb dX6_flip_30 rfl (lv_at hl 0 rfl) ?_
      refine va_get (D := G.1) (ci := 6) (v := .ref q_t_sign) (C := RX6) (T := TX6) (N := 23) hx hb hts iX6 hown hK hP 0 rfl rfl 3 (by decide) fl_13 (fun _ h9 => h9) rfl dX6_flip_31 ?_
      refine lv_iload_n hx hb dX6_flip_34 rfl (lv_at hl 1 rfl) ?_
      refine lv_iload_n hx hb dX6_flip_35 rfl (lv_at hl 2 rfl) ?_
      obtain ⟨y36, hC_36, hE⟩ := Option.bind_eq_some_iff.mp hE
      obtain ⟨r_36, m_36_0⟩ := y36
      try dsimp only at hE
      have hPc := hP.sub (ws' := [aI (G.2 1) q_t_sign 36 t_sign]) [1] rfl
      have hDc := hD.sub (ws' := [aI (G.2 1) q_t_sign 36 t_sign]) [1] (by decide) rfl
      have hFc := va_free (wc := [aI (G.2 1) q_t_sign 36 t_sign]) hD hS hA [1] rfl
      refine va_calli (va_runS (As := [.ref q_t_sign, .int p1, .int p2]) (rest := []) ⟨hx, hb, hml, hown, hts⟩ (c_X6_flips (l := l) (G := G) _ (p2 := p1) (p3 := p2) (q_p1 := q_t_sign) (p1 := t_sign) hC_36) (va_cwS 3 hts gX6_flip_X6_flips rfl rfl rfl kd_X6_flips ⟨Nat.le_of_ble_eq_true rfl, Nat.le_of_ble_eq_true rfl⟩) (iv_S hKW hPc hDc) rfl rfl hl.1 rfl (lv_room (Nat.le_of_ble_eq_true rfl)) dX6_flip_36 ⟨Nat.zero_le _, Nat.zero_le _⟩) hS (fun q _ h => hFc q h) hFc (fun r9 u9 t9 H1 locs ht9 hvm9 hw9 hB9 hz9 hk9 hS => ?_)
      subst r9
      obtain ⟨hP1, hD1⟩ := hB9
      rw [ht9] at hP1
      obtain ⟨hP, hD⟩ := va_join (wr := [oX6 q_t t_length q_t_text t_size q_t_sign t_otherSize q_t_other q_t_before m_27_0 t_readSize q_t_read q_t_side q_t_tall q_t_endRow q_t_endColumn q_t_endSide q_t_gone t_lineRow t_lineColumn t_lineSide t_lineMany q_t_ways q_t_codes q_t_many, aI (G.2 1) q_t_before 222 m_27_1]) (w1 := [aI (G.2 1) q_t_sign 36 m_36_0]) hP hD [1] [0, 2] rfl rfl (by decide) (by decide) hk9 hFc hP1 hD1
      have hP := hP.sub (ws' := [oX6 q_t t_length q_t_text t_size q_t_sign t_otherSize q_t_other q_t_before m_27_0 t_readSize q_t_read q_t_side q_t_tall q_t_endRow q_t_endColumn q_t_endSide q_t_gone t_lineRow t_lineColumn t_lineSide t_lineMany q_t_ways q_t_codes q_t_many, aI (G.2 1) q_t_sign 36 m_36_0, aI (G.2 1) q_t_before 222 m_27_1]) [0, 2, 1] rfl
      have hD := hD.sub (ws' := [oX6 q_t t_length q_t_text t_size q_t_sign t_otherSize q_t_other q_t_before m_27_0 t_readSize q_t_read q_t_side q_t_tall q_t_endRow q_t_endColumn q_t_endSide q_t_gone t_lineRow t_lineColumn t_lineSide t_lineMany q_t_ways q_t_codes q_t_many, aI (G.2 1) q_t_sign 36 m_36_0, aI (G.2 1) q_t_before 222 m_27_1]) [0, 2, 1] (by decide) rfl
      clear hPc hDc hFc hP1 hD1 hk9 hz9 hvm9
      refine lv_pop hx hb dX6_flip_39 rfl ?_
      refine lv_aload_n hx hb dX6_flip_40 rfl (lv_at hl 0 rfl) ?_
      refine va_get (D := G.1) (ci := 6) (v := .ref q_t_sign) (C := RX6) (T := TX6) (N := 23) hx hb hts iX6 hown hK hP 0 rfl rfl 3 (by decide) fl_13 (fun _ h9 => h9) rfl dX6_flip_41 ?_
      refine lv_iload_n hx hb dX6_flip_44 rfl (lv_at hl 1 rfl) ?_
      refine lv_iload_n hx hb dX6_flip_45 rfl (lv_at hl 2 rfl) ?_
      obtain ⟨y46, hC_46, hE⟩ := Option.bind_eq_some_iff.mp hE
      obtain ⟨r_46, ex9⟩ : ∃ z, z = y46 := ⟨_, rfl⟩
      subst ex9
      try dsimp only at hE
      refine vp_callSi (va_Run.run (va_runS (As := [.ref q_t_sign, .int p1, .int p2]) (rest := []) ⟨hx, hb, hml, hown, hts⟩ (c_X6_heightOf (l := l) (G := G) (p2 := p1) (p3 := p2) (q_p1 := q_t_sign) (p1 := m_36_0) hC_46) (va_cwS 3 hts gX6_flip_X6_heightOf rfl rfl rfl kd_X6_heightOf ⟨Nat.le_of_ble_eq_true rfl, Nat.le_of_ble_eq_true rfl⟩) (pv_S hKW (hP.sub (ws' := [aI (G.2 1) q_t_sign 36 m_36_0]) [1] rfl)) rfl rfl hl.1 rfl (lv_room (Nat.le_of_ble_eq_true rfl)) dX6_flip_46 ⟨Nat.zero_le _, Nat.zero_le _⟩)) (fun r9 hr9 => ?_)
      subst r9
      have e_0 := Option.some.inj hE
      subst e_0
      rw [hQ]
      exact W.iret (v := r_46) hx hb hr (fun t ht _ => ⟨⟨_, (), rfl, rfl, by rw [ht]; exact hP, hD⟩, hS.F ht⟩) hS.2.2 dX6_flip_49
    · replace hE := (if_pos c_20).symm.trans hE
      refine lv_bipush (v := -2) hx hb dX6_flip_23 (by decide) ?_
      have e_0 := Option.some.inj hE
      subst e_0
      rw [hQ]
      exact W.iret (v := (-2 : Int32)) hx hb hr (fun t ht _ => ⟨⟨_, (), rfl, rfl, by rw [ht]; exact hP, hD⟩, hS.F ht⟩) hS.2.2 dX6_flip_25
  · replace hE := (if_pos c_6).symm.trans hE
    refine lv_iconst (v := -1) hx hb dX6_flip_9 (by decide) ?_
    have e_0 := Option.some.inj hE
    subst e_0
    rw [hQ]
    exact W.iret (v := (-1 : Int32)) hx hb hr (fun t ht _ => ⟨⟨_, (), rfl, rfl, by rw [ht]; exact hP, hD⟩, hS.F ht⟩) hS.2.2 dX6_flip_10
def S_X6_gyrates (t_size : Int32) (p1 : Nat → Int32) : Option (Int32 × (Nat → Int32)) := itr (fun (x1 : Int32 × Int32 × (Nat → Int32)) => if (2 : Int32) ≤ x1.2.1 then some (.inr (x1.1, x1.2.2)) else itr (fun (x2 : Int32 × Int32 × (Nat → Int32)) => if t_size ≤ x2.2.1 then some (.inr (.inl (x2.1, x1.2.1 + (1 : Int32), x2.2.2))) else itr (fun (x3 : Int32 × Int32 × (Nat → Int32)) => if t_size ≤ x3.2.1 then some (.inr (.inl (x3.1, x2.2.1 + (1 : Int32), x3.2.2))) else if ((x2.2.1 + x3.2.1) - (x2.2.1 + x3.2.1) / (2 : Int32) * (2 : Int32)) = x1.2.1 then (S_X6_flips x2.2.1 x3.2.1 x3.2.2).bind (fun (y50 : Int32 × (Nat → Int32)) => if y50.1 = 0 then some (.inl (x3.1 + (0 : Int32), x3.2.1 + (1 : Int32), y50.2)) else some (.inl (x3.1 + (1 : Int32), x3.2.1 + (1 : Int32), y50.2))) else some (.inl (x3.1 + (0 : Int32), x3.2.1 + (1 : Int32), x3.2.2))) 10000 (x2.1, (1 : Int32), x2.2.2)) 10000 (x1.1, (1 : Int32), x1.2.2)) 10000 ((0 : Int32), (0 : Int32), p1)
theorem kd_X6_gyrates : yX6_gyrates.cls = RX6 ∧ yX6_gyrates.cls ≠ "java/lang/invoke/MethodHandle" ∧ yX6_gyrates.cls ≠ "java/lang/invoke/VarHandle" ∧ (parseMethodDescriptor yX6_gyrates.desc).map (fun d => d.parameters.length) = some 1 := by decide +kernel
set_option maxHeartbeats 4000000 in
set_option maxRecDepth 100000 in
theorem c_X6_gyrates {l : Launch} {G : kG} (sz : Nat) {q_t : Nat} {t_length : Int32} {q_t_text : Nat} {t_size : Int32} {q_t_sign : Nat} {t_otherSize : Int32} {q_t_other : Nat} {q_t_before : Nat} {t_undoMany : Int32} {t_readSize : Int32} {q_t_read : Nat} {q_t_side : Nat} {q_t_tall : Nat} {q_t_endRow : Nat} {q_t_endColumn : Nat} {q_t_endSide : Nat} {q_t_gone : Nat} {t_lineRow : Int32} {t_lineColumn : Int32} {t_lineSide : Int32} {t_lineMany : Int32} {q_t_ways : Nat} {q_t_codes : Nat} {q_t_many : Nat} {q_p1 : Nat} {p1 : Nat → Int32} {res : Int32 × (Nat → Int32)} (hE : S_X6_gyrates t_size p1 = some res) : Met l yX6_gyrates wsX6_gyrates ({ frames := 4, cells := 0, slots := 0, locals := 96 }) (va_Pc [.ref q_t, .ref q_p1] (fun U => U.heap.size = sz ∧ va_P G.1 vwCl [oX6 q_t t_length q_t_text t_size q_t_sign t_otherSize q_t_other q_t_before t_undoMany t_readSize q_t_read q_t_side q_t_tall q_t_endRow q_t_endColumn q_t_endSide q_t_gone t_lineRow t_lineColumn t_lineSide t_lineMany q_t_ways q_t_codes q_t_many, aI (G.2 1) q_p1 36 p1] U.heap ∧ kw G U ∧ va_D (fun _ => True) [oX6 q_t t_length q_t_text t_size q_t_sign t_otherSize q_t_other q_t_before t_undoMany t_readSize q_t_read q_t_side q_t_tall q_t_endRow q_t_endColumn q_t_endSide q_t_gone t_lineRow t_lineColumn t_lineSide t_lineMany q_t_ways q_t_codes q_t_many, aI (G.2 1) q_p1 36 p1])) (va_Qi (fun r (_ : Unit) => r = res.1) (fun _ t => va_P G.1 vwCl [oX6 q_t t_length q_t_text t_size q_t_sign t_otherSize q_t_other q_t_before t_undoMany t_readSize q_t_read q_t_side q_t_tall q_t_endRow q_t_endColumn q_t_endSide q_t_gone t_lineRow t_lineColumn t_lineSide t_lineMany q_t_ways q_t_codes q_t_many, aI (G.2 1) q_p1 36 res.2] t.heap ∧ va_D (va_A [oX6 q_t t_length q_t_text t_size q_t_sign t_otherSize q_t_other q_t_before t_undoMany t_readSize q_t_read q_t_side q_t_tall q_t_endRow q_t_endColumn q_t_endSide q_t_gone t_lineRow t_lineColumn t_lineSide t_lineMany q_t_ways q_t_codes q_t_many, aI (G.2 1) q_p1 36 p1] sz) [oX6 q_t t_length q_t_text t_size q_t_sign t_otherSize q_t_other q_t_before t_undoMany t_readSize q_t_read q_t_side q_t_tall q_t_endRow q_t_endColumn q_t_endSide q_t_gone t_lineRow t_lineColumn t_lineSide t_lineMany q_t_ways q_t_codes q_t_many, aI (G.2 1) q_p1 36 res.2]) (va_A [oX6 q_t t_length q_t_text t_size q_t_sign t_otherSize q_t_other q_t_before t_undoMany t_readSize q_t_read q_t_side q_t_tall q_t_endRow q_t_endColumn q_t_endSide q_t_gone t_lineRow t_lineColumn t_lineSide t_lineMany q_t_ways q_t_codes q_t_many, aI (G.2 1) q_p1 36 p1] sz)) 0 0 (va_A [oX6 q_t t_length q_t_text t_size q_t_sign t_otherSize q_t_other q_t_before t_undoMany t_readSize q_t_read q_t_side q_t_tall q_t_endRow q_t_endColumn q_t_endSide q_t_gone t_lineRow t_lineColumn t_lineSide t_lineMany q_t_ways q_t_codes q_t_many, aI (G.2 1) q_p1 36 p1] sz) := by
  refine Met.ofQ (cc := cX6_gyrates) (maxL := 6) (ret := (some .int)) (by decide) rfl ?_
  intro p e s m args below meth c s₁ Q hQ B hml hv
  obtain ⟨rfl, hsz, hP, hKW, hD0⟩ := hv
  have hK := hKW.1
  have hx := B.exec
  have hb := B.bytes
  have hr := B.returns
  have hts := atoms_spec (ws := wsX6_gyrates) B.pre
  have hown : s.vm.findClass RX6 = some m.cls := findClass_of_methodNamed B.named
  have hlocks := B.notSynchronized
  have iX6 : ∀ w ∈ u_ws RX6 TX6 23, w ∈ wsX6_gyrates := by decide +kernel
  have fl_54 := hts (.fieldLink RX6 54 "AlternateSignsModel" "size" "I") (by decide +kernel)
  subst hsz
  have hD := hD0.self (sz := s.heap.size)
  generalize hAe : va_A [oX6 q_t t_length q_t_text t_size q_t_sign t_otherSize q_t_other q_t_before t_undoMany t_readSize q_t_read q_t_side q_t_tall q_t_endRow q_t_endColumn q_t_endSide q_t_gone t_lineRow t_lineColumn t_lineSide t_lineMany q_t_ways q_t_codes q_t_many, aI (G.2 1) q_p1 36 p1] s.heap.size = A at hD hQ
  have hA : ∀ q : Nat, s.heap.size ≤ q → A q := fun q h => by rw [← hAe]; exact Or.inr h
  have hS : va_S A s.heap s.heap [] := va_S.rf
  have hl := lv_entry ([.ref q_t, .ref q_p1]) (n := 6) (Nat.le_of_ble_eq_true rfl)
  rw [lg_entry_eq]
  generalize (lg_sl ([.ref q_t, .ref q_p1]) ++ List.replicate (6 - (lg_sl ([.ref q_t, .ref q_p1])).length) Slot.unset).toArray = ls at hl ⊢
  have hl : lv_has ls 6 [(0, .ref q_t), (1, .ref q_p1)] := hl
  unfold S_X6_gyrates at hE
  refine lv_iconst (v := 0) hx hb dX6_gyrates_0 (by decide) ?_
  refine lv_istore_n (lv' := [(2, .int (0 : Int32)), (0, .ref q_t), (1, .ref q_p1)]) hx hb dX6_gyrates_1 rfl hl (by decide) rfl (fun ls hl => ?_)
  refine lv_iconst (v := 0) hx hb dX6_gyrates_2 (by decide) ?_
  refine lv_istore_n (lv' := [(3, .int (0 : Int32)), (2, .int (0 : Int32)), (0, .ref q_t), (1, .ref q_p1)]) hx hb dX6_gyrates_3 rfl hl (by decide) rfl (fun ls hl => ?_)
  refine itr_ind (fun (x1 : Int32 × Int32 × (Nat → Int32)) => ∀ (H : Heap) (locs : List Loc) (ls : Array Slot), va_P G.1 vwCl [oX6 q_t t_length q_t_text t_size q_t_sign t_otherSize q_t_other q_t_before t_undoMany t_readSize q_t_read q_t_side q_t_tall q_t_endRow q_t_endColumn q_t_endSide q_t_gone t_lineRow t_lineColumn t_lineSide t_lineMany q_t_ways q_t_codes q_t_many, aI (G.2 1) q_p1 36 x1.2.2] H → va_D A [oX6 q_t t_length q_t_text t_size q_t_sign t_otherSize q_t_other q_t_before t_undoMany t_readSize q_t_read q_t_side q_t_tall q_t_endRow q_t_endColumn q_t_endSide q_t_gone t_lineRow t_lineColumn t_lineSide t_lineMany q_t_ways q_t_codes q_t_many, aI (G.2 1) q_p1 36 x1.2.2] → va_S A s.heap H locs → lv_has ls 6 [(0, .ref q_t), (1, .ref q_p1), (2, .int x1.1), (3, .int x1.2.1)] → W p l e (headSpec wsX6_gyrates ({ frames := 4, cells := 0, slots := 0, locals := 96 })).room s m ([.ref q_t, .ref q_p1] : List Value).toArray below meth c H locs 0 0 Q (F0 m 4 ls [])) (fun x1 o_1 hE ih_1 hr_1 => ?_) _ _ hE _ _ ls hP hD hS (lv_sub hl [2, 3, 1, 0] rfl)
  obtain ⟨v2_1, v3_1, w_p1_1⟩ := x1
  try dsimp only at hE
  intro H locs ls hP hD hS hl
  try dsimp only at hP hD hl ⊢
  refine lv_iload_n hx hb dX6_gyrates_4 rfl (lv_at hl 3 rfl) ?_
  refine lv_iconst (v := 2) hx hb dX6_gyrates_5 (by decide) ?_
  refine lv_icmp_ge (tgt := 81) hx hb dX6_gyrates_6 (by decide) (fun c_6 => ?_) (fun c_6 => ?_)
  · replace hE := (if_pos c_6).symm.trans hE
    refine lv_iload_n hx hb dX6_gyrates_81 rfl (lv_at hl 2 rfl) ?_
    have e_1 := Option.some.inj hE
    have e_0 := hr_1 _ e_1.symm
    subst e_0
    rw [hQ]
    exact W.iret (v := v2_1) hx hb hr (fun t ht _ => ⟨⟨_, (), rfl, rfl, by rw [ht]; exact hP, hD⟩, hS.F ht⟩) hS.2.2 dX6_gyrates_82
  · replace hE := (if_neg c_6).symm.trans hE
    refine lv_iconst (v := 1) hx hb dX6_gyrates_9 (by decide) ?_
    refine lv_istore (lv' := [(4, .int (1 : Int32)), (0, .ref q_t), (1, .ref q_p1), (2, .int v2_1), (3, .int v3_1)]) hx hb dX6_gyrates_10 hl (by decide) rfl (fun ls hl => ?_)
    refine itr_ind (fun (x2 : Int32 × Int32 × (Nat → Int32)) => ∀ (H : Heap) (locs : List Loc) (ls : Array Slot), va_P G.1 vwCl [oX6 q_t t_length q_t_text t_size q_t_sign t_otherSize q_t_other q_t_before t_undoMany t_readSize q_t_read q_t_side q_t_tall q_t_endRow q_t_endColumn q_t_endSide q_t_gone t_lineRow t_lineColumn t_lineSide t_lineMany q_t_ways q_t_codes q_t_many, aI (G.2 1) q_p1 36 x2.2.2] H → va_D A [oX6 q_t t_length q_t_text t_size q_t_sign t_otherSize q_t_other q_t_before t_undoMany t_readSize q_t_read q_t_side q_t_tall q_t_endRow q_t_endColumn q_t_endSide q_t_gone t_lineRow t_lineColumn t_lineSide t_lineMany q_t_ways q_t_codes q_t_many, aI (G.2 1) q_p1 36 x2.2.2] → va_S A s.heap H locs → lv_has ls 6 [(0, .ref q_t), (1, .ref q_p1), (2, .int x2.1), (3, .int v3_1), (4, .int x2.2.1)] → W p l e (headSpec wsX6_gyrates ({ frames := 4, cells := 0, slots := 0, locals := 96 })).room s m ([.ref q_t, .ref q_p1] : List Value).toArray below meth c H locs 0 0 Q (F0 m 12 ls [])) (fun x2 o_2 hE ih_2 hr_2 => ?_) _ _ hE _ _ ls hP hD hS (lv_sub hl [1, 2, 3, 4, 0] rfl)
    obtain ⟨v2_2, v4_2, w_p1_2⟩ := x2
    try dsimp only at hE
    intro H locs ls hP hD hS hl
    try dsimp only at hP hD hl ⊢
    refine lv_iload hx hb dX6_gyrates_12 (lv_at hl 4 rfl) ?_
    refine lv_aload_n hx hb dX6_gyrates_14 rfl (lv_at hl 0 rfl) ?_
    refine va_get (D := G.1) (ci := 6) (v := .int t_size) (C := RX6) (T := TX6) (N := 23) hx hb hts iX6 hown hK hP 0 rfl rfl 2 (by decide) fl_54 (fun _ h9 => h9) rfl dX6_gyrates_15 ?_
    refine lv_icmp_ge (tgt := 75) hx hb dX6_gyrates_18 (by decide) (fun c_18 => ?_) (fun c_18 => ?_)
    · replace hE := (if_pos c_18).symm.trans hE
      refine lv_iinc (v := v3_1 + (1 : Int32)) (lv' := [(3, .int (v3_1 + (1 : Int32))), (0, .ref q_t), (1, .ref q_p1), (2, .int v2_2), (4, .int v4_2)]) hx hb dX6_gyrates_75 hl (k := 3) rfl rfl (by decide) rfl (fun ls hl => ?_)
      refine lv_goto (tgt := 4) hx hb dX6_gyrates_78 (by decide) ?_
      have e_2 := Option.some.inj hE
      have e_1 := hr_2 _ e_2.symm
      exact ih_1 _ e_1.symm _ _ ls hP hD hS (lv_sub hl [1, 2, 3, 0] rfl)
    · replace hE := (if_neg c_18).symm.trans hE
      refine lv_iconst (v := 1) hx hb dX6_gyrates_21 (by decide) ?_
      refine lv_istore (lv' := [(5, .int (1 : Int32)), (0, .ref q_t), (1, .ref q_p1), (2, .int v2_2), (3, .int v3_1), (4, .int v4_2)]) hx hb dX6_gyrates_22 hl (by decide) rfl (fun ls hl => ?_)
      refine itr_ind (fun (x3 : Int32 × Int32 × (Nat → Int32)) => ∀ (H : Heap) (locs : List Loc) (ls : Array Slot), va_P G.1 vwCl [oX6 q_t t_length q_t_text t_size q_t_sign t_otherSize q_t_other q_t_before t_undoMany t_readSize q_t_read q_t_side q_t_tall q_t_endRow q_t_endColumn q_t_endSide q_t_gone t_lineRow t_lineColumn t_lineSide t_lineMany q_t_ways q_t_codes q_t_many, aI (G.2 1) q_p1 36 x3.2.2] H → va_D A [oX6 q_t t_length q_t_text t_size q_t_sign t_otherSize q_t_other q_t_before t_undoMany t_readSize q_t_read q_t_side q_t_tall q_t_endRow q_t_endColumn q_t_endSide q_t_gone t_lineRow t_lineColumn t_lineSide t_lineMany q_t_ways q_t_codes q_t_many, aI (G.2 1) q_p1 36 x3.2.2] → va_S A s.heap H locs → lv_has ls 6 [(0, .ref q_t), (1, .ref q_p1), (2, .int x3.1), (3, .int v3_1), (4, .int v4_2), (5, .int x3.2.1)] → W p l e (headSpec wsX6_gyrates ({ frames := 4, cells := 0, slots := 0, locals := 96 })).room s m ([.ref q_t, .ref q_p1] : List Value).toArray below meth c H locs 0 0 Q (F0 m 24 ls [])) (fun x3 o_3 hE ih_3 hr_3 => ?_) _ _ hE _ _ ls hP hD hS (lv_sub hl [1, 2, 3, 4, 5, 0] rfl)
      obtain ⟨v2_3, v5_3, w_p1_3⟩ := x3
      try dsimp only at hE
      intro H locs ls hP hD hS hl
      try dsimp only at hP hD hl ⊢
      refine lv_iload hx hb dX6_gyrates_24 (lv_at hl 5 rfl) ?_
      refine lv_aload_n hx hb dX6_gyrates_26 rfl (lv_at hl 0 rfl) ?_
      refine va_get (D := G.1) (ci := 6) (v := .int t_size) (C := RX6) (T := TX6) (N := 23) hx hb hts iX6 hown hK hP 0 rfl rfl 2 (by decide) fl_54 (fun _ h9 => h9) rfl dX6_gyrates_27 ?_
      refine lv_icmp_ge (tgt := 69) hx hb dX6_gyrates_30 (by decide) (fun c_30 => ?_) (fun c_30 => ?_)
      · replace hE := (if_pos c_30).symm.trans hE
        refine lv_iinc (v := v4_2 + (1 : Int32)) (lv' := [(4, .int (v4_2 + (1 : Int32))), (0, .ref q_t), (1, .ref q_p1), (2, .int v2_3), (3, .int v3_1), (5, .int v5_3)]) hx hb dX6_gyrates_69 hl (k := 4) rfl rfl (by decide) rfl (fun ls hl => ?_)
        refine lv_goto (tgt := 12) hx hb dX6_gyrates_72 (by decide) ?_
        have e_3 := Option.some.inj hE
        have e_2 := hr_3 _ e_3.symm
        exact ih_2 _ e_2.symm _ _ ls hP hD hS (lv_sub hl [1, 2, 3, 4, 0] rfl)
      · replace hE := (if_neg c_30).symm.trans hE
        refine lv_iload_n hx hb dX6_gyrates_33 rfl (lv_at hl 2 rfl) ?_
        refine lv_iload hx hb dX6_gyrates_34 (lv_at hl 4 rfl) ?_
        refine lv_iload hx hb dX6_gyrates_36 (lv_at hl 5 rfl) ?_
        refine lv_iadd hx hb dX6_gyrates_38 ?_
        refine lv_iconst (v := 2) hx hb dX6_gyrates_39 (by decide) ?_
        refine lv_irem hx hb dX6_gyrates_40 (by decide) ?_
        refine lv_iload_n hx hb dX6_gyrates_41 rfl (lv_at hl 3 rfl) ?_
        refine lv_icmp_ne (tgt := 60) hx hb dX6_gyrates_42 (by decide) (fun c_42 => ?_) (fun c_42 => ?_)
        · replace hE := (if_neg c_42).symm.trans hE
          refine lv_iconst (v := 0) hx hb dX6_gyrates_60 (by decide) ?_
          refine lv_iadd hx hb dX6_gyrates_61 ?_
          refine lv_istore_n (lv' := [(2, .int (v2_3 + (0 : Int32))), (0, .ref q_t), (1, .ref q_p1), (3, .int v3_1), (4, .int v4_2), (5, .int v5_3)]) hx hb dX6_gyrates_62 rfl hl (by decide) rfl (fun ls hl => ?_)
          refine lv_iinc (v := v5_3 + (1 : Int32)) (lv' := [(5, .int (v5_3 + (1 : Int32))), (2, .int (v2_3 + (0 : Int32))), (0, .ref q_t), (1, .ref q_p1), (3, .int v3_1), (4, .int v4_2)]) hx hb dX6_gyrates_63 hl (k := 5) rfl rfl (by decide) rfl (fun ls hl => ?_)
          refine lv_goto (tgt := 24) hx hb dX6_gyrates_66 (by decide) ?_
          have e_3 := Option.some.inj hE
          exact ih_3 _ e_3.symm _ _ ls hP hD hS (lv_sub hl [2, 3, 1, 4, 5, 0] rfl)
        · replace hE := (if_pos c_42).symm.trans hE
          refine lv_aload_n hx hb dX6_gyrates_45 rfl (lv_at hl 1 rfl) ?_
          refine lv_iload hx hb dX6_gyrates_46 (lv_at hl 4 rfl) ?_
          refine lv_iload hx hb dX6_gyrates_48 (lv_at hl 5 rfl) ?_
          obtain ⟨y50, hC_50, hE⟩ := Option.bind_eq_some_iff.mp hE
          obtain ⟨r_50, m_50_0⟩ := y50
          try dsimp only at hE
          have hPc := hP.sub (ws' := [aI (G.2 1) q_p1 36 w_p1_3]) [1] rfl
          have hDc := hD.sub (ws' := [aI (G.2 1) q_p1 36 w_p1_3]) [1] (by decide) rfl
          have hFc := va_free (wc := [aI (G.2 1) q_p1 36 w_p1_3]) hD hS hA [1] rfl
          refine va_calli (va_runS (As := [.ref q_p1, .int v4_2, .int v5_3]) (rest := [.int v2_3]) ⟨hx, hb, hml, hown, hts⟩ (c_X6_flips (l := l) (G := G) _ (p2 := v4_2) (p3 := v5_3) (q_p1 := q_p1) (p1 := w_p1_3) hC_50) (va_cwS 3 hts gX6_gyrates_X6_flips rfl rfl rfl kd_X6_flips ⟨Nat.le_of_ble_eq_true rfl, Nat.le_of_ble_eq_true rfl⟩) (iv_S hKW hPc hDc) rfl rfl hl.1 rfl (lv_room (Nat.le_of_ble_eq_true rfl)) dX6_gyrates_50 ⟨Nat.zero_le _, Nat.zero_le _⟩) hS (fun q _ h => hFc q h) hFc (fun r9 u9 t9 H1 locs ht9 hvm9 hw9 hB9 hz9 hk9 hS => ?_)
          subst r9
          obtain ⟨hP1, hD1⟩ := hB9
          rw [ht9] at hP1
          obtain ⟨hP, hD⟩ := va_join (wr := [oX6 q_t t_length q_t_text t_size q_t_sign t_otherSize q_t_other q_t_before t_undoMany t_readSize q_t_read q_t_side q_t_tall q_t_endRow q_t_endColumn q_t_endSide q_t_gone t_lineRow t_lineColumn t_lineSide t_lineMany q_t_ways q_t_codes q_t_many]) (w1 := [aI (G.2 1) q_p1 36 m_50_0]) hP hD [1] [0] rfl rfl (by decide) (by decide) hk9 hFc hP1 hD1
          have hP := hP.sub (ws' := [oX6 q_t t_length q_t_text t_size q_t_sign t_otherSize q_t_other q_t_before t_undoMany t_readSize q_t_read q_t_side q_t_tall q_t_endRow q_t_endColumn q_t_endSide q_t_gone t_lineRow t_lineColumn t_lineSide t_lineMany q_t_ways q_t_codes q_t_many, aI (G.2 1) q_p1 36 m_50_0]) [0, 1] rfl
          have hD := hD.sub (ws' := [oX6 q_t t_length q_t_text t_size q_t_sign t_otherSize q_t_other q_t_before t_undoMany t_readSize q_t_read q_t_side q_t_tall q_t_endRow q_t_endColumn q_t_endSide q_t_gone t_lineRow t_lineColumn t_lineSide t_lineMany q_t_ways q_t_codes q_t_many, aI (G.2 1) q_p1 36 m_50_0]) [0, 1] (by decide) rfl
          clear hPc hDc hFc hP1 hD1 hk9 hz9 hvm9
          refine lv_if_eq (tgt := 60) hx hb dX6_gyrates_53 (by decide) (fun c_53 => ?_) (fun c_53 => ?_)
          · replace hE := (if_pos c_53).symm.trans hE
            refine lv_iconst (v := 0) hx hb dX6_gyrates_60 (by decide) ?_
            refine lv_iadd hx hb dX6_gyrates_61 ?_
            refine lv_istore_n (lv' := [(2, .int (v2_3 + (0 : Int32))), (0, .ref q_t), (1, .ref q_p1), (3, .int v3_1), (4, .int v4_2), (5, .int v5_3)]) hx hb dX6_gyrates_62 rfl hl (by decide) rfl (fun ls hl => ?_)
            refine lv_iinc (v := v5_3 + (1 : Int32)) (lv' := [(5, .int (v5_3 + (1 : Int32))), (2, .int (v2_3 + (0 : Int32))), (0, .ref q_t), (1, .ref q_p1), (3, .int v3_1), (4, .int v4_2)]) hx hb dX6_gyrates_63 hl (k := 5) rfl rfl (by decide) rfl (fun ls hl => ?_)
            refine lv_goto (tgt := 24) hx hb dX6_gyrates_66 (by decide) ?_
            have e_3 := Option.some.inj hE
            exact ih_3 _ e_3.symm _ _ ls hP hD hS (lv_sub hl [2, 3, 1, 4, 5, 0] rfl)
          · replace hE := (if_neg c_53).symm.trans hE
            refine lv_iconst (v := 1) hx hb dX6_gyrates_56 (by decide) ?_
            refine lv_goto (tgt := 61) hx hb dX6_gyrates_57 (by decide) ?_
            refine lv_iadd hx hb dX6_gyrates_61 ?_
            refine lv_istore_n (lv' := [(2, .int (v2_3 + (1 : Int32))), (0, .ref q_t), (1, .ref q_p1), (3, .int v3_1), (4, .int v4_2), (5, .int v5_3)]) hx hb dX6_gyrates_62 rfl hl (by decide) rfl (fun ls hl => ?_)
            refine lv_iinc (v := v5_3 + (1 : Int32)) (lv' := [(5, .int (v5_3 + (1 : Int32))), (2, .int (v2_3 + (1 : Int32))), (0, .ref q_t), (1, .ref q_p1), (3, .int v3_1), (4, .int v4_2)]) hx hb dX6_gyrates_63 hl (k := 5) rfl rfl (by decide) rfl (fun ls hl => ?_)
            refine lv_goto (tgt := 24) hx hb dX6_gyrates_66 (by decide) ?_
            have e_3 := Option.some.inj hE
            exact ih_3 _ e_3.symm _ _ ls hP hD hS (lv_sub hl [2, 3, 1, 4, 5, 0] rfl)
def S_X6_gyrate (p1 : Int32) (t_size : Int32) (t_undoMany : Int32) (t_sign : Nat → Int32) (t_before : Nat → Int32) : Option (Int32 × Int32 × (Nat → Int32) × (Nat → Int32)) := (S_X6_in p1.toInt64 (1 : Int64) (100 : Int64)).bind (fun (y6 : Int32) => if y6 = 0 then some ((-1 : Int32), t_undoMany, t_sign, t_before) else (S_X6_note t_size t_undoMany t_sign t_before).bind (fun (y15 : Int32 × (Nat → Int32)) => itr (fun (x1 : Int32 × Int32 × (Nat → Int32)) => if p1 ≤ x1.2.1 then some (.inr (x1.1, y15.1, x1.2.2, y15.2)) else (S_X6_gyrates t_size x1.2.2).bind (fun (y33 : Int32 × (Nat → Int32)) => some (.inl (x1.1 + y33.1, x1.2.1 + (1 : Int32), y33.2)))) 10000 ((0 : Int32), (0 : Int32), t_sign)))
theorem kd_X6_gyrate : yX6_gyrate.cls = RX6 ∧ yX6_gyrate.cls ≠ "java/lang/invoke/MethodHandle" ∧ yX6_gyrate.cls ≠ "java/lang/invoke/VarHandle" ∧ (parseMethodDescriptor yX6_gyrate.desc).map (fun d => d.parameters.length) = some 1 := by decide +kernel
set_option maxHeartbeats 4000000 in
set_option maxRecDepth 100000 in
theorem c_X6_gyrate {l : Launch} {G : kG} (sz : Nat) {p1 : Int32} {q_t : Nat} {t_length : Int32} {q_t_text : Nat} {t_size : Int32} {q_t_sign : Nat} {t_otherSize : Int32} {q_t_other : Nat} {q_t_before : Nat} {t_undoMany : Int32} {t_readSize : Int32} {q_t_read : Nat} {q_t_side : Nat} {q_t_tall : Nat} {q_t_endRow : Nat} {q_t_endColumn : Nat} {q_t_endSide : Nat} {q_t_gone : Nat} {t_lineRow : Int32} {t_lineColumn : Int32} {t_lineSide : Int32} {t_lineMany : Int32} {q_t_ways : Nat} {q_t_codes : Nat} {q_t_many : Nat} {t_sign : Nat → Int32} {t_before : Nat → Int32} {res : Int32 × Int32 × (Nat → Int32) × (Nat → Int32)} (hE : S_X6_gyrate p1 t_size t_undoMany t_sign t_before = some res) : Met l yX6_gyrate wsX6_gyrate ({ frames := 5, cells := 0, slots := 0, locals := 121 }) (va_Pc [.ref q_t, .int p1] (fun U => U.heap.size = sz ∧ va_P G.1 vwCl [oX6 q_t t_length q_t_text t_size q_t_sign t_otherSize q_t_other q_t_before t_undoMany t_readSize q_t_read q_t_side q_t_tall q_t_endRow q_t_endColumn q_t_endSide q_t_gone t_lineRow t_lineColumn t_lineSide t_lineMany q_t_ways q_t_codes q_t_many, aI (G.2 1) q_t_sign 36 t_sign, aI (G.2 1) q_t_before 222 t_before] U.heap ∧ kw G U ∧ va_D (fun _ => True) [oX6 q_t t_length q_t_text t_size q_t_sign t_otherSize q_t_other q_t_before t_undoMany t_readSize q_t_read q_t_side q_t_tall q_t_endRow q_t_endColumn q_t_endSide q_t_gone t_lineRow t_lineColumn t_lineSide t_lineMany q_t_ways q_t_codes q_t_many, aI (G.2 1) q_t_sign 36 t_sign, aI (G.2 1) q_t_before 222 t_before])) (va_Qi (fun r (_ : Unit) => r = res.1) (fun _ t => va_P G.1 vwCl [oX6 q_t t_length q_t_text t_size q_t_sign t_otherSize q_t_other q_t_before res.2.1 t_readSize q_t_read q_t_side q_t_tall q_t_endRow q_t_endColumn q_t_endSide q_t_gone t_lineRow t_lineColumn t_lineSide t_lineMany q_t_ways q_t_codes q_t_many, aI (G.2 1) q_t_sign 36 res.2.2.1, aI (G.2 1) q_t_before 222 res.2.2.2] t.heap ∧ va_D (va_A [oX6 q_t t_length q_t_text t_size q_t_sign t_otherSize q_t_other q_t_before t_undoMany t_readSize q_t_read q_t_side q_t_tall q_t_endRow q_t_endColumn q_t_endSide q_t_gone t_lineRow t_lineColumn t_lineSide t_lineMany q_t_ways q_t_codes q_t_many, aI (G.2 1) q_t_sign 36 t_sign, aI (G.2 1) q_t_before 222 t_before] sz) [oX6 q_t t_length q_t_text t_size q_t_sign t_otherSize q_t_other q_t_before res.2.1 t_readSize q_t_read q_t_side q_t_tall q_t_endRow q_t_endColumn q_t_endSide q_t_gone t_lineRow t_lineColumn t_lineSide t_lineMany q_t_ways q_t_codes q_t_many, aI (G.2 1) q_t_sign 36 res.2.2.1, aI (G.2 1) q_t_before 222 res.2.2.2]) (va_A [oX6 q_t t_length q_t_text t_size q_t_sign t_otherSize q_t_other q_t_before t_undoMany t_readSize q_t_read q_t_side q_t_tall q_t_endRow q_t_endColumn q_t_endSide q_t_gone t_lineRow t_lineColumn t_lineSide t_lineMany q_t_ways q_t_codes q_t_many, aI (G.2 1) q_t_sign 36 t_sign, aI (G.2 1) q_t_before 222 t_before] sz)) 0 0 (va_A [oX6 q_t t_length q_t_text t_size q_t_sign t_otherSize q_t_other q_t_before t_undoMany t_readSize q_t_read q_t_side q_t_tall q_t_endRow q_t_endColumn q_t_endSide q_t_gone t_lineRow t_lineColumn t_lineSide t_lineMany q_t_ways q_t_codes q_t_many, aI (G.2 1) q_t_sign 36 t_sign, aI (G.2 1) q_t_before 222 t_before] sz) := by
  refine Met.ofQ (cc := cX6_gyrate) (maxL := 4) (ret := (some .int)) (by decide) rfl ?_
  intro p e s m args below meth c s₁ Q hQ B hml hv
  obtain ⟨rfl, hsz, hP, hKW, hD0⟩ := hv
  have hK := hKW.1
  have hx := B.exec
  have hb := B.bytes
  have hr := B.returns
  have hts := atoms_spec (ws := wsX6_gyrate) B.pre
  have hown : s.vm.findClass RX6 = some m.cls := findClass_of_methodNamed B.named
  have hlocks := B.notSynchronized
  have iX6 : ∀ w ∈ u_ws RX6 TX6 23, w ∈ wsX6_gyrate := by decide +kernel
  have fl_13 := hts (.fieldLink RX6 13 "AlternateSignsModel" "sign" "[I") (by decide +kernel)
  subst hsz
  have hD := hD0.self (sz := s.heap.size)
  generalize hAe : va_A [oX6 q_t t_length q_t_text t_size q_t_sign t_otherSize q_t_other q_t_before t_undoMany t_readSize q_t_read q_t_side q_t_tall q_t_endRow q_t_endColumn q_t_endSide q_t_gone t_lineRow t_lineColumn t_lineSide t_lineMany q_t_ways q_t_codes q_t_many, aI (G.2 1) q_t_sign 36 t_sign, aI (G.2 1) q_t_before 222 t_before] s.heap.size = A at hD hQ
  have hA : ∀ q : Nat, s.heap.size ≤ q → A q := fun q h => by rw [← hAe]; exact Or.inr h
  have hS : va_S A s.heap s.heap [] := va_S.rf
  have hl := lv_entry ([.ref q_t, .int p1]) (n := 4) (Nat.le_of_ble_eq_true rfl)
  rw [lg_entry_eq]
  generalize (lg_sl ([.ref q_t, .int p1]) ++ List.replicate (4 - (lg_sl ([.ref q_t, .int p1])).length) Slot.unset).toArray = ls at hl ⊢
  have hl : lv_has ls 4 [(0, .ref q_t), (1, .int p1)] := hl
  unfold S_X6_gyrate at hE
  refine lv_iload_n hx hb dX6_gyrate_0 rfl (lv_at hl 1 rfl) ?_
  refine lv_i2l (v := p1.toInt64) hx hb dX6_gyrate_1 rfl ?_
  refine lv_lconst (v := 1) hx hb dX6_gyrate_2 (by decide) ?_
  refine lv_ldc2 (v := 100) hx hb hown (hts (.constantLong RX6 110 (100)) (by decide +kernel)) dX6_gyrate_3 ?_
  obtain ⟨y6, hC_6, hE⟩ := Option.bind_eq_some_iff.mp hE
  obtain ⟨r_6, ex9⟩ : ∃ z, z = y6 := ⟨_, rfl⟩
  subst ex9
  try dsimp only at hE
  refine vp_callSi (va_Run.run (va_runS (As := [.long p1.toInt64, .long (1 : Int64), .long (100 : Int64)]) (rest := []) ⟨hx, hb, hml, hown, hts⟩ (c_X6_in (l := l) (G := G) (p1 := p1.toInt64) (p2 := (1 : Int64)) (p3 := (100 : Int64)) hC_6) (va_cwS 3 hts gX6_gyrate_X6_in rfl rfl rfl kd_X6_in ⟨Nat.le_of_ble_eq_true rfl, Nat.le_of_ble_eq_true rfl⟩) (pv_S hKW (hP.sub (ws' := []) [] rfl)) rfl rfl hl.1 rfl (lv_room (Nat.le_of_ble_eq_true rfl)) dX6_gyrate_6 ⟨Nat.zero_le _, Nat.zero_le _⟩)) (fun r9 hr9 => ?_)
  subst r9
  refine lv_if_ne (tgt := 14) hx hb dX6_gyrate_9 (by decide) (fun c_9 => ?_) (fun c_9 => ?_)
  · replace hE := (if_neg c_9).symm.trans hE
    refine lv_aload_n hx hb dX6_gyrate_14 rfl (lv_at hl 0 rfl) ?_
    obtain ⟨y15, hC_15, hE⟩ := Option.bind_eq_some_iff.mp hE
    obtain ⟨m_15_0, m_15_1⟩ := y15
    try dsimp only at hE
    have hPc := hP.sub (ws' := [oX6 q_t t_length q_t_text t_size q_t_sign t_otherSize q_t_other q_t_before t_undoMany t_readSize q_t_read q_t_side q_t_tall q_t_endRow q_t_endColumn q_t_endSide q_t_gone t_lineRow t_lineColumn t_lineSide t_lineMany q_t_ways q_t_codes q_t_many, aI (G.2 1) q_t_sign 36 t_sign, aI (G.2 1) q_t_before 222 t_before]) [0, 1, 2] rfl
    have hDc := hD.sub (ws' := [oX6 q_t t_length q_t_text t_size q_t_sign t_otherSize q_t_other q_t_before t_undoMany t_readSize q_t_read q_t_side q_t_tall q_t_endRow q_t_endColumn q_t_endSide q_t_gone t_lineRow t_lineColumn t_lineSide t_lineMany q_t_ways q_t_codes q_t_many, aI (G.2 1) q_t_sign 36 t_sign, aI (G.2 1) q_t_before 222 t_before]) [0, 1, 2] (by decide) rfl
    have hFc := va_free (wc := [oX6 q_t t_length q_t_text t_size q_t_sign t_otherSize q_t_other q_t_before t_undoMany t_readSize q_t_read q_t_side q_t_tall q_t_endRow q_t_endColumn q_t_endSide q_t_gone t_lineRow t_lineColumn t_lineSide t_lineMany q_t_ways q_t_codes q_t_many, aI (G.2 1) q_t_sign 36 t_sign, aI (G.2 1) q_t_before 222 t_before]) hD hS hA [0, 1, 2] rfl
    refine va_callv (va_runV (As := []) (rest := []) ⟨hx, hb, hml, hown, hts⟩ (c_X6_note (l := l) (G := G) _ (q_t := q_t) (t_length := t_length) (q_t_text := q_t_text) (t_size := t_size) (q_t_sign := q_t_sign) (t_otherSize := t_otherSize) (q_t_other := q_t_other) (q_t_before := q_t_before) (t_undoMany := t_undoMany) (t_readSize := t_readSize) (q_t_read := q_t_read) (q_t_side := q_t_side) (q_t_tall := q_t_tall) (q_t_endRow := q_t_endRow) (q_t_endColumn := q_t_endColumn) (q_t_endSide := q_t_endSide) (q_t_gone := q_t_gone) (t_lineRow := t_lineRow) (t_lineColumn := t_lineColumn) (t_lineSide := t_lineSide) (t_lineMany := t_lineMany) (q_t_ways := q_t_ways) (q_t_codes := q_t_codes) (q_t_many := q_t_many) (t_sign := t_sign) (t_before := t_before) hC_15) (cwV 0 hts gX6_gyrate_X6_note rfl rfl rfl kd_X6_note ⟨Nat.le_of_ble_eq_true rfl, Nat.le_of_ble_eq_true rfl⟩) (iv_V hKW hPc hDc (ci := 6) (q0 := 0) rfl rfl) rfl rfl hl.1 rfl (lv_room (Nat.le_of_ble_eq_true rfl)) dX6_gyrate_15 ⟨Nat.zero_le _, Nat.zero_le _⟩) hS (fun q _ h => hFc q h) hFc (fun u9 t9 H1 locs ht9 hvm9 hw9 hB9 hz9 hk9 hS => ?_)
    obtain ⟨hP1, hD1⟩ := hB9
    rw [ht9] at hP1
    obtain ⟨hP, hD⟩ := va_join (wr := []) (w1 := [oX6 q_t t_length q_t_text t_size q_t_sign t_otherSize q_t_other q_t_before m_15_0 t_readSize q_t_read q_t_side q_t_tall q_t_endRow q_t_endColumn q_t_endSide q_t_gone t_lineRow t_lineColumn t_lineSide t_lineMany q_t_ways q_t_codes q_t_many, aI (G.2 1) q_t_sign 36 t_sign, aI (G.2 1) q_t_before 222 m_15_1]) hP hD [0, 1, 2] [] rfl rfl (by decide) (by decide) hk9 hFc hP1 hD1
    have hP := hP.sub (ws' := [oX6 q_t t_length q_t_text t_size q_t_sign t_otherSize q_t_other q_t_before m_15_0 t_readSize q_t_read q_t_side q_t_tall q_t_endRow q_t_endColumn q_t_endSide q_t_gone t_lineRow t_lineColumn t_lineSide t_lineMany q_t_ways q_t_codes q_t_many, aI (G.2 1) q_t_sign 36 t_sign, aI (G.2 1) q_t_before 222 m_15_1]) [0, 1, 2] rfl
    have hD := hD.sub (ws' := [oX6 q_t t_length q_t_text t_size q_t_sign t_otherSize q_t_other q_t_before m_15_0 t_readSize q_t_read q_t_side q_t_tall q_t_endRow q_t_endColumn q_t_endSide q_t_gone t_lineRow t_lineColumn t_lineSide t_lineMany q_t_ways q_t_codes q_t_many, aI (G.2 1) q_t_sign 36 t_sign, aI (G.2 1) q_t_before 222 m_15_1]) [0, 1, 2] (by decide) rfl
    clear hPc hDc hFc hP1 hD1 hk9 hz9 hvm9
    refine lv_iconst (v := 0) hx hb dX6_gyrate_18 (by decide) ?_
    refine lv_istore_n (lv' := [(2, .int (0 : Int32)), (0, .ref q_t), (1, .int p1)]) hx hb dX6_gyrate_19 rfl hl (by decide) rfl (fun ls hl => ?_)
    refine lv_iconst (v := 0) hx hb dX6_gyrate_20 (by decide) ?_
    refine lv_istore_n (lv' := [(3, .int (0 : Int32)), (2, .int (0 : Int32)), (0, .ref q_t), (1, .int p1)]) hx hb dX6_gyrate_21 rfl hl (by decide) rfl (fun ls hl => ?_)
    refine itr_ind (fun (x1 : Int32 × Int32 × (Nat → Int32)) => ∀ (H : Heap) (locs : List Loc) (ls : Array Slot), va_P G.1 vwCl [oX6 q_t t_length q_t_text t_size q_t_sign t_otherSize q_t_other q_t_before m_15_0 t_readSize q_t_read q_t_side q_t_tall q_t_endRow q_t_endColumn q_t_endSide q_t_gone t_lineRow t_lineColumn t_lineSide t_lineMany q_t_ways q_t_codes q_t_many, aI (G.2 1) q_t_sign 36 x1.2.2, aI (G.2 1) q_t_before 222 m_15_1] H → va_D A [oX6 q_t t_length q_t_text t_size q_t_sign t_otherSize q_t_other q_t_before m_15_0 t_readSize q_t_read q_t_side q_t_tall q_t_endRow q_t_endColumn q_t_endSide q_t_gone t_lineRow t_lineColumn t_lineSide t_lineMany q_t_ways q_t_codes q_t_many, aI (G.2 1) q_t_sign 36 x1.2.2, aI (G.2 1) q_t_before 222 m_15_1] → va_S A s.heap H locs → lv_has ls 4 [(0, .ref q_t), (1, .int p1), (2, .int x1.1), (3, .int x1.2.1)] → W p l e (headSpec wsX6_gyrate ({ frames := 5, cells := 0, slots := 0, locals := 121 })).room s m ([.ref q_t, .int p1] : List Value).toArray below meth c H locs 0 0 Q (F0 m 22 ls [])) (fun x1 o_1 hE ih_1 hr_1 => ?_) _ _ hE _ _ ls hP hD hS (lv_sub hl [2, 3, 1, 0] rfl)
    obtain ⟨v2_1, v3_1, w_t_sign_1⟩ := x1
    try dsimp only at hE
    intro H locs ls hP hD hS hl
    try dsimp only at hP hD hl ⊢
    refine lv_iload_n hx hb dX6_gyrate_22 rfl (lv_at hl 3 rfl) ?_
    refine lv_iload_n hx hb dX6_gyrate_23 rfl (lv_at hl 1 rfl) ?_
    refine lv_icmp_ge (tgt := 44) hx hb dX6_gyrate_24 (by decide) (fun c_24 => ?_) (fun c_24 => ?_)
    · replace hE := (if_pos c_24).symm.trans hE
      refine lv_iload_n hx hb dX6_gyrate_44 rfl (lv_at hl 2 rfl) ?_
      have e_1 := Option.some.inj hE
      have e_0 := hr_1 _ e_1.symm
      subst e_0
      rw [hQ]
      exact W.iret (v := v2_1) hx hb hr (fun t ht _ => ⟨⟨_, (), rfl, rfl, by rw [ht]; exact hP, hD⟩, hS.F ht⟩) hS.2.2 dX6_gyrate_45
    · replace hE := (if_neg c_24).symm.trans hE
      refine lv_iload_n hx hb dX6_gyrate_27 rfl (lv_at hl 2 rfl) ?_
      refine lv_aload_n hx hb dX6_gyrate_28 rfl (lv_at hl 0 rfl) ?_
      refine lv_aload_n hx hb dX6_gyrate_29 rfl (lv_at hl 0 rfl) ?_
      refine va_get (D := G.1) (ci := 6) (v := .ref q_t_sign) (C := RX6) (T := TX6) (N := 23) hx hb hts iX6 hown hK hP 0 rfl rfl 3 (by decide) fl_13 (fun _ h9 => h9) rfl dX6_gyrate_30 ?_
      obtain ⟨y33, hC_33, hE⟩ := Option.bind_eq_some_iff.mp hE
      obtain ⟨r_33, m_33_0⟩ := y33
      try dsimp only at hE
      have hPc := hP.sub (ws' := [oX6 q_t t_length q_t_text t_size q_t_sign t_otherSize q_t_other q_t_before m_15_0 t_readSize q_t_read q_t_side q_t_tall q_t_endRow q_t_endColumn q_t_endSide q_t_gone t_lineRow t_lineColumn t_lineSide t_lineMany q_t_ways q_t_codes q_t_many, aI (G.2 1) q_t_sign 36 w_t_sign_1]) [0, 1] rfl
      have hDc := hD.sub (ws' := [oX6 q_t t_length q_t_text t_size q_t_sign t_otherSize q_t_other q_t_before m_15_0 t_readSize q_t_read q_t_side q_t_tall q_t_endRow q_t_endColumn q_t_endSide q_t_gone t_lineRow t_lineColumn t_lineSide t_lineMany q_t_ways q_t_codes q_t_many, aI (G.2 1) q_t_sign 36 w_t_sign_1]) [0, 1] (by decide) rfl
      have hFc := va_free (wc := [oX6 q_t t_length q_t_text t_size q_t_sign t_otherSize q_t_other q_t_before m_15_0 t_readSize q_t_read q_t_side q_t_tall q_t_endRow q_t_endColumn q_t_endSide q_t_gone t_lineRow t_lineColumn t_lineSide t_lineMany q_t_ways q_t_codes q_t_many, aI (G.2 1) q_t_sign 36 w_t_sign_1]) hD hS hA [0, 1] rfl
      refine va_calli (va_runV (As := [.ref q_t_sign]) (rest := [.int v2_1]) ⟨hx, hb, hml, hown, hts⟩ (c_X6_gyrates (l := l) (G := G) _ (q_t := q_t) (t_length := t_length) (q_t_text := q_t_text) (t_size := t_size) (q_t_sign := q_t_sign) (t_otherSize := t_otherSize) (q_t_other := q_t_other) (q_t_before := q_t_before) (t_undoMany := m_15_0) (t_readSize := t_readSize) (q_t_read := q_t_read) (q_t_side := q_t_side) (q_t_tall := q_t_tall) (q_t_endRow := q_t_endRow) (q_t_endColumn := q_t_endColumn) (q_t_endSide := q_t_endSide) (q_t_gone := q_t_gone) (t_lineRow := t_lineRow) (t_lineColumn := t_lineColumn) (t_lineSide := t_lineSide) (t_lineMany := t_lineMany) (q_t_ways := q_t_ways) (q_t_codes := q_t_codes) (q_t_many := q_t_many) (q_p1 := q_t_sign) (p1 := w_t_sign_1) hC_33) (cwV 1 hts gX6_gyrate_X6_gyrates rfl rfl rfl kd_X6_gyrates ⟨Nat.le_of_ble_eq_true rfl, Nat.le_of_ble_eq_true rfl⟩) (iv_V hKW hPc hDc (ci := 6) (q0 := 0) rfl rfl) rfl rfl hl.1 rfl (lv_room (Nat.le_of_ble_eq_true rfl)) dX6_gyrate_33 ⟨Nat.zero_le _, Nat.zero_le _⟩) hS (fun q _ h => hFc q h) hFc (fun r9 u9 t9 H1 locs ht9 hvm9 hw9 hB9 hz9 hk9 hS => ?_)
      subst r9
      obtain ⟨hP1, hD1⟩ := hB9
      rw [ht9] at hP1
      obtain ⟨hP, hD⟩ := va_join (wr := [aI (G.2 1) q_t_before 222 m_15_1]) (w1 := [oX6 q_t t_length q_t_text t_size q_t_sign t_otherSize q_t_other q_t_before m_15_0 t_readSize q_t_read q_t_side q_t_tall q_t_endRow q_t_endColumn q_t_endSide q_t_gone t_lineRow t_lineColumn t_lineSide t_lineMany q_t_ways q_t_codes q_t_many, aI (G.2 1) q_t_sign 36 m_33_0]) hP hD [0, 1] [2] rfl rfl (by decide) (by decide) hk9 hFc hP1 hD1
      have hP := hP.sub (ws' := [oX6 q_t t_length q_t_text t_size q_t_sign t_otherSize q_t_other q_t_before m_15_0 t_readSize q_t_read q_t_side q_t_tall q_t_endRow q_t_endColumn q_t_endSide q_t_gone t_lineRow t_lineColumn t_lineSide t_lineMany q_t_ways q_t_codes q_t_many, aI (G.2 1) q_t_sign 36 m_33_0, aI (G.2 1) q_t_before 222 m_15_1]) [1, 2, 0] rfl
      have hD := hD.sub (ws' := [oX6 q_t t_length q_t_text t_size q_t_sign t_otherSize q_t_other q_t_before m_15_0 t_readSize q_t_read q_t_side q_t_tall q_t_endRow q_t_endColumn q_t_endSide q_t_gone t_lineRow t_lineColumn t_lineSide t_lineMany q_t_ways q_t_codes q_t_many, aI (G.2 1) q_t_sign 36 m_33_0, aI (G.2 1) q_t_before 222 m_15_1]) [1, 2, 0] (by decide) rfl
      clear hPc hDc hFc hP1 hD1 hk9 hz9 hvm9
      refine lv_iadd hx hb dX6_gyrate_36 ?_
      refine lv_istore_n (lv' := [(2, .int (v2_1 + r_33)), (0, .ref q_t), (1, .int p1), (3, .int v3_1)]) hx hb dX6_gyrate_37 rfl hl (by decide) rfl (fun ls hl => ?_)
      refine lv_iinc (v := v3_1 + (1 : Int32)) (lv' := [(3, .int (v3_1 + (1 : Int32))), (2, .int (v2_1 + r_33)), (0, .ref q_t), (1, .int p1)]) hx hb dX6_gyrate_38 hl (k := 3) rfl rfl (by decide) rfl (fun ls hl => ?_)
      refine lv_goto (tgt := 22) hx hb dX6_gyrate_41 (by decide) ?_
      have e_1 := Option.some.inj hE
      exact ih_1 _ e_1.symm _ _ ls hP hD hS (lv_sub hl [2, 3, 1, 0] rfl)
  · replace hE := (if_pos c_9).symm.trans hE
    refine lv_iconst (v := -1) hx hb dX6_gyrate_12 (by decide) ?_
    have e_0 := Option.some.inj hE
    subst e_0
    rw [hQ]
    exact W.iret (v := (-1 : Int32)) hx hb hr (fun t ht _ => ⟨⟨_, (), rfl, rfl, by rw [ht]; exact hP, hD⟩, hS.F ht⟩) hS.2.2 dX6_gyrate_13
def S_X6_isOwn (t_size : Int32) (t_sign : Nat → Int32) (p1 : Nat → Int32) : Option Int32 := itr (fun (x1 : Int32 × Int32) => if t_size ≤ x1.2 then ck (x1.1 &&& 1 == x1.1) (some (.inr x1.1)) else itr (fun (x2 : Int32 × Int32) => if t_size ≤ x2.2 then some (.inr (.inl (x2.1, x1.2 + (1 : Int32)))) else if x2.1 = 0 then some (.inl ((0 : Int32), x2.2 + (1 : Int32))) else ck (inb (((6 : Int32) * x1.2) + x2.2) 36) (ck (inb (((6 : Int32) * x1.2) + x2.2) 36) (if (p1 (((6 : Int32) * x1.2) + x2.2).toNatClampNeg) = (t_sign (((6 : Int32) * x1.2) + x2.2).toNatClampNeg) then some (.inl ((1 : Int32), x2.2 + (1 : Int32))) else some (.inl ((0 : Int32), x2.2 + (1 : Int32)))))) 10000 (x1.1, (0 : Int32))) 10000 ((1 : Int32), (0 : Int32))
theorem kd_X6_isOwn : yX6_isOwn.cls = RX6 ∧ yX6_isOwn.cls ≠ "java/lang/invoke/MethodHandle" ∧ yX6_isOwn.cls ≠ "java/lang/invoke/VarHandle" ∧ (parseMethodDescriptor yX6_isOwn.desc).map (fun d => d.parameters.length) = some 1 := by decide +kernel
set_option maxHeartbeats 4000000 in
set_option maxRecDepth 100000 in
theorem c_X6_isOwn {l : Launch} {G : kG} {q_t : Nat} {t_length : Int32} {q_t_text : Nat} {t_size : Int32} {q_t_sign : Nat} {t_otherSize : Int32} {q_t_other : Nat} {q_t_before : Nat} {t_undoMany : Int32} {t_readSize : Int32} {q_t_read : Nat} {q_t_side : Nat} {q_t_tall : Nat} {q_t_endRow : Nat} {q_t_endColumn : Nat} {q_t_endSide : Nat} {q_t_gone : Nat} {t_lineRow : Int32} {t_lineColumn : Int32} {t_lineSide : Int32} {t_lineMany : Int32} {q_t_ways : Nat} {q_t_codes : Nat} {q_t_many : Nat} {t_sign : Nat → Int32} {q_p1 : Nat} {p1 : Nat → Int32} {res : Int32} (hE : S_X6_isOwn t_size t_sign p1 = some res) : Met l yX6_isOwn wsX6_isOwn ({ frames := 0, cells := 0, slots := 0, locals := 0 }) (va_Pc [.ref q_t, .ref q_p1] (fun U => va_P G.1 vwCl [oX6 q_t t_length q_t_text t_size q_t_sign t_otherSize q_t_other q_t_before t_undoMany t_readSize q_t_read q_t_side q_t_tall q_t_endRow q_t_endColumn q_t_endSide q_t_gone t_lineRow t_lineColumn t_lineSide t_lineMany q_t_ways q_t_codes q_t_many, aI (G.2 1) q_t_sign 36 t_sign, aI (G.2 1) q_p1 36 p1] U.heap ∧ kw G U)) (vp_Si (fun r => r = res)) 0 0 (fun _ => False) := by
  refine Met.ofQ (cc := cX6_isOwn) (maxL := 5) (ret := (some .boolean)) (by decide) rfl ?_
  intro p e s m args below meth c s₁ Q hQ B hml hv
  obtain ⟨rfl, hP, hKW⟩ := hv
  have hK := hKW.1
  have hx := B.exec
  have hb := B.bytes
  have hr := B.returns
  have hts := atoms_spec (ws := wsX6_isOwn) B.pre
  have hown : s.vm.findClass RX6 = some m.cls := findClass_of_methodNamed B.named
  have hlocks := B.notSynchronized
  have iX6 : ∀ w ∈ u_ws RX6 TX6 23, w ∈ wsX6_isOwn := by decide +kernel
  have fl_54 := hts (.fieldLink RX6 54 "AlternateSignsModel" "size" "I") (by decide +kernel)
  have fl_13 := hts (.fieldLink RX6 13 "AlternateSignsModel" "sign" "[I") (by decide +kernel)
  have hl := lv_entry ([.ref q_t, .ref q_p1]) (n := 5) (Nat.le_of_ble_eq_true rfl)
  rw [lg_entry_eq]
  generalize (lg_sl ([.ref q_t, .ref q_p1]) ++ List.replicate (5 - (lg_sl ([.ref q_t, .ref q_p1])).length) Slot.unset).toArray = ls at hl ⊢
  have hl : lv_has ls 5 [(0, .ref q_t), (1, .ref q_p1)] := hl
  unfold S_X6_isOwn at hE
  refine lv_iconst (v := 1) hx hb dX6_isOwn_0 (by decide) ?_
  refine lv_istore_n (lv' := [(2, .int (1 : Int32)), (0, .ref q_t), (1, .ref q_p1)]) hx hb dX6_isOwn_1 rfl hl (by decide) rfl (fun ls hl => ?_)
  refine lv_iconst (v := 0) hx hb dX6_isOwn_2 (by decide) ?_
  refine lv_istore_n (lv' := [(3, .int (0 : Int32)), (2, .int (1 : Int32)), (0, .ref q_t), (1, .ref q_p1)]) hx hb dX6_isOwn_3 rfl hl (by decide) rfl (fun ls hl => ?_)
  refine itr_ind (fun (x1 : Int32 × Int32) => ∀ (ls : Array Slot), lv_has ls 5 [(0, .ref q_t), (1, .ref q_p1), (2, .int x1.1), (3, .int x1.2)] → W p l e (headSpec wsX6_isOwn ({ frames := 0, cells := 0, slots := 0, locals := 0 })).room s m ([.ref q_t, .ref q_p1] : List Value).toArray below meth c s.heap [] 0 0 Q (F0 m 4 ls [])) (fun x1 o_1 hE ih_1 hr_1 => ?_) _ _ hE ls (lv_sub hl [2, 3, 1, 0] rfl)
  obtain ⟨v2_1, v3_1⟩ := x1
  try dsimp only at hE
  intro ls hl
  try dsimp only at hl ⊢
  refine lv_iload_n hx hb dX6_isOwn_4 rfl (lv_at hl 3 rfl) ?_
  refine lv_aload_n hx hb dX6_isOwn_5 rfl (lv_at hl 0 rfl) ?_
  refine va_get (D := G.1) (ci := 6) (v := .int t_size) (C := RX6) (T := TX6) (N := 23) hx hb hts iX6 hown hK hP 0 rfl rfl 2 (by decide) fl_54 (fun _ h9 => h9) rfl dX6_isOwn_6 ?_
  refine lv_icmp_ge (tgt := 70) hx hb dX6_isOwn_9 (by decide) (fun c_9 => ?_) (fun c_9 => ?_)
  · replace hE := (if_pos c_9).symm.trans hE
    refine lv_iload_n hx hb dX6_isOwn_70 rfl (lv_at hl 2 rfl) ?_
    obtain ⟨hbo, hE⟩ := ck_some hE
    have e_1 := Option.some.inj hE
    have e_0 := hr_1 _ e_1.symm
    rw [hQ]
    exact W.zret (v := v2_1) hx hb hr (nar_b hbo) (fun t ht _ => ⟨_, rfl, e_0, ht⟩) (fun q h => by cases h) dX6_isOwn_71
  · replace hE := (if_neg c_9).symm.trans hE
    refine lv_iconst (v := 0) hx hb dX6_isOwn_12 (by decide) ?_
    refine lv_istore (lv' := [(4, .int (0 : Int32)), (0, .ref q_t), (1, .ref q_p1), (2, .int v2_1), (3, .int v3_1)]) hx hb dX6_isOwn_13 hl (by decide) rfl (fun ls hl => ?_)
    refine itr_ind (fun (x2 : Int32 × Int32) => ∀ (ls : Array Slot), lv_has ls 5 [(0, .ref q_t), (1, .ref q_p1), (2, .int x2.1), (3, .int v3_1), (4, .int x2.2)] → W p l e (headSpec wsX6_isOwn ({ frames := 0, cells := 0, slots := 0, locals := 0 })).room s m ([.ref q_t, .ref q_p1] : List Value).toArray below meth c s.heap [] 0 0 Q (F0 m 15 ls [])) (fun x2 o_2 hE ih_2 hr_2 => ?_) _ _ hE ls (lv_sub hl [1, 2, 3, 4, 0] rfl)
    obtain ⟨v2_2, v4_2⟩ := x2
    try dsimp only at hE
    intro ls hl
    try dsimp only at hl ⊢
    refine lv_iload hx hb dX6_isOwn_15 (lv_at hl 4 rfl) ?_
    refine lv_aload_n hx hb dX6_isOwn_17 rfl (lv_at hl 0 rfl) ?_
    refine va_get (D := G.1) (ci := 6) (v := .int t_size) (C := RX6) (T := TX6) (N := 23) hx hb hts iX6 hown hK hP 0 rfl rfl 2 (by decide) fl_54 (fun _ h9 => h9) rfl dX6_isOwn_18 ?_
    refine lv_icmp_ge (tgt := 64) hx hb dX6_isOwn_21 (by decide) (fun c_21 => ?_) (fun c_21 => ?_)
    · replace hE := (if_pos c_21).symm.trans hE
      refine lv_iinc (v := v3_1 + (1 : Int32)) (lv' := [(3, .int (v3_1 + (1 : Int32))), (0, .ref q_t), (1, .ref q_p1), (2, .int v2_2), (4, .int v4_2)]) hx hb dX6_isOwn_64 hl (k := 3) rfl rfl (by decide) rfl (fun ls hl => ?_)
      refine lv_goto (tgt := 4) hx hb dX6_isOwn_67 (by decide) ?_
      have e_2 := Option.some.inj hE
      have e_1 := hr_2 _ e_2.symm
      exact ih_1 _ e_1.symm ls (lv_sub hl [1, 2, 3, 0] rfl)
    · replace hE := (if_neg c_21).symm.trans hE
      refine lv_iload_n hx hb dX6_isOwn_24 rfl (lv_at hl 2 rfl) ?_
      refine lv_if_eq (tgt := 56) hx hb dX6_isOwn_25 (by decide) (fun c_25 => ?_) (fun c_25 => ?_)
      · replace hE := (if_pos c_25).symm.trans hE
        refine lv_iconst (v := 0) hx hb dX6_isOwn_56 (by decide) ?_
        refine lv_istore_n (lv' := [(2, .int (0 : Int32)), (0, .ref q_t), (1, .ref q_p1), (3, .int v3_1), (4, .int v4_2)]) hx hb dX6_isOwn_57 rfl hl (by decide) rfl (fun ls hl => ?_)
        refine lv_iinc (v := v4_2 + (1 : Int32)) (lv' := [(4, .int (v4_2 + (1 : Int32))), (2, .int (0 : Int32)), (0, .ref q_t), (1, .ref q_p1), (3, .int v3_1)]) hx hb dX6_isOwn_58 hl (k := 4) rfl rfl (by decide) rfl (fun ls hl => ?_)
        refine lv_goto (tgt := 15) hx hb dX6_isOwn_61 (by decide) ?_
        have e_2 := Option.some.inj hE
        exact ih_2 _ e_2.symm ls (lv_sub hl [2, 3, 1, 4, 0] rfl)
      · replace hE := (if_neg c_25).symm.trans hE
        refine lv_aload_n hx hb dX6_isOwn_28 rfl (lv_at hl 1 rfl) ?_
        refine lv_bipush (v := 6) hx hb dX6_isOwn_29 (by decide) ?_
        refine lv_iload_n hx hb dX6_isOwn_31 rfl (lv_at hl 3 rfl) ?_
        refine lv_imul hx hb dX6_isOwn_32 ?_
        refine lv_iload hx hb dX6_isOwn_33 (lv_at hl 4 rfl) ?_
        refine lv_iadd hx hb dX6_isOwn_35 ?_
        obtain ⟨hi_36, hE⟩ := ck_some hE
        refine va_iald hx hb hK hP 2 1 rfl rfl (inb_in hi_36) dX6_isOwn_36 ?_
        refine lv_aload_n hx hb dX6_isOwn_37 rfl (lv_at hl 0 rfl) ?_
        refine va_get (D := G.1) (ci := 6) (v := .ref q_t_sign) (C := RX6) (T := TX6) (N := 23) hx hb hts iX6 hown hK hP 0 rfl rfl 3 (by decide) fl_13 (fun _ h9 => h9) rfl dX6_isOwn_38 ?_
        refine lv_bipush (v := 6) hx hb dX6_isOwn_41 (by decide) ?_
        refine lv_iload_n hx hb dX6_isOwn_43 rfl (lv_at hl 3 rfl) ?_
        refine lv_imul hx hb dX6_isOwn_44 ?_
        refine lv_iload hx hb dX6_isOwn_45 (lv_at hl 4 rfl) ?_
        refine lv_iadd hx hb dX6_isOwn_47 ?_
        obtain ⟨hi_48, hE⟩ := ck_some hE
        refine va_iald hx hb hK hP 1 1 rfl rfl (inb_in hi_48) dX6_isOwn_48 ?_
        refine lv_icmp_ne (tgt := 56) hx hb dX6_isOwn_49 (by decide) (fun c_49 => ?_) (fun c_49 => ?_)
        · replace hE := (if_neg c_49).symm.trans hE
          refine lv_iconst (v := 0) hx hb dX6_isOwn_56 (by decide) ?_
          refine lv_istore_n (lv' := [(2, .int (0 : Int32)), (0, .ref q_t), (1, .ref q_p1), (3, .int v3_1), (4, .int v4_2)]) hx hb dX6_isOwn_57 rfl hl (by decide) rfl (fun ls hl => ?_)
          refine lv_iinc (v := v4_2 + (1 : Int32)) (lv' := [(4, .int (v4_2 + (1 : Int32))), (2, .int (0 : Int32)), (0, .ref q_t), (1, .ref q_p1), (3, .int v3_1)]) hx hb dX6_isOwn_58 hl (k := 4) rfl rfl (by decide) rfl (fun ls hl => ?_)
          refine lv_goto (tgt := 15) hx hb dX6_isOwn_61 (by decide) ?_
          have e_2 := Option.some.inj hE
          exact ih_2 _ e_2.symm ls (lv_sub hl [2, 3, 1, 4, 0] rfl)
        · replace hE := (if_pos c_49).symm.trans hE
          refine lv_iconst (v := 1) hx hb dX6_isOwn_52 (by decide) ?_
          refine lv_goto (tgt := 57) hx hb dX6_isOwn_53 (by decide) ?_
          refine lv_istore_n (lv' := [(2, .int (1 : Int32)), (0, .ref q_t), (1, .ref q_p1), (3, .int v3_1), (4, .int v4_2)]) hx hb dX6_isOwn_57 rfl hl (by decide) rfl (fun ls hl => ?_)
          refine lv_iinc (v := v4_2 + (1 : Int32)) (lv' := [(4, .int (v4_2 + (1 : Int32))), (2, .int (1 : Int32)), (0, .ref q_t), (1, .ref q_p1), (3, .int v3_1)]) hx hb dX6_isOwn_58 hl (k := 4) rfl rfl (by decide) rfl (fun ls hl => ?_)
          refine lv_goto (tgt := 15) hx hb dX6_isOwn_61 (by decide) ?_
          have e_2 := Option.some.inj hE
          exact ih_2 _ e_2.symm ls (lv_sub hl [2, 3, 1, 4, 0] rfl)
def S_X6_orbit (t_size : Int32) (t_sign : Nat → Int32) (t_side : Nat → Int32) : Option (Int32 × (Nat → Int32)) := (S_X6_copy t_sign t_side).bind (fun (y8 : Nat → Int32) => itr (fun (x1 : Int32 × Int32 × (Nat → Int32)) => if x1.2.1 = 0 then some (.inr (x1.1, x1.2.2)) else (S_X6_gyrates t_size x1.2.2).bind (fun (y24 : Int32 × (Nat → Int32)) => (S_X6_isOwn t_size t_sign y24.2).bind (fun (y36 : Int32) => if y36 = 0 then some (.inl (x1.1 + (1 : Int32), (1 : Int32), y24.2)) else some (.inl (x1.1 + (1 : Int32), (0 : Int32), y24.2))))) 10000 ((0 : Int32), (1 : Int32), y8))
theorem kd_X6_orbit : yX6_orbit.cls = RX6 ∧ yX6_orbit.cls ≠ "java/lang/invoke/MethodHandle" ∧ yX6_orbit.cls ≠ "java/lang/invoke/VarHandle" ∧ (parseMethodDescriptor yX6_orbit.desc).map (fun d => d.parameters.length) = some 0 := by decide +kernel
set_option maxHeartbeats 4000000 in
set_option maxRecDepth 100000 in
theorem c_X6_orbit {l : Launch} {G : kG} (sz : Nat) {q_t : Nat} {t_length : Int32} {q_t_text : Nat} {t_size : Int32} {q_t_sign : Nat} {t_otherSize : Int32} {q_t_other : Nat} {q_t_before : Nat} {t_undoMany : Int32} {t_readSize : Int32} {q_t_read : Nat} {q_t_side : Nat} {q_t_tall : Nat} {q_t_endRow : Nat} {q_t_endColumn : Nat} {q_t_endSide : Nat} {q_t_gone : Nat} {t_lineRow : Int32} {t_lineColumn : Int32} {t_lineSide : Int32} {t_lineMany : Int32} {q_t_ways : Nat} {q_t_codes : Nat} {q_t_many : Nat} {t_sign : Nat → Int32} {t_side : Nat → Int32} {res : Int32 × (Nat → Int32)} (hE : S_X6_orbit t_size t_sign t_side = some res) : Met l yX6_orbit wsX6_orbit ({ frames := 5, cells := 0, slots := 0, locals := 121 }) (va_Pc [.ref q_t] (fun U => U.heap.size = sz ∧ va_P G.1 vwCl [oX6 q_t t_length q_t_text t_size q_t_sign t_otherSize q_t_other q_t_before t_undoMany t_readSize q_t_read q_t_side q_t_tall q_t_endRow q_t_endColumn q_t_endSide q_t_gone t_lineRow t_lineColumn t_lineSide t_lineMany q_t_ways q_t_codes q_t_many, aI (G.2 1) q_t_sign 36 t_sign, aI (G.2 1) q_t_side 36 t_side] U.heap ∧ kw G U ∧ va_D (fun _ => True) [oX6 q_t t_length q_t_text t_size q_t_sign t_otherSize q_t_other q_t_before t_undoMany t_readSize q_t_read q_t_side q_t_tall q_t_endRow q_t_endColumn q_t_endSide q_t_gone t_lineRow t_lineColumn t_lineSide t_lineMany q_t_ways q_t_codes q_t_many, aI (G.2 1) q_t_sign 36 t_sign, aI (G.2 1) q_t_side 36 t_side])) (va_Qi (fun r (_ : Unit) => r = res.1) (fun _ t => va_P G.1 vwCl [oX6 q_t t_length q_t_text t_size q_t_sign t_otherSize q_t_other q_t_before t_undoMany t_readSize q_t_read q_t_side q_t_tall q_t_endRow q_t_endColumn q_t_endSide q_t_gone t_lineRow t_lineColumn t_lineSide t_lineMany q_t_ways q_t_codes q_t_many, aI (G.2 1) q_t_sign 36 t_sign, aI (G.2 1) q_t_side 36 res.2] t.heap ∧ va_D (va_A [oX6 q_t t_length q_t_text t_size q_t_sign t_otherSize q_t_other q_t_before t_undoMany t_readSize q_t_read q_t_side q_t_tall q_t_endRow q_t_endColumn q_t_endSide q_t_gone t_lineRow t_lineColumn t_lineSide t_lineMany q_t_ways q_t_codes q_t_many, aI (G.2 1) q_t_sign 36 t_sign, aI (G.2 1) q_t_side 36 t_side] sz) [oX6 q_t t_length q_t_text t_size q_t_sign t_otherSize q_t_other q_t_before t_undoMany t_readSize q_t_read q_t_side q_t_tall q_t_endRow q_t_endColumn q_t_endSide q_t_gone t_lineRow t_lineColumn t_lineSide t_lineMany q_t_ways q_t_codes q_t_many, aI (G.2 1) q_t_sign 36 t_sign, aI (G.2 1) q_t_side 36 res.2]) (va_A [oX6 q_t t_length q_t_text t_size q_t_sign t_otherSize q_t_other q_t_before t_undoMany t_readSize q_t_read q_t_side q_t_tall q_t_endRow q_t_endColumn q_t_endSide q_t_gone t_lineRow t_lineColumn t_lineSide t_lineMany q_t_ways q_t_codes q_t_many, aI (G.2 1) q_t_sign 36 t_sign, aI (G.2 1) q_t_side 36 t_side] sz)) 0 0 (va_A [oX6 q_t t_length q_t_text t_size q_t_sign t_otherSize q_t_other q_t_before t_undoMany t_readSize q_t_read q_t_side q_t_tall q_t_endRow q_t_endColumn q_t_endSide q_t_gone t_lineRow t_lineColumn t_lineSide t_lineMany q_t_ways q_t_codes q_t_many, aI (G.2 1) q_t_sign 36 t_sign, aI (G.2 1) q_t_side 36 t_side] sz) := by
  refine Met.ofQ (cc := cX6_orbit) (maxL := 3) (ret := (some .int)) (by decide) rfl ?_
  intro p e s m args below meth c s₁ Q hQ B hml hv
  obtain ⟨rfl, hsz, hP, hKW, hD0⟩ := hv
  have hK := hKW.1
  have hx := B.exec
  have hb := B.bytes
  have hr := B.returns
  have hts := atoms_spec (ws := wsX6_orbit) B.pre
  have hown : s.vm.findClass RX6 = some m.cls := findClass_of_methodNamed B.named
  have hlocks := B.notSynchronized
  have iX6 : ∀ w ∈ u_ws RX6 TX6 23, w ∈ wsX6_orbit := by decide +kernel
  have fl_13 := hts (.fieldLink RX6 13 "AlternateSignsModel" "sign" "[I") (by decide +kernel)
  have fl_25 := hts (.fieldLink RX6 25 "AlternateSignsModel" "side" "[I") (by decide +kernel)
  subst hsz
  have hD := hD0.self (sz := s.heap.size)
  generalize hAe : va_A [oX6 q_t t_length q_t_text t_size q_t_sign t_otherSize q_t_other q_t_before t_undoMany t_readSize q_t_read q_t_side q_t_tall q_t_endRow q_t_endColumn q_t_endSide q_t_gone t_lineRow t_lineColumn t_lineSide t_lineMany q_t_ways q_t_codes q_t_many, aI (G.2 1) q_t_sign 36 t_sign, aI (G.2 1) q_t_side 36 t_side] s.heap.size = A at hD hQ
  have hA : ∀ q : Nat, s.heap.size ≤ q → A q := fun q h => by rw [← hAe]; exact Or.inr h
  have hS : va_S A s.heap s.heap [] := va_S.rf
  have hl := lv_entry ([.ref q_t]) (n := 3) (Nat.le_of_ble_eq_true rfl)
  rw [lg_entry_eq]
  generalize (lg_sl ([.ref q_t]) ++ List.replicate (3 - (lg_sl ([.ref q_t])).length) Slot.unset).toArray = ls at hl ⊢
  have hl : lv_has ls 3 [(0, .ref q_t)] := hl
  unfold S_X6_orbit at hE
  refine lv_aload_n hx hb dX6_orbit_0 rfl (lv_at hl 0 rfl) ?_
  refine va_get (D := G.1) (ci := 6) (v := .ref q_t_sign) (C := RX6) (T := TX6) (N := 23) hx hb hts iX6 hown hK hP 0 rfl rfl 3 (by decide) fl_13 (fun _ h9 => h9) rfl dX6_orbit_1 ?_
  refine lv_aload_n hx hb dX6_orbit_4 rfl (lv_at hl 0 rfl) ?_
  refine va_get (D := G.1) (ci := 6) (v := .ref q_t_side) (C := RX6) (T := TX6) (N := 23) hx hb hts iX6 hown hK hP 0 rfl rfl 10 (by decide) fl_25 (fun _ h9 => h9) rfl dX6_orbit_5 ?_
  obtain ⟨y8, hC_8, hE⟩ := Option.bind_eq_some_iff.mp hE
  obtain ⟨m_8_0, ex9⟩ : ∃ z, z = y8 := ⟨_, rfl⟩
  subst ex9
  try dsimp only at hE
  have hPc := hP.sub (ws' := [aI (G.2 1) q_t_sign 36 t_sign, aI (G.2 1) q_t_side 36 t_side]) [1, 2] rfl
  have hDc := hD.sub (ws' := [aI (G.2 1) q_t_sign 36 t_sign, aI (G.2 1) q_t_side 36 t_side]) [1, 2] (by decide) rfl
  have hFc := va_free (wc := [aI (G.2 1) q_t_sign 36 t_sign, aI (G.2 1) q_t_side 36 t_side]) hD hS hA [1, 2] rfl
  refine va_callv (va_runS (As := [.ref q_t_sign, .ref q_t_side]) (rest := []) ⟨hx, hb, hml, hown, hts⟩ (c_X6_copy (l := l) (G := G) _ (q_p1 := q_t_sign) (p1 := t_sign) (q_p2 := q_t_side) (p2 := t_side) hC_8) (va_cwS 2 hts gX6_orbit_X6_copy rfl rfl rfl kd_X6_copy ⟨Nat.le_of_ble_eq_true rfl, Nat.le_of_ble_eq_true rfl⟩) (iv_S hKW hPc hDc) rfl rfl hl.1 rfl (lv_room (Nat.le_of_ble_eq_true rfl)) dX6_orbit_8 ⟨Nat.zero_le _, Nat.zero_le _⟩) hS (fun q _ h => hFc q h) hFc (fun u9 t9 H1 locs ht9 hvm9 hw9 hB9 hz9 hk9 hS => ?_)
  obtain ⟨hP1, hD1⟩ := hB9
  rw [ht9] at hP1
  obtain ⟨hP, hD⟩ := va_join (wr := [oX6 q_t t_length q_t_text t_size q_t_sign t_otherSize q_t_other q_t_before t_undoMany t_readSize q_t_read q_t_side q_t_tall q_t_endRow q_t_endColumn q_t_endSide q_t_gone t_lineRow t_lineColumn t_lineSide t_lineMany q_t_ways q_t_codes q_t_many]) (w1 := [aI (G.2 1) q_t_sign 36 t_sign, aI (G.2 1) q_t_side 36 m_8_0]) hP hD [1, 2] [0] rfl rfl (by decide) (by decide) hk9 hFc hP1 hD1
  have hP := hP.sub (ws' := [oX6 q_t t_length q_t_text t_size q_t_sign t_otherSize q_t_other q_t_before t_undoMany t_readSize q_t_read q_t_side q_t_tall q_t_endRow q_t_endColumn q_t_endSide q_t_gone t_lineRow t_lineColumn t_lineSide t_lineMany q_t_ways q_t_codes q_t_many, aI (G.2 1) q_t_sign 36 t_sign, aI (G.2 1) q_t_side 36 m_8_0]) [0, 1, 2] rfl
  have hD := hD.sub (ws' := [oX6 q_t t_length q_t_text t_size q_t_sign t_otherSize q_t_other q_t_before t_undoMany t_readSize q_t_read q_t_side q_t_tall q_t_endRow q_t_endColumn q_t_endSide q_t_gone t_lineRow t_lineColumn t_lineSide t_lineMany q_t_ways q_t_codes q_t_many, aI (G.2 1) q_t_sign 36 t_sign, aI (G.2 1) q_t_side 36 m_8_0]) [0, 1, 2] (by decide) rfl
  clear hPc hDc hFc hP1 hD1 hk9 hz9 hvm9
  refine lv_iconst (v := 0) hx hb dX6_orbit_11 (by decide) ?_
  refine lv_istore_n (lv' := [(1, .int (0 : Int32)), (0, .ref q_t)]) hx hb dX6_orbit_12 rfl hl (by decide) rfl (fun ls hl => ?_)
  refine lv_iconst (v := 1) hx hb dX6_orbit_13 (by decide) ?_
  refine lv_istore_n (lv' := [(2, .int (1 : Int32)), (1, .int (0 : Int32)), (0, .ref q_t)]) hx hb dX6_orbit_14 rfl hl (by decide) rfl (fun ls hl => ?_)
  refine itr_ind (fun (x1 : Int32 × Int32 × (Nat → Int32)) => ∀ (H : Heap) (locs : List Loc) (ls : Array Slot), va_P G.1 vwCl [oX6 q_t t_length q_t_text t_size q_t_sign t_otherSize q_t_other q_t_before t_undoMany t_readSize q_t_read q_t_side q_t_tall q_t_endRow q_t_endColumn q_t_endSide q_t_gone t_lineRow t_lineColumn t_lineSide t_lineMany q_t_ways q_t_codes q_t_many, aI (G.2 1) q_t_sign 36 t_sign, aI (G.2 1) q_t_side 36 x1.2.2] H → va_D A [oX6 q_t t_length q_t_text t_size q_t_sign t_otherSize q_t_other q_t_before t_undoMany t_readSize q_t_read q_t_side q_t_tall q_t_endRow q_t_endColumn q_t_endSide q_t_gone t_lineRow t_lineColumn t_lineSide t_lineMany q_t_ways q_t_codes q_t_many, aI (G.2 1) q_t_sign 36 t_sign, aI (G.2 1) q_t_side 36 x1.2.2] → va_S A s.heap H locs → lv_has ls 3 [(0, .ref q_t), (1, .int x1.1), (2, .int x1.2.1)] → W p l e (headSpec wsX6_orbit ({ frames := 5, cells := 0, slots := 0, locals := 121 })).room s m ([.ref q_t] : List Value).toArray below meth c H locs 0 0 Q (F0 m 15 ls [])) (fun x1 o_1 hE ih_1 hr_1 => ?_) _ _ hE _ _ ls hP hD hS (lv_sub hl [2, 1, 0] rfl)
  obtain ⟨v1_1, v2_1, w_t_side_1⟩ := x1
  try dsimp only at hE
  intro H locs ls hP hD hS hl
  try dsimp only at hP hD hl ⊢
  refine lv_iload_n hx hb dX6_orbit_15 rfl (lv_at hl 2 rfl) ?_
  refine lv_if_eq (tgt := 51) hx hb dX6_orbit_16 (by decide) (fun c_16 => ?_) (fun c_16 => ?_)
  · replace hE := (if_pos c_16).symm.trans hE
    refine lv_iload_n hx hb dX6_orbit_51 rfl (lv_at hl 1 rfl) ?_
    have e_1 := Option.some.inj hE
    have e_0 := hr_1 _ e_1.symm
    subst e_0
    rw [hQ]
    exact W.iret (v := v1_1) hx hb hr (fun t ht _ => ⟨⟨_, (), rfl, rfl, by rw [ht]; exact hP, hD⟩, hS.F ht⟩) hS.2.2 dX6_orbit_52
  · replace hE := (if_neg c_16).symm.trans hE
    refine lv_aload_n hx hb dX6_orbit_19 rfl (lv_at hl 0 rfl) ?_
    refine lv_aload_n hx hb dX6_orbit_20 rfl (lv_at hl 0 rfl) ?_
    refine va_get (D := G.1) (ci := 6) (v := .ref q_t_side) (C := RX6) (T := TX6) (N := 23) hx hb hts iX6 hown hK hP 0 rfl rfl 10 (by decide) fl_25 (fun _ h9 => h9) rfl dX6_orbit_21 ?_
    obtain ⟨y24, hC_24, hE⟩ := Option.bind_eq_some_iff.mp hE
    obtain ⟨r_24, m_24_0⟩ := y24
    try dsimp only at hE
    have hPc := hP.sub (ws' := [oX6 q_t t_length q_t_text t_size q_t_sign t_otherSize q_t_other q_t_before t_undoMany t_readSize q_t_read q_t_side q_t_tall q_t_endRow q_t_endColumn q_t_endSide q_t_gone t_lineRow t_lineColumn t_lineSide t_lineMany q_t_ways q_t_codes q_t_many, aI (G.2 1) q_t_side 36 w_t_side_1]) [0, 2] rfl
    have hDc := hD.sub (ws' := [oX6 q_t t_length q_t_text t_size q_t_sign t_otherSize q_t_other q_t_before t_undoMany t_readSize q_t_read q_t_side q_t_tall q_t_endRow q_t_endColumn q_t_endSide q_t_gone t_lineRow t_lineColumn t_lineSide t_lineMany q_t_ways q_t_codes q_t_many, aI (G.2 1) q_t_side 36 w_t_side_1]) [0, 2] (by decide) rfl
    have hFc := va_free (wc := [oX6 q_t t_length q_t_text t_size q_t_sign t_otherSize q_t_other q_t_before t_undoMany t_readSize q_t_read q_t_side q_t_tall q_t_endRow q_t_endColumn q_t_endSide q_t_gone t_lineRow t_lineColumn t_lineSide t_lineMany q_t_ways q_t_codes q_t_many, aI (G.2 1) q_t_side 36 w_t_side_1]) hD hS hA [0, 2] rfl
    refine va_calli (va_runV (As := [.ref q_t_side]) (rest := []) ⟨hx, hb, hml, hown, hts⟩ (c_X6_gyrates (l := l) (G := G) _ (q_t := q_t) (t_length := t_length) (q_t_text := q_t_text) (t_size := t_size) (q_t_sign := q_t_sign) (t_otherSize := t_otherSize) (q_t_other := q_t_other) (q_t_before := q_t_before) (t_undoMany := t_undoMany) (t_readSize := t_readSize) (q_t_read := q_t_read) (q_t_side := q_t_side) (q_t_tall := q_t_tall) (q_t_endRow := q_t_endRow) (q_t_endColumn := q_t_endColumn) (q_t_endSide := q_t_endSide) (q_t_gone := q_t_gone) (t_lineRow := t_lineRow) (t_lineColumn := t_lineColumn) (t_lineSide := t_lineSide) (t_lineMany := t_lineMany) (q_t_ways := q_t_ways) (q_t_codes := q_t_codes) (q_t_many := q_t_many) (q_p1 := q_t_side) (p1 := w_t_side_1) hC_24) (cwV 1 hts gX6_orbit_X6_gyrates rfl rfl rfl kd_X6_gyrates ⟨Nat.le_of_ble_eq_true rfl, Nat.le_of_ble_eq_true rfl⟩) (iv_V hKW hPc hDc (ci := 6) (q0 := 0) rfl rfl) rfl rfl hl.1 rfl (lv_room (Nat.le_of_ble_eq_true rfl)) dX6_orbit_24 ⟨Nat.zero_le _, Nat.zero_le _⟩) hS (fun q _ h => hFc q h) hFc (fun r9 u9 t9 H1 locs ht9 hvm9 hw9 hB9 hz9 hk9 hS => ?_)
    subst r9
    obtain ⟨hP1, hD1⟩ := hB9
    rw [ht9] at hP1
    obtain ⟨hP, hD⟩ := va_join (wr := [aI (G.2 1) q_t_sign 36 t_sign]) (w1 := [oX6 q_t t_length q_t_text t_size q_t_sign t_otherSize q_t_other q_t_before t_undoMany t_readSize q_t_read q_t_side q_t_tall q_t_endRow q_t_endColumn q_t_endSide q_t_gone t_lineRow t_lineColumn t_lineSide t_lineMany q_t_ways q_t_codes q_t_many, aI (G.2 1) q_t_side 36 m_24_0]) hP hD [0, 2] [1] rfl rfl (by decide) (by decide) hk9 hFc hP1 hD1
    have hP := hP.sub (ws' := [oX6 q_t t_length q_t_text t_size q_t_sign t_otherSize q_t_other q_t_before t_undoMany t_readSize q_t_read q_t_side q_t_tall q_t_endRow q_t_endColumn q_t_endSide q_t_gone t_lineRow t_lineColumn t_lineSide t_lineMany q_t_ways q_t_codes q_t_many, aI (G.2 1) q_t_sign 36 t_sign, aI (G.2 1) q_t_side 36 m_24_0]) [1, 0, 2] rfl
    have hD := hD.sub (ws' := [oX6 q_t t_length q_t_text t_size q_t_sign t_otherSize q_t_other q_t_before t_undoMany t_readSize q_t_read q_t_side q_t_tall q_t_endRow q_t_endColumn q_t_endSide q_t_gone t_lineRow t_lineColumn t_lineSide t_lineMany q_t_ways q_t_codes q_t_many, aI (G.2 1) q_t_sign 36 t_sign, aI (G.2 1) q_t_side 36 m_24_0]) [1, 0, 2] (by decide) rfl
    clear hPc hDc hFc hP1 hD1 hk9 hz9 hvm9
    refine lv_pop hx hb dX6_orbit_27 rfl ?_
    refine lv_iinc (v := v1_1 + (1 : Int32)) (lv' := [(1, .int (v1_1 + (1 : Int32))), (0, .ref q_t), (2, .int v2_1)]) hx hb dX6_orbit_28 hl (k := 1) rfl rfl (by decide) rfl (fun ls hl => ?_)
    refine lv_aload_n hx hb dX6_orbit_31 rfl (lv_at hl 1 rfl) ?_
    refine lv_aload_n hx hb dX6_orbit_32 rfl (lv_at hl 1 rfl) ?_
    refine va_get (D := G.1) (ci := 6) (v := .ref q_t_side) (C := RX6) (T := TX6) (N := 23) hx hb hts iX6 hown hK hP 0 rfl rfl 10 (by decide) fl_25 (fun _ h9 => h9) rfl dX6_orbit_33 ?_
    obtain ⟨y36, hC_36, hE⟩ := Option.bind_eq_some_iff.mp hE
    obtain ⟨r_36, ex9⟩ : ∃ z, z = y36 := ⟨_, rfl⟩
    subst ex9
    try dsimp only at hE
    refine vp_callSi (va_Run.run (va_runV (As := [.ref q_t_side]) (rest := []) ⟨hx, hb, hml, hown, hts⟩ (c_X6_isOwn (l := l) (G := G) (q_t := q_t) (t_length := t_length) (q_t_text := q_t_text) (t_size := t_size) (q_t_sign := q_t_sign) (t_otherSize := t_otherSize) (q_t_other := q_t_other) (q_t_before := q_t_before) (t_undoMany := t_undoMany) (t_readSize := t_readSize) (q_t_read := q_t_read) (q_t_side := q_t_side) (q_t_tall := q_t_tall) (q_t_endRow := q_t_endRow) (q_t_endColumn := q_t_endColumn) (q_t_endSide := q_t_endSide) (q_t_gone := q_t_gone) (t_lineRow := t_lineRow) (t_lineColumn := t_lineColumn) (t_lineSide := t_lineSide) (t_lineMany := t_lineMany) (q_t_ways := q_t_ways) (q_t_codes := q_t_codes) (q_t_many := q_t_many) (t_sign := t_sign) (q_p1 := q_t_side) (p1 := m_24_0) hC_36) (cwV 1 hts gX6_orbit_X6_isOwn rfl rfl rfl kd_X6_isOwn ⟨Nat.le_of_ble_eq_true rfl, Nat.le_of_ble_eq_true rfl⟩) (pv_V hKW (hP.sub (ws' := [oX6 q_t t_length q_t_text t_size q_t_sign t_otherSize q_t_other q_t_before t_undoMany t_readSize q_t_read q_t_side q_t_tall q_t_endRow q_t_endColumn q_t_endSide q_t_gone t_lineRow t_lineColumn t_lineSide t_lineMany q_t_ways q_t_codes q_t_many, aI (G.2 1) q_t_sign 36 t_sign, aI (G.2 1) q_t_side 36 m_24_0]) [0, 1, 2] rfl) (ci := 6) (q0 := 0) rfl rfl) rfl rfl hl.1 rfl (lv_room (Nat.le_of_ble_eq_true rfl)) dX6_orbit_36 ⟨Nat.zero_le _, Nat.zero_le _⟩)) (fun r9 hr9 => ?_)
    subst r9
    refine lv_if_ne (tgt := 46) hx hb dX6_orbit_39 (by decide) (fun c_39 => ?_) (fun c_39 => ?_)
    · replace hE := (if_neg c_39).symm.trans hE
      refine lv_iconst (v := 0) hx hb dX6_orbit_46 (by decide) ?_
      refine lv_istore_n (lv' := [(2, .int (0 : Int32)), (1, .int (v1_1 + (1 : Int32))), (0, .ref q_t)]) hx hb dX6_orbit_47 rfl hl (by decide) rfl (fun ls hl => ?_)
      refine lv_goto (tgt := 15) hx hb dX6_orbit_48 (by decide) ?_
      have e_1 := Option.some.inj hE
      exact ih_1 _ e_1.symm _ _ ls hP hD hS (lv_sub hl [2, 1, 0] rfl)
    · replace hE := (if_pos c_39).symm.trans hE
      refine lv_iconst (v := 1) hx hb dX6_orbit_42 (by decide) ?_
      refine lv_goto (tgt := 47) hx hb dX6_orbit_43 (by decide) ?_
      refine lv_istore_n (lv' := [(2, .int (1 : Int32)), (1, .int (v1_1 + (1 : Int32))), (0, .ref q_t)]) hx hb dX6_orbit_47 rfl hl (by decide) rfl (fun ls hl => ?_)
      refine lv_goto (tgt := 15) hx hb dX6_orbit_48 (by decide) ?_
      have e_1 := Option.some.inj hE
      exact ih_1 _ e_1.symm _ _ ls hP hD hS (lv_sub hl [2, 1, 0] rfl)
def S_X6_far (p1 : Int32) : Option Int32 := if 0 ≤ p1 then some p1 else some (- p1)
theorem kd_X6_far : yX6_far.cls ≠ "java/lang/invoke/MethodHandle" ∧ yX6_far.cls ≠ "java/lang/invoke/VarHandle" ∧ (parseMethodDescriptor yX6_far.desc).map (fun d => d.parameters.length) = some 1 := by decide +kernel
set_option maxHeartbeats 4000000 in
set_option maxRecDepth 100000 in
theorem c_X6_far {l : Launch} {G : kG} {p1 : Int32} {res : Int32} (hE : S_X6_far p1 = some res) : Met l yX6_far wsX6_far ({ frames := 0, cells := 0, slots := 0, locals := 0 }) (va_Pc [.int p1] (fun U => va_P G.1 vwCl [] U.heap ∧ kw G U)) (vp_Si (fun r => r = res)) 0 0 (fun _ => False) := by
  refine Met.ofQ (cc := cX6_far) (maxL := 1) (ret := (some .int)) (by decide) rfl ?_
  intro p e s m args below meth c s₁ Q hQ B hml hv
  obtain ⟨rfl, hP, hKW⟩ := hv
  have hK := hKW.1
  have hx := B.exec
  have hb := B.bytes
  have hr := B.returns
  have hts := atoms_spec (ws := wsX6_far) B.pre
  have hown : s.vm.findClass RX6 = some m.cls := findClass_of_methodNamed B.named
  have hlocks := B.notSynchronized
  have hl := lv_entry ([.int p1]) (n := 1) (Nat.le_of_ble_eq_true rfl)
  rw [lg_entry_eq]
  generalize (lg_sl ([.int p1]) ++ List.replicate (1 - (lg_sl ([.int p1])).length) Slot.unset).toArray = ls at hl ⊢
  have hl : lv_has ls 1 [(0, .int p1)] := hl
  unfold S_X6_far at hE
  refine lv_iload_n hx hb dX6_far_0 rfl (lv_at hl 0 rfl) ?_
  refine lv_if_ge (tgt := 9) hx hb dX6_far_1 (by decide) (fun c_1 => ?_) (fun c_1 => ?_)
  · replace hE := (if_pos c_1).symm.trans hE
    refine lv_iload_n hx hb dX6_far_9 rfl (lv_at hl 0 rfl) ?_
    have e_0 := Option.some.inj hE
    rw [hQ]
    exact W.iret (v := p1) hx hb hr (fun t ht _ => ⟨_, rfl, e_0, ht⟩) (fun q h => by cases h) dX6_far_10
  · replace hE := (if_neg c_1).symm.trans hE
    refine lv_iload_n hx hb dX6_far_4 rfl (lv_at hl 0 rfl) ?_
    refine lv_ineg hx hb dX6_far_5 ?_
    refine lv_goto (tgt := 10) hx hb dX6_far_6 (by decide) ?_
    have e_0 := Option.some.inj hE
    rw [hQ]
    exact W.iret (v := - p1) hx hb hr (fun t ht _ => ⟨_, rfl, e_0, ht⟩) (fun q h => by cases h) dX6_far_10
def S_X6_apart (t_size : Int32) (t_otherSize : Int32) (t_sign : Nat → Int32) (t_other : Nat → Int32) : Option Int32 := if t_otherSize = t_size then itr (fun (x1 : Int32 × Int32) => if t_size < x1.2 then some (.inr (x1.1 / (2 : Int32))) else itr (fun (x2 : Int32 × Int32) => if t_size < x2.2 then some (.inr (.inl (x2.1, x1.2 + (1 : Int32)))) else (S_X6_heightOf x1.2 x2.2 t_sign).bind (fun (y43 : Int32) => (S_X6_heightOf x1.2 x2.2 t_other).bind (fun (y52 : Int32) => (S_X6_far (y43 - y52)).bind (fun (y56 : Int32) => some (.inl (x2.1 + y56, x2.2 + (1 : Int32))))))) 10000 (x1.1, (0 : Int32))) 10000 ((0 : Int32), (0 : Int32)) else some (-2 : Int32)
theorem kd_X6_apart : yX6_apart.cls = RX6 ∧ yX6_apart.cls ≠ "java/lang/invoke/MethodHandle" ∧ yX6_apart.cls ≠ "java/lang/invoke/VarHandle" ∧ (parseMethodDescriptor yX6_apart.desc).map (fun d => d.parameters.length) = some 0 := by decide +kernel
set_option maxHeartbeats 4000000 in
set_option maxRecDepth 100000 in
theorem c_X6_apart {l : Launch} {G : kG} {q_t : Nat} {t_length : Int32} {q_t_text : Nat} {t_size : Int32} {q_t_sign : Nat} {t_otherSize : Int32} {q_t_other : Nat} {q_t_before : Nat} {t_undoMany : Int32} {t_readSize : Int32} {q_t_read : Nat} {q_t_side : Nat} {q_t_tall : Nat} {q_t_endRow : Nat} {q_t_endColumn : Nat} {q_t_endSide : Nat} {q_t_gone : Nat} {t_lineRow : Int32} {t_lineColumn : Int32} {t_lineSide : Int32} {t_lineMany : Int32} {q_t_ways : Nat} {q_t_codes : Nat} {q_t_many : Nat} {t_sign : Nat → Int32} {t_other : Nat → Int32} {res : Int32} (hE : S_X6_apart t_size t_otherSize t_sign t_other = some res) : Met l yX6_apart wsX6_apart ({ frames := 2, cells := 0, slots := 0, locals := 47 }) (va_Pc [.ref q_t] (fun U => va_P G.1 vwCl [oX6 q_t t_length q_t_text t_size q_t_sign t_otherSize q_t_other q_t_before t_undoMany t_readSize q_t_read q_t_side q_t_tall q_t_endRow q_t_endColumn q_t_endSide q_t_gone t_lineRow t_lineColumn t_lineSide t_lineMany q_t_ways q_t_codes q_t_many, aI (G.2 1) q_t_sign 36 t_sign, aI (G.2 1) q_t_other 36 t_other] U.heap ∧ kw G U)) (vp_Si (fun r => r = res)) 0 0 (fun _ => False) := by
  refine Met.ofQ (cc := cX6_apart) (maxL := 4) (ret := (some .int)) (by decide) rfl ?_
  intro p e s m args below meth c s₁ Q hQ B hml hv
  obtain ⟨rfl, hP, hKW⟩ := hv
  have hK := hKW.1
  have hx := B.exec
  have hb := B.bytes
  have hr := B.returns
  have hts := atoms_spec (ws := wsX6_apart) B.pre
  have hown : s.vm.findClass RX6 = some m.cls := findClass_of_methodNamed B.named
  have hlocks := B.notSynchronized
  have iX6 : ∀ w ∈ u_ws RX6 TX6 23, w ∈ wsX6_apart := by decide +kernel
  have fl_83 := hts (.fieldLink RX6 83 "AlternateSignsModel" "otherSize" "I") (by decide +kernel)
  have fl_54 := hts (.fieldLink RX6 54 "AlternateSignsModel" "size" "I") (by decide +kernel)
  have fl_13 := hts (.fieldLink RX6 13 "AlternateSignsModel" "sign" "[I") (by decide +kernel)
  have fl_16 := hts (.fieldLink RX6 16 "AlternateSignsModel" "other" "[I") (by decide +kernel)
  have hl := lv_entry ([.ref q_t]) (n := 4) (Nat.le_of_ble_eq_true rfl)
  rw [lg_entry_eq]
  generalize (lg_sl ([.ref q_t]) ++ List.replicate (4 - (lg_sl ([.ref q_t])).length) Slot.unset).toArray = ls at hl ⊢
  have hl : lv_has ls 4 [(0, .ref q_t)] := hl
  unfold S_X6_apart at hE
  refine lv_aload_n hx hb dX6_apart_0 rfl (lv_at hl 0 rfl) ?_
  refine va_get (D := G.1) (ci := 6) (v := .int t_otherSize) (C := RX6) (T := TX6) (N := 23) hx hb hts iX6 hown hK hP 0 rfl rfl 4 (by decide) fl_83 (fun _ h9 => h9) rfl dX6_apart_1 ?_
  refine lv_aload_n hx hb dX6_apart_4 rfl (lv_at hl 0 rfl) ?_
  refine va_get (D := G.1) (ci := 6) (v := .int t_size) (C := RX6) (T := TX6) (N := 23) hx hb hts iX6 hown hK hP 0 rfl rfl 2 (by decide) fl_54 (fun _ h9 => h9) rfl dX6_apart_5 ?_
  refine lv_icmp_eq (tgt := 14) hx hb dX6_apart_8 (by decide) (fun c_8 => ?_) (fun c_8 => ?_)
  · replace hE := (if_pos c_8).symm.trans hE
    refine lv_iconst (v := 0) hx hb dX6_apart_14 (by decide) ?_
    refine lv_istore_n (lv' := [(1, .int (0 : Int32)), (0, .ref q_t)]) hx hb dX6_apart_15 rfl hl (by decide) rfl (fun ls hl => ?_)
    refine lv_iconst (v := 0) hx hb dX6_apart_16 (by decide) ?_
    refine lv_istore_n (lv' := [(2, .int (0 : Int32)), (1, .int (0 : Int32)), (0, .ref q_t)]) hx hb dX6_apart_17 rfl hl (by decide) rfl (fun ls hl => ?_)
    refine itr_ind (fun (x1 : Int32 × Int32) => ∀ (ls : Array Slot), lv_has ls 4 [(0, .ref q_t), (1, .int x1.1), (2, .int x1.2)] → W p l e (headSpec wsX6_apart ({ frames := 2, cells := 0, slots := 0, locals := 47 })).room s m ([.ref q_t] : List Value).toArray below meth c s.heap [] 0 0 Q (F0 m 18 ls [])) (fun x1 o_1 hE ih_1 hr_1 => ?_) _ _ hE ls (lv_sub hl [2, 1, 0] rfl)
    obtain ⟨v1_1, v2_1⟩ := x1
    try dsimp only at hE
    intro ls hl
    try dsimp only at hl ⊢
    refine lv_iload_n hx hb dX6_apart_18 rfl (lv_at hl 2 rfl) ?_
    refine lv_aload_n hx hb dX6_apart_19 rfl (lv_at hl 0 rfl) ?_
    refine va_get (D := G.1) (ci := 6) (v := .int t_size) (C := RX6) (T := TX6) (N := 23) hx hb hts iX6 hown hK hP 0 rfl rfl 2 (by decide) fl_54 (fun _ h9 => h9) rfl dX6_apart_20 ?_
    refine lv_icmp_gt (tgt := 73) hx hb dX6_apart_23 (by decide) (fun c_23 => ?_) (fun c_23 => ?_)
    · replace hE := (if_pos c_23).symm.trans hE
      refine lv_iload_n hx hb dX6_apart_73 rfl (lv_at hl 1 rfl) ?_
      refine lv_iconst (v := 2) hx hb dX6_apart_74 (by decide) ?_
      refine lv_idiv hx hb dX6_apart_75 (by decide) ?_
      have e_1 := Option.some.inj hE
      have e_0 := hr_1 _ e_1.symm
      rw [hQ]
      exact W.iret (v := v1_1 / (2 : Int32)) hx hb hr (fun t ht _ => ⟨_, rfl, e_0, ht⟩) (fun q h => by cases h) dX6_apart_76
    · replace hE := (if_neg c_23).symm.trans hE
      refine lv_iconst (v := 0) hx hb dX6_apart_26 (by decide) ?_
      refine lv_istore_n (lv' := [(3, .int (0 : Int32)), (0, .ref q_t), (1, .int v1_1), (2, .int v2_1)]) hx hb dX6_apart_27 rfl hl (by decide) rfl (fun ls hl => ?_)
      refine itr_ind (fun (x2 : Int32 × Int32) => ∀ (ls : Array Slot), lv_has ls 4 [(0, .ref q_t), (1, .int x2.1), (2, .int v2_1), (3, .int x2.2)] → W p l e (headSpec wsX6_apart ({ frames := 2, cells := 0, slots := 0, locals := 47 })).room s m ([.ref q_t] : List Value).toArray below meth c s.heap [] 0 0 Q (F0 m 28 ls [])) (fun x2 o_2 hE ih_2 hr_2 => ?_) _ _ hE ls (lv_sub hl [1, 2, 3, 0] rfl)
      obtain ⟨v1_2, v3_2⟩ := x2
      try dsimp only at hE
      intro ls hl
      try dsimp only at hl ⊢
      refine lv_iload_n hx hb dX6_apart_28 rfl (lv_at hl 3 rfl) ?_
      refine lv_aload_n hx hb dX6_apart_29 rfl (lv_at hl 0 rfl) ?_
      refine va_get (D := G.1) (ci := 6) (v := .int t_size) (C := RX6) (T := TX6) (N := 23) hx hb hts iX6 hown hK hP 0 rfl rfl 2 (by decide) fl_54 (fun _ h9 => h9) rfl dX6_apart_30 ?_
      refine lv_icmp_gt (tgt := 67) hx hb dX6_apart_33 (by decide) (fun c_33 => ?_) (fun c_33 => ?_)
      · replace hE := (if_pos c_33).symm.trans hE
        refine lv_iinc (v := v2_1 + (1 : Int32)) (lv' := [(2, .int (v2_1 + (1 : Int32))), (0, .ref q_t), (1, .int v1_2), (3, .int v3_2)]) hx hb dX6_apart_67 hl (k := 2) rfl rfl (by decide) rfl (fun ls hl => ?_)
        refine lv_goto (tgt := 18) hx hb dX6_apart_70 (by decide) ?_
        have e_2 := Option.some.inj hE
        have e_1 := hr_2 _ e_2.symm
        exact ih_1 _ e_1.symm ls (lv_sub hl [1, 2, 0] rfl)
      · replace hE := (if_neg c_33).symm.trans hE
        refine lv_iload_n hx hb dX6_apart_36 rfl (lv_at hl 1 rfl) ?_
        refine lv_aload_n hx hb dX6_apart_37 rfl (lv_at hl 0 rfl) ?_
        refine va_get (D := G.1) (ci := 6) (v := .ref q_t_sign) (C := RX6) (T := TX6) (N := 23) hx hb hts iX6 hown hK hP 0 rfl rfl 3 (by decide) fl_13 (fun _ h9 => h9) rfl dX6_apart_38 ?_
        refine lv_iload_n hx hb dX6_apart_41 rfl (lv_at hl 2 rfl) ?_
        refine lv_iload_n hx hb dX6_apart_42 rfl (lv_at hl 3 rfl) ?_
        obtain ⟨y43, hC_43, hE⟩ := Option.bind_eq_some_iff.mp hE
        obtain ⟨r_43, ex9⟩ : ∃ z, z = y43 := ⟨_, rfl⟩
        subst ex9
        try dsimp only at hE
        refine vp_callSi (va_Run.run (va_runS (As := [.ref q_t_sign, .int v2_1, .int v3_2]) (rest := [.int v1_2]) ⟨hx, hb, hml, hown, hts⟩ (c_X6_heightOf (l := l) (G := G) (p2 := v2_1) (p3 := v3_2) (q_p1 := q_t_sign) (p1 := t_sign) hC_43) (va_cwS 3 hts gX6_apart_X6_heightOf rfl rfl rfl kd_X6_heightOf ⟨Nat.le_of_ble_eq_true rfl, Nat.le_of_ble_eq_true rfl⟩) (pv_S hKW (hP.sub (ws' := [aI (G.2 1) q_t_sign 36 t_sign]) [1] rfl)) rfl rfl hl.1 rfl (lv_room (Nat.le_of_ble_eq_true rfl)) dX6_apart_43 ⟨Nat.zero_le _, Nat.zero_le _⟩)) (fun r9 hr9 => ?_)
        subst r9
        refine lv_aload_n hx hb dX6_apart_46 rfl (lv_at hl 0 rfl) ?_
        refine va_get (D := G.1) (ci := 6) (v := .ref q_t_other) (C := RX6) (T := TX6) (N := 23) hx hb hts iX6 hown hK hP 0 rfl rfl 5 (by decide) fl_16 (fun _ h9 => h9) rfl dX6_apart_47 ?_
        refine lv_iload_n hx hb dX6_apart_50 rfl (lv_at hl 2 rfl) ?_
        refine lv_iload_n hx hb dX6_apart_51 rfl (lv_at hl 3 rfl) ?_
        obtain ⟨y52, hC_52, hE⟩ := Option.bind_eq_some_iff.mp hE
        obtain ⟨r_52, ex9⟩ : ∃ z, z = y52 := ⟨_, rfl⟩
        subst ex9
        try dsimp only at hE
        refine vp_callSi (va_Run.run (va_runS (As := [.ref q_t_other, .int v2_1, .int v3_2]) (rest := [.int r_43, .int v1_2]) ⟨hx, hb, hml, hown, hts⟩ (c_X6_heightOf (l := l) (G := G) (p2 := v2_1) (p3 := v3_2) (q_p1 := q_t_other) (p1 := t_other) hC_52) (va_cwS 3 hts gX6_apart_X6_heightOf rfl rfl rfl kd_X6_heightOf ⟨Nat.le_of_ble_eq_true rfl, Nat.le_of_ble_eq_true rfl⟩) (pv_S hKW (hP.sub (ws' := [aI (G.2 1) q_t_other 36 t_other]) [2] rfl)) rfl rfl hl.1 rfl (lv_room (Nat.le_of_ble_eq_true rfl)) dX6_apart_52 ⟨Nat.zero_le _, Nat.zero_le _⟩)) (fun r9 hr9 => ?_)
        subst r9
        refine lv_isub hx hb dX6_apart_55 ?_
        obtain ⟨y56, hC_56, hE⟩ := Option.bind_eq_some_iff.mp hE
        obtain ⟨r_56, ex9⟩ : ∃ z, z = y56 := ⟨_, rfl⟩
        subst ex9
        try dsimp only at hE
        refine vp_callSi (va_Run.run (va_runS (As := [.int (r_43 - r_52)]) (rest := [.int v1_2]) ⟨hx, hb, hml, hown, hts⟩ (c_X6_far (l := l) (G := G) (p1 := r_43 - r_52) hC_56) (va_cwS 1 hts gX6_apart_X6_far rfl rfl rfl kd_X6_far ⟨Nat.le_of_ble_eq_true rfl, Nat.le_of_ble_eq_true rfl⟩) (pv_S hKW (hP.sub (ws' := []) [] rfl)) rfl rfl hl.1 rfl (lv_room (Nat.le_of_ble_eq_true rfl)) dX6_apart_56 ⟨Nat.zero_le _, Nat.zero_le _⟩)) (fun r9 hr9 => ?_)
        subst r9
        refine lv_iadd hx hb dX6_apart_59 ?_
        refine lv_istore_n (lv' := [(1, .int (v1_2 + r_56)), (0, .ref q_t), (2, .int v2_1), (3, .int v3_2)]) hx hb dX6_apart_60 rfl hl (by decide) rfl (fun ls hl => ?_)
        refine lv_iinc (v := v3_2 + (1 : Int32)) (lv' := [(3, .int (v3_2 + (1 : Int32))), (1, .int (v1_2 + r_56)), (0, .ref q_t), (2, .int v2_1)]) hx hb dX6_apart_61 hl (k := 3) rfl rfl (by decide) rfl (fun ls hl => ?_)
        refine lv_goto (tgt := 28) hx hb dX6_apart_64 (by decide) ?_
        have e_2 := Option.some.inj hE
        exact ih_2 _ e_2.symm ls (lv_sub hl [2, 1, 3, 0] rfl)
  · replace hE := (if_neg c_8).symm.trans hE
    refine lv_bipush (v := -2) hx hb dX6_apart_11 (by decide) ?_
    have e_0 := Option.some.inj hE
    rw [hQ]
    exact W.iret (v := (-2 : Int32)) hx hb hr (fun t ht _ => ⟨_, rfl, e_0, ht⟩) (fun q h => by cases h) dX6_apart_13
def S_X6_next (t_size : Int32) (t_otherSize : Int32) (t_sign : Nat → Int32) (t_other : Nat → Int32) : Option Int32 := if t_otherSize = t_size then itr (fun (x1 : Int32) => if t_size ≤ x1 then some (.inr (-4 : Int32)) else itr (fun (x2 : Int32) => if t_size ≤ x2 then some (.inr (.inl (x1 + (1 : Int32)))) else (S_X6_heightOf x1 x2 t_other).bind (fun (y40 : Int32) => (S_X6_heightOf x1 x2 t_sign).bind (fun (y49 : Int32) => (S_X6_mayBe x1 x2 t_sign).bind (fun (y60 : Int32) => jn (if y60 = (1 : Int32) then if 0 < (y40 - y49) then some (.inr (.inr (.inr (((10 : Int32) * x1) + x2)))) else some (.inl ()) else some (.inl ())) (fun (x3 : Unit) => if y60 = (2 : Int32) then if 0 ≤ (y40 - y49) then some (.inl (x2 + (1 : Int32))) else some (.inr (.inr (((10 : Int32) * x1) + x2))) else some (.inl (x2 + (1 : Int32)))))))) 10000 (1 : Int32)) 10000 (1 : Int32) else some (-2 : Int32)
theorem kd_X6_next : yX6_next.cls = RX6 ∧ yX6_next.cls ≠ "java/lang/invoke/MethodHandle" ∧ yX6_next.cls ≠ "java/lang/invoke/VarHandle" ∧ (parseMethodDescriptor yX6_next.desc).map (fun d => d.parameters.length) = some 0 := by decide +kernel
set_option maxHeartbeats 4000000 in
set_option maxRecDepth 100000 in
theorem c_X6_next {l : Launch} {G : kG} {q_t : Nat} {t_length : Int32} {q_t_text : Nat} {t_size : Int32} {q_t_sign : Nat} {t_otherSize : Int32} {q_t_other : Nat} {q_t_before : Nat} {t_undoMany : Int32} {t_readSize : Int32} {q_t_read : Nat} {q_t_side : Nat} {q_t_tall : Nat} {q_t_endRow : Nat} {q_t_endColumn : Nat} {q_t_endSide : Nat} {q_t_gone : Nat} {t_lineRow : Int32} {t_lineColumn : Int32} {t_lineSide : Int32} {t_lineMany : Int32} {q_t_ways : Nat} {q_t_codes : Nat} {q_t_many : Nat} {t_sign : Nat → Int32} {t_other : Nat → Int32} {res : Int32} (hE : S_X6_next t_size t_otherSize t_sign t_other = some res) : Met l yX6_next wsX6_next ({ frames := 3, cells := 0, slots := 0, locals := 72 }) (va_Pc [.ref q_t] (fun U => va_P G.1 vwCl [oX6 q_t t_length q_t_text t_size q_t_sign t_otherSize q_t_other q_t_before t_undoMany t_readSize q_t_read q_t_side q_t_tall q_t_endRow q_t_endColumn q_t_endSide q_t_gone t_lineRow t_lineColumn t_lineSide t_lineMany q_t_ways q_t_codes q_t_many, aI (G.2 1) q_t_sign 36 t_sign, aI (G.2 1) q_t_other 36 t_other] U.heap ∧ kw G U)) (vp_Si (fun r => r = res)) 0 0 (fun _ => False) := by
  refine Met.ofQ (cc := cX6_next) (maxL := 5) (ret := (some .int)) (by decide) rfl ?_
  intro p e s m args below meth c s₁ Q hQ B hml hv
  obtain ⟨rfl, hP, hKW⟩ := hv
  have hK := hKW.1
  have hx := B.exec
  have hb := B.bytes
  have hr := B.returns
  have hts := atoms_spec (ws := wsX6_next) B.pre
  have hown : s.vm.findClass RX6 = some m.cls := findClass_of_methodNamed B.named
  have hlocks := B.notSynchronized
  have iX6 : ∀ w ∈ u_ws RX6 TX6 23, w ∈ wsX6_next := by decide +kernel
  have fl_83 := hts (.fieldLink RX6 83 "AlternateSignsModel" "otherSize" "I") (by decide +kernel)
  have fl_54 := hts (.fieldLink RX6 54 "AlternateSignsModel" "size" "I") (by decide +kernel)
  have fl_16 := hts (.fieldLink RX6 16 "AlternateSignsModel" "other" "[I") (by decide +kernel)
  have fl_13 := hts (.fieldLink RX6 13 "AlternateSignsModel" "sign" "[I") (by decide +kernel)
  have hl := lv_entry ([.ref q_t]) (n := 5) (Nat.le_of_ble_eq_true rfl)
  rw [lg_entry_eq]
  generalize (lg_sl ([.ref q_t]) ++ List.replicate (5 - (lg_sl ([.ref q_t])).length) Slot.unset).toArray = ls at hl ⊢
  have hl : lv_has ls 5 [(0, .ref q_t)] := hl
  unfold S_X6_next at hE
  refine lv_aload_n hx hb dX6_next_0 rfl (lv_at hl 0 rfl) ?_
  refine va_get (D := G.1) (ci := 6) (v := .int t_otherSize) (C := RX6) (T := TX6) (N := 23) hx hb hts iX6 hown hK hP 0 rfl rfl 4 (by decide) fl_83 (fun _ h9 => h9) rfl dX6_next_1 ?_
  refine lv_aload_n hx hb dX6_next_4 rfl (lv_at hl 0 rfl) ?_
  refine va_get (D := G.1) (ci := 6) (v := .int t_size) (C := RX6) (T := TX6) (N := 23) hx hb hts iX6 hown hK hP 0 rfl rfl 2 (by decide) fl_54 (fun _ h9 => h9) rfl dX6_next_5 ?_
  refine lv_icmp_eq (tgt := 14) hx hb dX6_next_8 (by decide) (fun c_8 => ?_) (fun c_8 => ?_)
  · replace hE := (if_pos c_8).symm.trans hE
    refine lv_iconst (v := 1) hx hb dX6_next_14 (by decide) ?_
    refine lv_istore_n (lv' := [(1, .int (1 : Int32)), (0, .ref q_t)]) hx hb dX6_next_15 rfl hl (by decide) rfl (fun ls hl => ?_)
    refine itr_ind (fun (x1 : Int32) => ∀ (ls : Array Slot), lv_has ls 5 [(0, .ref q_t), (1, .int x1)] → W p l e (headSpec wsX6_next ({ frames := 3, cells := 0, slots := 0, locals := 72 })).room s m ([.ref q_t] : List Value).toArray below meth c s.heap [] 0 0 Q (F0 m 16 ls [])) (fun x1 o_1 hE ih_1 hr_1 => ?_) _ _ hE ls (lv_sub hl [1, 0] rfl)
    obtain ⟨v1_1, ex9⟩ : ∃ z, z = x1 := ⟨_, rfl⟩
    subst ex9
    try dsimp only at hE
    intro ls hl
    try dsimp only at hl ⊢
    refine lv_iload_n hx hb dX6_next_16 rfl (lv_at hl 1 rfl) ?_
    refine lv_aload_n hx hb dX6_next_17 rfl (lv_at hl 0 rfl) ?_
    refine va_get (D := G.1) (ci := 6) (v := .int t_size) (C := RX6) (T := TX6) (N := 23) hx hb hts iX6 hown hK hP 0 rfl rfl 2 (by decide) fl_54 (fun _ h9 => h9) rfl dX6_next_18 ?_
    refine lv_icmp_ge (tgt := 104) hx hb dX6_next_21 (by decide) (fun c_21 => ?_) (fun c_21 => ?_)
    · replace hE := (if_pos c_21).symm.trans hE
      refine lv_bipush (v := -4) hx hb dX6_next_104 (by decide) ?_
      have e_1 := Option.some.inj hE
      have e_0 := hr_1 _ e_1.symm
      rw [hQ]
      exact W.iret (v := (-4 : Int32)) hx hb hr (fun t ht _ => ⟨_, rfl, e_0, ht⟩) (fun q h => by cases h) dX6_next_106
    · replace hE := (if_neg c_21).symm.trans hE
      refine lv_iconst (v := 1) hx hb dX6_next_24 (by decide) ?_
      refine lv_istore_n (lv' := [(2, .int (1 : Int32)), (0, .ref q_t), (1, .int v1_1)]) hx hb dX6_next_25 rfl hl (by decide) rfl (fun ls hl => ?_)
      refine itr_ind (fun (x2 : Int32) => ∀ (ls : Array Slot), lv_has ls 5 [(0, .ref q_t), (1, .int v1_1), (2, .int x2)] → W p l e (headSpec wsX6_next ({ frames := 3, cells := 0, slots := 0, locals := 72 })).room s m ([.ref q_t] : List Value).toArray below meth c s.heap [] 0 0 Q (F0 m 26 ls [])) (fun x2 o_2 hE ih_2 hr_2 => ?_) _ _ hE ls (lv_sub hl [1, 2, 0] rfl)
      obtain ⟨v2_2, ex9⟩ : ∃ z, z = x2 := ⟨_, rfl⟩
      subst ex9
      try dsimp only at hE
      intro ls hl
      try dsimp only at hl ⊢
      refine lv_iload_n hx hb dX6_next_26 rfl (lv_at hl 2 rfl) ?_
      refine lv_aload_n hx hb dX6_next_27 rfl (lv_at hl 0 rfl) ?_
      refine va_get (D := G.1) (ci := 6) (v := .int t_size) (C := RX6) (T := TX6) (N := 23) hx hb hts iX6 hown hK hP 0 rfl rfl 2 (by decide) fl_54 (fun _ h9 => h9) rfl dX6_next_28 ?_
      refine lv_icmp_ge (tgt := 98) hx hb dX6_next_31 (by decide) (fun c_31 => ?_) (fun c_31 => ?_)
      · replace hE := (if_pos c_31).symm.trans hE
        refine lv_iinc (v := v1_1 + (1 : Int32)) (lv' := [(1, .int (v1_1 + (1 : Int32))), (0, .ref q_t), (2, .int v2_2)]) hx hb dX6_next_98 hl (k := 1) rfl rfl (by decide) rfl (fun ls hl => ?_)
        refine lv_goto (tgt := 16) hx hb dX6_next_101 (by decide) ?_
        have e_2 := Option.some.inj hE
        have e_1 := hr_2 _ e_2.symm
        exact ih_1 _ e_1.symm ls (lv_sub hl [1, 0] rfl)
      · replace hE := (if_neg c_31).symm.trans hE
        refine lv_aload_n hx hb dX6_next_34 rfl (lv_at hl 0 rfl) ?_
        refine va_get (D := G.1) (ci := 6) (v := .ref q_t_other) (C := RX6) (T := TX6) (N := 23) hx hb hts iX6 hown hK hP 0 rfl rfl 5 (by decide) fl_16 (fun _ h9 => h9) rfl dX6_next_35 ?_
        refine lv_iload_n hx hb dX6_next_38 rfl (lv_at hl 1 rfl) ?_
        refine lv_iload_n hx hb dX6_next_39 rfl (lv_at hl 2 rfl) ?_
        obtain ⟨y40, hC_40, hE⟩ := Option.bind_eq_some_iff.mp hE
        obtain ⟨r_40, ex9⟩ : ∃ z, z = y40 := ⟨_, rfl⟩
        subst ex9
        try dsimp only at hE
        refine vp_callSi (va_Run.run (va_runS (As := [.ref q_t_other, .int v1_1, .int v2_2]) (rest := []) ⟨hx, hb, hml, hown, hts⟩ (c_X6_heightOf (l := l) (G := G) (p2 := v1_1) (p3 := v2_2) (q_p1 := q_t_other) (p1 := t_other) hC_40) (va_cwS 3 hts gX6_next_X6_heightOf rfl rfl rfl kd_X6_heightOf ⟨Nat.le_of_ble_eq_true rfl, Nat.le_of_ble_eq_true rfl⟩) (pv_S hKW (hP.sub (ws' := [aI (G.2 1) q_t_other 36 t_other]) [2] rfl)) rfl rfl hl.1 rfl (lv_room (Nat.le_of_ble_eq_true rfl)) dX6_next_40 ⟨Nat.zero_le _, Nat.zero_le _⟩)) (fun r9 hr9 => ?_)
        subst r9
        refine lv_aload_n hx hb dX6_next_43 rfl (lv_at hl 0 rfl) ?_
        refine va_get (D := G.1) (ci := 6) (v := .ref q_t_sign) (C := RX6) (T := TX6) (N := 23) hx hb hts iX6 hown hK hP 0 rfl rfl 3 (by decide) fl_13 (fun _ h9 => h9) rfl dX6_next_44 ?_
        refine lv_iload_n hx hb dX6_next_47 rfl (lv_at hl 1 rfl) ?_
        refine lv_iload_n hx hb dX6_next_48 rfl (lv_at hl 2 rfl) ?_
        obtain ⟨y49, hC_49, hE⟩ := Option.bind_eq_some_iff.mp hE
        obtain ⟨r_49, ex9⟩ : ∃ z, z = y49 := ⟨_, rfl⟩
        subst ex9
        try dsimp only at hE
        refine vp_callSi (va_Run.run (va_runS (As := [.ref q_t_sign, .int v1_1, .int v2_2]) (rest := [.int r_40]) ⟨hx, hb, hml, hown, hts⟩ (c_X6_heightOf (l := l) (G := G) (p2 := v1_1) (p3 := v2_2) (q_p1 := q_t_sign) (p1 := t_sign) hC_49) (va_cwS 3 hts gX6_next_X6_heightOf rfl rfl rfl kd_X6_heightOf ⟨Nat.le_of_ble_eq_true rfl, Nat.le_of_ble_eq_true rfl⟩) (pv_S hKW (hP.sub (ws' := [aI (G.2 1) q_t_sign 36 t_sign]) [1] rfl)) rfl rfl hl.1 rfl (lv_room (Nat.le_of_ble_eq_true rfl)) dX6_next_49 ⟨Nat.zero_le _, Nat.zero_le _⟩)) (fun r9 hr9 => ?_)
        subst r9
        refine lv_isub hx hb dX6_next_52 ?_
        refine lv_istore_n (lv' := [(3, .int (r_40 - r_49)), (0, .ref q_t), (1, .int v1_1), (2, .int v2_2)]) hx hb dX6_next_53 rfl hl (by decide) rfl (fun ls hl => ?_)
        refine lv_aload_n hx hb dX6_next_54 rfl (lv_at hl 1 rfl) ?_
        refine va_get (D := G.1) (ci := 6) (v := .ref q_t_sign) (C := RX6) (T := TX6) (N := 23) hx hb hts iX6 hown hK hP 0 rfl rfl 3 (by decide) fl_13 (fun _ h9 => h9) rfl dX6_next_55 ?_
        refine lv_iload_n hx hb dX6_next_58 rfl (lv_at hl 2 rfl) ?_
        refine lv_iload_n hx hb dX6_next_59 rfl (lv_at hl 3 rfl) ?_
        obtain ⟨y60, hC_60, hE⟩ := Option.bind_eq_some_iff.mp hE
        obtain ⟨r_60, ex9⟩ : ∃ z, z = y60 := ⟨_, rfl⟩
        subst ex9
        try dsimp only at hE
        refine vp_callSi (va_Run.run (va_runS (As := [.ref q_t_sign, .int v1_1, .int v2_2]) (rest := []) ⟨hx, hb, hml, hown, hts⟩ (c_X6_mayBe (l := l) (G := G) (p2 := v1_1) (p3 := v2_2) (q_p1 := q_t_sign) (p1 := t_sign) hC_60) (va_cwS 3 hts gX6_next_X6_mayBe rfl rfl rfl kd_X6_mayBe ⟨Nat.le_of_ble_eq_true rfl, Nat.le_of_ble_eq_true rfl⟩) (pv_S hKW (hP.sub (ws' := [aI (G.2 1) q_t_sign 36 t_sign]) [1] rfl)) rfl rfl hl.1 rfl (lv_room (Nat.le_of_ble_eq_true rfl)) dX6_next_60 ⟨Nat.zero_le _, Nat.zero_le _⟩)) (fun r9 hr9 => ?_)
        subst r9
        refine lv_istore (lv' := [(4, .int r_60), (3, .int (r_40 - r_49)), (0, .ref q_t), (1, .int v1_1), (2, .int v2_2)]) hx hb dX6_next_63 hl (by decide) rfl (fun ls hl => ?_)
        refine lv_iload hx hb dX6_next_65 (lv_at hl 0 rfl) ?_
        refine lv_iconst (v := 1) hx hb dX6_next_67 (by decide) ?_
        obtain ⟨o_3, hEp, hk9, hr_3⟩ := jn_some hE
        have ih_3 : ∀ (x3 : Unit), o_3 = .inl x3 → ∀ (ls : Array Slot), lv_has ls 5 [(0, .ref q_t), (1, .int v1_1), (2, .int v2_2), (3, .int (r_40 - r_49)), (4, .int r_60)] → W p l e (headSpec wsX6_next ({ frames := 3, cells := 0, slots := 0, locals := 72 })).room s m ([.ref q_t] : List Value).toArray below meth c s.heap [] 0 0 Q (F0 m 75 ls []) := by
          intro x3 ho9
          have hE := hk9 _ ho9
          try dsimp only at hE
          intro ls hl
          try dsimp only at hl ⊢
          refine lv_iload hx hb dX6_next_75 (lv_at hl 4 rfl) ?_
          refine lv_iconst (v := 2) hx hb dX6_next_77 (by decide) ?_
          refine lv_icmp_ne (tgt := 92) hx hb dX6_next_78 (by decide) (fun c_78 => ?_) (fun c_78 => ?_)
          · replace hE := (if_neg c_78).symm.trans hE
            refine lv_iinc (v := v2_2 + (1 : Int32)) (lv' := [(2, .int (v2_2 + (1 : Int32))), (0, .ref q_t), (1, .int v1_1), (3, .int (r_40 - r_49)), (4, .int r_60)]) hx hb dX6_next_92 hl (k := 2) rfl rfl (by decide) rfl (fun ls hl => ?_)
            refine lv_goto (tgt := 26) hx hb dX6_next_95 (by decide) ?_
            have e_2 := Option.some.inj hE
            exact ih_2 _ e_2.symm ls (lv_sub hl [1, 2, 0] rfl)
          · replace hE := (if_pos c_78).symm.trans hE
            refine lv_iload_n hx hb dX6_next_81 rfl (lv_at hl 3 rfl) ?_
            refine lv_if_ge (tgt := 92) hx hb dX6_next_82 (by decide) (fun c_82 => ?_) (fun c_82 => ?_)
            · replace hE := (if_pos c_82).symm.trans hE
              refine lv_iinc (v := v2_2 + (1 : Int32)) (lv' := [(2, .int (v2_2 + (1 : Int32))), (0, .ref q_t), (1, .int v1_1), (3, .int (r_40 - r_49)), (4, .int r_60)]) hx hb dX6_next_92 hl (k := 2) rfl rfl (by decide) rfl (fun ls hl => ?_)
              refine lv_goto (tgt := 26) hx hb dX6_next_95 (by decide) ?_
              have e_2 := Option.some.inj hE
              exact ih_2 _ e_2.symm ls (lv_sub hl [1, 2, 0] rfl)
            · replace hE := (if_neg c_82).symm.trans hE
              refine lv_bipush (v := 10) hx hb dX6_next_85 (by decide) ?_
              refine lv_iload_n hx hb dX6_next_87 rfl (lv_at hl 1 rfl) ?_
              refine lv_imul hx hb dX6_next_88 ?_
              refine lv_iload_n hx hb dX6_next_89 rfl (lv_at hl 2 rfl) ?_
              refine lv_iadd hx hb dX6_next_90 ?_
              have e_2 := Option.some.inj hE
              have e_1 := hr_2 _ e_2.symm
              have e_0 := hr_1 _ e_1.symm
              rw [hQ]
              exact W.iret (v := ((10 : Int32) * v1_1) + v2_2) hx hb hr (fun t ht _ => ⟨_, rfl, e_0, ht⟩) (fun q h => by cases h) dX6_next_91
        clear hE hk9
        have hE := hEp
        clear hEp
        refine lv_icmp_ne (tgt := 75) hx hb dX6_next_68 (by decide) (fun c_68 => ?_) (fun c_68 => ?_)
        · replace hE := (if_neg c_68).symm.trans hE
          have e_3 := Option.some.inj hE
          exact ih_3 _ e_3.symm ls (lv_sub hl [2, 3, 4, 1, 0] rfl)
        · replace hE := (if_pos c_68).symm.trans hE
          refine lv_iload_n hx hb dX6_next_71 rfl (lv_at hl 1 rfl) ?_
          refine lv_if_gt (tgt := 85) hx hb dX6_next_72 (by decide) (fun c_72 => ?_) (fun c_72 => ?_)
          · replace hE := (if_pos c_72).symm.trans hE
            refine lv_bipush (v := 10) hx hb dX6_next_85 (by decide) ?_
            refine lv_iload_n hx hb dX6_next_87 rfl (lv_at hl 3 rfl) ?_
            refine lv_imul hx hb dX6_next_88 ?_
            refine lv_iload_n hx hb dX6_next_89 rfl (lv_at hl 4 rfl) ?_
            refine lv_iadd hx hb dX6_next_90 ?_
            have e_3 := Option.some.inj hE
            have e_2 := hr_3 _ e_3.symm
            have e_1 := hr_2 _ e_2.symm
            have e_0 := hr_1 _ e_1.symm
            rw [hQ]
            exact W.iret (v := ((10 : Int32) * v1_1) + v2_2) hx hb hr (fun t ht _ => ⟨_, rfl, e_0, ht⟩) (fun q h => by cases h) dX6_next_91
          · replace hE := (if_neg c_72).symm.trans hE
            have e_3 := Option.some.inj hE
            exact ih_3 _ e_3.symm ls (lv_sub hl [2, 3, 4, 1, 0] rfl)
  · replace hE := (if_neg c_8).symm.trans hE
    refine lv_bipush (v := -2) hx hb dX6_next_11 (by decide) ?_
    have e_0 := Option.some.inj hE
    rw [hQ]
    exact W.iret (v := (-2 : Int32)) hx hb hr (fun t ht _ => ⟨_, rfl, e_0, ht⟩) (fun q h => by cases h) dX6_next_13
def S_X6_both (p1 : Int32) (t_size : Int32) (t_otherSize : Int32) (t_undoMany : Int32) (t_sign : Nat → Int32) (t_other : Nat → Int32) (t_before : Nat → Int32) (t_tall : Nat → Int32) : Option (Int32 × Int32 × (Nat → Int32) × (Nat → Int32) × (Nat → Int32)) := (S_X6_in p1.toInt64 (0 : Int64) (1 : Int64)).bind (fun (y4 : Int32) => if y4 = 0 then some ((-1 : Int32), t_undoMany, t_sign, t_before, t_tall) else if t_otherSize = t_size then itr (fun (x1 : Int32 × Int32 × (Nat → Int32)) => if t_size < x1.2.1 then (S_X6_note t_size t_undoMany t_sign t_before).bind (fun (y164 : Int32 × (Nat → Int32)) => itr (fun (x2 : Int32 × (Nat → Int32)) => if t_size ≤ x2.1 then some (.inr (.inr (x1.1, y164.1, x2.2, y164.2, x1.2.2))) else itr (fun (x3 : Int32 × (Nat → Int32)) => if t_size ≤ x3.1 then some (.inr (.inl (x2.1 + (1 : Int32), x3.2))) else ck (inb ((((7 : Int32) * x2.1) + (8 : Int32)) + x3.1) 49) (ck (inb ((((7 : Int32) * x2.1) + (7 : Int32)) + x3.1) 49) (ck (inb ((((7 : Int32) * x2.1) + (1 : Int32)) + x3.1) 49) (ck (inb (((7 : Int32) * x2.1) + x3.1) 49) (ck (inb (((6 : Int32) * x2.1) + x3.1) 36) ((some (upd x3.2 (((6 : Int32) * x2.1) + x3.1).toNatClampNeg ((((x1.2.2 ((((7 : Int32) * x2.1) + (8 : Int32)) + x3.1).toNatClampNeg) - (x1.2.2 ((((7 : Int32) * x2.1) + (7 : Int32)) + x3.1).toNatClampNeg)) - (x1.2.2 ((((7 : Int32) * x2.1) + (1 : Int32)) + x3.1).toNatClampNeg)) + (x1.2.2 (((7 : Int32) * x2.1) + x3.1).toNatClampNeg)))).bind (fun (z_259 : Nat → Int32) => some (.inl (x3.1 + (1 : Int32), z_259))))))))) 10000 ((0 : Int32), x2.2)) 10000 ((0 : Int32), t_sign)) else itr (fun (x4 : Int32 × Int32 × (Nat → Int32)) => if t_size < x4.2.1 then some (.inr (.inl (x4.1, x1.2.1 + (1 : Int32), x4.2.2))) else (S_X6_heightOf x1.2.1 x4.2.1 t_sign).bind (fun (y57 : Int32) => (S_X6_heightOf x1.2.1 x4.2.1 t_other).bind (fun (y69 : Int32) => jn (if p1 = 0 then if y57 ≤ y69 then some (.inl (0 : Int32)) else some (.inl (1 : Int32)) else if y69 ≤ y57 then some (.inl (0 : Int32)) else some (.inl (1 : Int32))) (fun (x5 : Int32) => jn (if x5 = 0 then some (.inl (0 : Int32)) else some (.inl (1 : Int32))) (fun (x6 : Int32) => if x5 = 0 then ck (inb (((7 : Int32) * x1.2.1) + x4.2.1) 49) ((some (upd x4.2.2 (((7 : Int32) * x1.2.1) + x4.2.1).toNatClampNeg (((x1.2.1 + x4.2.1) - y57) / (2 : Int32)))).bind (fun (z_150 : Nat → Int32) => some (.inl (x4.1 + x6, x4.2.1 + (1 : Int32), z_150)))) else ck (inb (((7 : Int32) * x1.2.1) + x4.2.1) 49) ((some (upd x4.2.2 (((7 : Int32) * x1.2.1) + x4.2.1).toNatClampNeg (((x1.2.1 + x4.2.1) - y69) / (2 : Int32)))).bind (fun (z_150 : Nat → Int32) => some (.inl (x4.1 + x6, x4.2.1 + (1 : Int32), z_150))))))))) 10000 (x1.1, (0 : Int32), x1.2.2)) 10000 ((0 : Int32), (0 : Int32), t_tall) else some ((-2 : Int32), t_undoMany, t_sign, t_before, t_tall))
theorem kd_X6_both : yX6_both.cls = RX6 ∧ yX6_both.cls ≠ "java/lang/invoke/MethodHandle" ∧ yX6_both.cls ≠ "java/lang/invoke/VarHandle" ∧ (parseMethodDescriptor yX6_both.desc).map (fun d => d.parameters.length) = some 1 := by decide +kernel
set_option maxHeartbeats 4000000 in
set_option maxRecDepth 100000 in
theorem c_X6_both {l : Launch} {G : kG} (sz : Nat) {p1 : Int32} {q_t : Nat} {t_length : Int32} {q_t_text : Nat} {t_size : Int32} {q_t_sign : Nat} {t_otherSize : Int32} {q_t_other : Nat} {q_t_before : Nat} {t_undoMany : Int32} {t_readSize : Int32} {q_t_read : Nat} {q_t_side : Nat} {q_t_tall : Nat} {q_t_endRow : Nat} {q_t_endColumn : Nat} {q_t_endSide : Nat} {q_t_gone : Nat} {t_lineRow : Int32} {t_lineColumn : Int32} {t_lineSide : Int32} {t_lineMany : Int32} {q_t_ways : Nat} {q_t_codes : Nat} {q_t_many : Nat} {t_sign : Nat → Int32} {t_other : Nat → Int32} {t_before : Nat → Int32} {t_tall : Nat → Int32} {res : Int32 × Int32 × (Nat → Int32) × (Nat → Int32) × (Nat → Int32)} (hE : S_X6_both p1 t_size t_otherSize t_undoMany t_sign t_other t_before t_tall = some res) : Met l yX6_both wsX6_both ({ frames := 2, cells := 0, slots := 0, locals := 47 }) (va_Pc [.ref q_t, .int p1] (fun U => U.heap.size = sz ∧ va_P G.1 vwCl [oX6 q_t t_length q_t_text t_size q_t_sign t_otherSize q_t_other q_t_before t_undoMany t_readSize q_t_read q_t_side q_t_tall q_t_endRow q_t_endColumn q_t_endSide q_t_gone t_lineRow t_lineColumn t_lineSide t_lineMany q_t_ways q_t_codes q_t_many, aI (G.2 1) q_t_sign 36 t_sign, aI (G.2 1) q_t_other 36 t_other, aI (G.2 1) q_t_before 222 t_before, aI (G.2 1) q_t_tall 49 t_tall] U.heap ∧ kw G U ∧ va_D (fun _ => True) [oX6 q_t t_length q_t_text t_size q_t_sign t_otherSize q_t_other q_t_before t_undoMany t_readSize q_t_read q_t_side q_t_tall q_t_endRow q_t_endColumn q_t_endSide q_t_gone t_lineRow t_lineColumn t_lineSide t_lineMany q_t_ways q_t_codes q_t_many, aI (G.2 1) q_t_sign 36 t_sign, aI (G.2 1) q_t_other 36 t_other, aI (G.2 1) q_t_before 222 t_before, aI (G.2 1) q_t_tall 49 t_tall])) (va_Qi (fun r (_ : Unit) => r = res.1) (fun _ t => va_P G.1 vwCl [oX6 q_t t_length q_t_text t_size q_t_sign t_otherSize q_t_other q_t_before res.2.1 t_readSize q_t_read q_t_side q_t_tall q_t_endRow q_t_endColumn q_t_endSide q_t_gone t_lineRow t_lineColumn t_lineSide t_lineMany q_t_ways q_t_codes q_t_many, aI (G.2 1) q_t_sign 36 res.2.2.1, aI (G.2 1) q_t_other 36 t_other, aI (G.2 1) q_t_before 222 res.2.2.2.1, aI (G.2 1) q_t_tall 49 res.2.2.2.2] t.heap ∧ va_D (va_A [oX6 q_t t_length q_t_text t_size q_t_sign t_otherSize q_t_other q_t_before t_undoMany t_readSize q_t_read q_t_side q_t_tall q_t_endRow q_t_endColumn q_t_endSide q_t_gone t_lineRow t_lineColumn t_lineSide t_lineMany q_t_ways q_t_codes q_t_many, aI (G.2 1) q_t_sign 36 t_sign, aI (G.2 1) q_t_other 36 t_other, aI (G.2 1) q_t_before 222 t_before, aI (G.2 1) q_t_tall 49 t_tall] sz) [oX6 q_t t_length q_t_text t_size q_t_sign t_otherSize q_t_other q_t_before res.2.1 t_readSize q_t_read q_t_side q_t_tall q_t_endRow q_t_endColumn q_t_endSide q_t_gone t_lineRow t_lineColumn t_lineSide t_lineMany q_t_ways q_t_codes q_t_many, aI (G.2 1) q_t_sign 36 res.2.2.1, aI (G.2 1) q_t_other 36 t_other, aI (G.2 1) q_t_before 222 res.2.2.2.1, aI (G.2 1) q_t_tall 49 res.2.2.2.2]) (va_A [oX6 q_t t_length q_t_text t_size q_t_sign t_otherSize q_t_other q_t_before t_undoMany t_readSize q_t_read q_t_side q_t_tall q_t_endRow q_t_endColumn q_t_endSide q_t_gone t_lineRow t_lineColumn t_lineSide t_lineMany q_t_ways q_t_codes q_t_many, aI (G.2 1) q_t_sign 36 t_sign, aI (G.2 1) q_t_other 36 t_other, aI (G.2 1) q_t_before 222 t_before, aI (G.2 1) q_t_tall 49 t_tall] sz)) 0 0 (va_A [oX6 q_t t_length q_t_text t_size q_t_sign t_otherSize q_t_other q_t_before t_undoMany t_readSize q_t_read q_t_side q_t_tall q_t_endRow q_t_endColumn q_t_endSide q_t_gone t_lineRow t_lineColumn t_lineSide t_lineMany q_t_ways q_t_codes q_t_many, aI (G.2 1) q_t_sign 36 t_sign, aI (G.2 1) q_t_other 36 t_other, aI (G.2 1) q_t_before 222 t_before, aI (G.2 1) q_t_tall 49 t_tall] sz) := by
  refine Met.ofQ (cc := cX6_both) (maxL := 8) (ret := (some .int)) (by decide) rfl ?_
  intro p e s m args below meth c s₁ Q hQ B hml hv
  obtain ⟨rfl, hsz, hP, hKW, hD0⟩ := hv
  have hK := hKW.1
  have hx := B.exec
  have hb := B.bytes
  have hr := B.returns
  have hts := atoms_spec (ws := wsX6_both) B.pre
  have hown : s.vm.findClass RX6 = some m.cls := findClass_of_methodNamed B.named
  have hlocks := B.notSynchronized
  have iX6 : ∀ w ∈ u_ws RX6 TX6 23, w ∈ wsX6_both := by decide +kernel
  have fl_83 := hts (.fieldLink RX6 83 "AlternateSignsModel" "otherSize" "I") (by decide +kernel)
  have fl_54 := hts (.fieldLink RX6 54 "AlternateSignsModel" "size" "I") (by decide +kernel)
  have fl_13 := hts (.fieldLink RX6 13 "AlternateSignsModel" "sign" "[I") (by decide +kernel)
  have fl_16 := hts (.fieldLink RX6 16 "AlternateSignsModel" "other" "[I") (by decide +kernel)
  have fl_28 := hts (.fieldLink RX6 28 "AlternateSignsModel" "tall" "[I") (by decide +kernel)
  subst hsz
  have hD := hD0.self (sz := s.heap.size)
  generalize hAe : va_A [oX6 q_t t_length q_t_text t_size q_t_sign t_otherSize q_t_other q_t_before t_undoMany t_readSize q_t_read q_t_side q_t_tall q_t_endRow q_t_endColumn q_t_endSide q_t_gone t_lineRow t_lineColumn t_lineSide t_lineMany q_t_ways q_t_codes q_t_many, aI (G.2 1) q_t_sign 36 t_sign, aI (G.2 1) q_t_other 36 t_other, aI (G.2 1) q_t_before 222 t_before, aI (G.2 1) q_t_tall 49 t_tall] s.heap.size = A at hD hQ
  have hA : ∀ q : Nat, s.heap.size ≤ q → A q := fun q h => by rw [← hAe]; exact Or.inr h
  have hS : va_S A s.heap s.heap [] := va_S.rf
  have hl := lv_entry ([.ref q_t, .int p1]) (n := 8) (Nat.le_of_ble_eq_true rfl)
  rw [lg_entry_eq]
  generalize (lg_sl ([.ref q_t, .int p1]) ++ List.replicate (8 - (lg_sl ([.ref q_t, .int p1])).length) Slot.unset).toArray = ls at hl ⊢
  have hl : lv_has ls 8 [(0, .ref q_t), (1, .int p1)] := hl
  unfold S_X6_both at hE
  refine lv_iload_n hx hb dX6_both_0 rfl (lv_at hl 1 rfl) ?_
  refine lv_i2l (v := p1.toInt64) hx hb dX6_both_1 rfl ?_
  refine lv_lconst (v := 0) hx hb dX6_both_2 (by decide) ?_
  refine lv_lconst (v := 1) hx hb dX6_both_3 (by decide) ?_
  obtain ⟨y4, hC_4, hE⟩ := Option.bind_eq_some_iff.mp hE
  obtain ⟨r_4, ex9⟩ : ∃ z, z = y4 := ⟨_, rfl⟩
  subst ex9
  try dsimp only at hE
  refine vp_callSi (va_Run.run (va_runS (As := [.long p1.toInt64, .long (0 : Int64), .long (1 : Int64)]) (rest := []) ⟨hx, hb, hml, hown, hts⟩ (c_X6_in (l := l) (G := G) (p1 := p1.toInt64) (p2 := (0 : Int64)) (p3 := (1 : Int64)) hC_4) (va_cwS 3 hts gX6_both_X6_in rfl rfl rfl kd_X6_in ⟨Nat.le_of_ble_eq_true rfl, Nat.le_of_ble_eq_true rfl⟩) (pv_S hKW (hP.sub (ws' := []) [] rfl)) rfl rfl hl.1 rfl (lv_room (Nat.le_of_ble_eq_true rfl)) dX6_both_4 ⟨Nat.zero_le _, Nat.zero_le _⟩)) (fun r9 hr9 => ?_)
  subst r9
  refine lv_if_ne (tgt := 12) hx hb dX6_both_7 (by decide) (fun c_7 => ?_) (fun c_7 => ?_)
  · replace hE := (if_neg c_7).symm.trans hE
    refine lv_aload_n hx hb dX6_both_12 rfl (lv_at hl 0 rfl) ?_
    refine va_get (D := G.1) (ci := 6) (v := .int t_otherSize) (C := RX6) (T := TX6) (N := 23) hx hb hts iX6 hown hK hP 0 rfl rfl 4 (by decide) fl_83 (fun _ h9 => h9) rfl dX6_both_13 ?_
    refine lv_aload_n hx hb dX6_both_16 rfl (lv_at hl 0 rfl) ?_
    refine va_get (D := G.1) (ci := 6) (v := .int t_size) (C := RX6) (T := TX6) (N := 23) hx hb hts iX6 hown hK hP 0 rfl rfl 2 (by decide) fl_54 (fun _ h9 => h9) rfl dX6_both_17 ?_
    refine lv_icmp_eq (tgt := 26) hx hb dX6_both_20 (by decide) (fun c_20 => ?_) (fun c_20 => ?_)
    · replace hE := (if_pos c_20).symm.trans hE
      refine lv_iconst (v := 0) hx hb dX6_both_26 (by decide) ?_
      refine lv_istore_n (lv' := [(2, .int (0 : Int32)), (0, .ref q_t), (1, .int p1)]) hx hb dX6_both_27 rfl hl (by decide) rfl (fun ls hl => ?_)
      refine lv_iconst (v := 0) hx hb dX6_both_28 (by decide) ?_
      refine lv_istore_n (lv' := [(3, .int (0 : Int32)), (2, .int (0 : Int32)), (0, .ref q_t), (1, .int p1)]) hx hb dX6_both_29 rfl hl (by decide) rfl (fun ls hl => ?_)
      refine itr_ind (fun (x1 : Int32 × Int32 × (Nat → Int32)) => ∀ (H : Heap) (locs : List Loc) (ls : Array Slot), va_P G.1 vwCl [oX6 q_t t_length q_t_text t_size q_t_sign t_otherSize q_t_other q_t_before t_undoMany t_readSize q_t_read q_t_side q_t_tall q_t_endRow q_t_endColumn q_t_endSide q_t_gone t_lineRow t_lineColumn t_lineSide t_lineMany q_t_ways q_t_codes q_t_many, aI (G.2 1) q_t_sign 36 t_sign, aI (G.2 1) q_t_other 36 t_other, aI (G.2 1) q_t_before 222 t_before, aI (G.2 1) q_t_tall 49 x1.2.2] H → va_D A [oX6 q_t t_length q_t_text t_size q_t_sign t_otherSize q_t_other q_t_before t_undoMany t_readSize q_t_read q_t_side q_t_tall q_t_endRow q_t_endColumn q_t_endSide q_t_gone t_lineRow t_lineColumn t_lineSide t_lineMany q_t_ways q_t_codes q_t_many, aI (G.2 1) q_t_sign 36 t_sign, aI (G.2 1) q_t_other 36 t_other, aI (G.2 1) q_t_before 222 t_before, aI (G.2 1) q_t_tall 49 x1.2.2] → va_S A s.heap H locs → lv_has ls 8 [(0, .ref q_t), (1, .int p1), (2, .int x1.1), (3, .int x1.2.1)] → W p l e (headSpec wsX6_both ({ frames := 2, cells := 0, slots := 0, locals := 47 })).room s m ([.ref q_t, .int p1] : List Value).toArray below meth c H locs 0 0 Q (F0 m 30 ls [])) (fun x1 o_1 hE ih_1 hr_1 => ?_) _ _ hE _ _ ls hP hD hS (lv_sub hl [2, 3, 1, 0] rfl)
      obtain ⟨v2_1, v3_1, w_t_tall_1⟩ := x1
      try dsimp only at hE
      intro H locs ls hP hD hS hl
      try dsimp only at hP hD hl ⊢
      refine lv_iload_n hx hb dX6_both_30 rfl (lv_at hl 3 rfl) ?_
      refine lv_aload_n hx hb dX6_both_31 rfl (lv_at hl 0 rfl) ?_
      refine va_get (D := G.1) (ci := 6) (v := .int t_size) (C := RX6) (T := TX6) (N := 23) hx hb hts iX6 hown hK hP 0 rfl rfl 2 (by decide) fl_54 (fun _ h9 => h9) rfl dX6_both_32 ?_
      refine lv_icmp_gt (tgt := 163) hx hb dX6_both_35 (by decide) (fun c_35 => ?_) (fun c_35 => ?_)
      · replace hE := (if_pos c_35).symm.trans hE
        refine lv_aload_n hx hb dX6_both_163 rfl (lv_at hl 0 rfl) ?_
        obtain ⟨y164, hC_164, hE⟩ := Option.bind_eq_some_iff.mp hE
        obtain ⟨m_164_0, m_164_1⟩ := y164
        try dsimp only at hE
        have hPc := hP.sub (ws' := [oX6 q_t t_length q_t_text t_size q_t_sign t_otherSize q_t_other q_t_before t_undoMany t_readSize q_t_read q_t_side q_t_tall q_t_endRow q_t_endColumn q_t_endSide q_t_gone t_lineRow t_lineColumn t_lineSide t_lineMany q_t_ways q_t_codes q_t_many, aI (G.2 1) q_t_sign 36 t_sign, aI (G.2 1) q_t_before 222 t_before]) [0, 1, 3] rfl
        have hDc := hD.sub (ws' := [oX6 q_t t_length q_t_text t_size q_t_sign t_otherSize q_t_other q_t_before t_undoMany t_readSize q_t_read q_t_side q_t_tall q_t_endRow q_t_endColumn q_t_endSide q_t_gone t_lineRow t_lineColumn t_lineSide t_lineMany q_t_ways q_t_codes q_t_many, aI (G.2 1) q_t_sign 36 t_sign, aI (G.2 1) q_t_before 222 t_before]) [0, 1, 3] (by decide) rfl
        have hFc := va_free (wc := [oX6 q_t t_length q_t_text t_size q_t_sign t_otherSize q_t_other q_t_before t_undoMany t_readSize q_t_read q_t_side q_t_tall q_t_endRow q_t_endColumn q_t_endSide q_t_gone t_lineRow t_lineColumn t_lineSide t_lineMany q_t_ways q_t_codes q_t_many, aI (G.2 1) q_t_sign 36 t_sign, aI (G.2 1) q_t_before 222 t_before]) hD hS hA [0, 1, 3] rfl
        refine va_callv (va_runV (As := []) (rest := []) ⟨hx, hb, hml, hown, hts⟩ (c_X6_note (l := l) (G := G) _ (q_t := q_t) (t_length := t_length) (q_t_text := q_t_text) (t_size := t_size) (q_t_sign := q_t_sign) (t_otherSize := t_otherSize) (q_t_other := q_t_other) (q_t_before := q_t_before) (t_undoMany := t_undoMany) (t_readSize := t_readSize) (q_t_read := q_t_read) (q_t_side := q_t_side) (q_t_tall := q_t_tall) (q_t_endRow := q_t_endRow) (q_t_endColumn := q_t_endColumn) (q_t_endSide := q_t_endSide) (q_t_gone := q_t_gone) (t_lineRow := t_lineRow) (t_lineColumn := t_lineColumn) (t_lineSide := t_lineSide) (t_lineMany := t_lineMany) (q_t_ways := q_t_ways) (q_t_codes := q_t_codes) (q_t_many := q_t_many) (t_sign := t_sign) (t_before := t_before) hC_164) (cwV 0 hts gX6_both_X6_note rfl rfl rfl kd_X6_note ⟨Nat.le_of_ble_eq_true rfl, Nat.le_of_ble_eq_true rfl⟩) (iv_V hKW hPc hDc (ci := 6) (q0 := 0) rfl rfl) rfl rfl hl.1 rfl (lv_room (Nat.le_of_ble_eq_true rfl)) dX6_both_164 ⟨Nat.zero_le _, Nat.zero_le _⟩) hS (fun q _ h => hFc q h) hFc (fun u9 t9 H1 locs ht9 hvm9 hw9 hB9 hz9 hk9 hS => ?_)
        obtain ⟨hP1, hD1⟩ := hB9
        rw [ht9] at hP1
        obtain ⟨hP, hD⟩ := va_join (wr := [aI (G.2 1) q_t_other 36 t_other, aI (G.2 1) q_t_tall 49 w_t_tall_1]) (w1 := [oX6 q_t t_length q_t_text t_size q_t_sign t_otherSize q_t_other q_t_before m_164_0 t_readSize q_t_read q_t_side q_t_tall q_t_endRow q_t_endColumn q_t_endSide q_t_gone t_lineRow t_lineColumn t_lineSide t_lineMany q_t_ways q_t_codes q_t_many, aI (G.2 1) q_t_sign 36 t_sign, aI (G.2 1) q_t_before 222 m_164_1]) hP hD [0, 1, 3] [2, 4] rfl rfl (by decide) (by decide) hk9 hFc hP1 hD1
        have hP := hP.sub (ws' := [oX6 q_t t_length q_t_text t_size q_t_sign t_otherSize q_t_other q_t_before m_164_0 t_readSize q_t_read q_t_side q_t_tall q_t_endRow q_t_endColumn q_t_endSide q_t_gone t_lineRow t_lineColumn t_lineSide t_lineMany q_t_ways q_t_codes q_t_many, aI (G.2 1) q_t_sign 36 t_sign, aI (G.2 1) q_t_other 36 t_other, aI (G.2 1) q_t_before 222 m_164_1, aI (G.2 1) q_t_tall 49 w_t_tall_1]) [2, 3, 0, 4, 1] rfl
        have hD := hD.sub (ws' := [oX6 q_t t_length q_t_text t_size q_t_sign t_otherSize q_t_other q_t_before m_164_0 t_readSize q_t_read q_t_side q_t_tall q_t_endRow q_t_endColumn q_t_endSide q_t_gone t_lineRow t_lineColumn t_lineSide t_lineMany q_t_ways q_t_codes q_t_many, aI (G.2 1) q_t_sign 36 t_sign, aI (G.2 1) q_t_other 36 t_other, aI (G.2 1) q_t_before 222 m_164_1, aI (G.2 1) q_t_tall 49 w_t_tall_1]) [2, 3, 0, 4, 1] (by decide) rfl
        clear hPc hDc hFc hP1 hD1 hk9 hz9 hvm9
        refine lv_iconst (v := 0) hx hb dX6_both_167 (by decide) ?_
        refine lv_istore_n (lv' := [(3, .int (0 : Int32)), (0, .ref q_t), (1, .int p1), (2, .int v2_1)]) hx hb dX6_both_168 rfl hl (by decide) rfl (fun ls hl => ?_)
        refine itr_ind (fun (x2 : Int32 × (Nat → Int32)) => ∀ (H : Heap) (locs : List Loc) (ls : Array Slot), va_P G.1 vwCl [oX6 q_t t_length q_t_text t_size q_t_sign t_otherSize q_t_other q_t_before m_164_0 t_readSize q_t_read q_t_side q_t_tall q_t_endRow q_t_endColumn q_t_endSide q_t_gone t_lineRow t_lineColumn t_lineSide t_lineMany q_t_ways q_t_codes q_t_many, aI (G.2 1) q_t_sign 36 x2.2, aI (G.2 1) q_t_other 36 t_other, aI (G.2 1) q_t_before 222 m_164_1, aI (G.2 1) q_t_tall 49 w_t_tall_1] H → va_D A [oX6 q_t t_length q_t_text t_size q_t_sign t_otherSize q_t_other q_t_before m_164_0 t_readSize q_t_read q_t_side q_t_tall q_t_endRow q_t_endColumn q_t_endSide q_t_gone t_lineRow t_lineColumn t_lineSide t_lineMany q_t_ways q_t_codes q_t_many, aI (G.2 1) q_t_sign 36 x2.2, aI (G.2 1) q_t_other 36 t_other, aI (G.2 1) q_t_before 222 m_164_1, aI (G.2 1) q_t_tall 49 w_t_tall_1] → va_S A s.heap H locs → lv_has ls 8 [(0, .ref q_t), (2, .int v2_1), (3, .int x2.1)] → W p l e (headSpec wsX6_both ({ frames := 2, cells := 0, slots := 0, locals := 47 })).room s m ([.ref q_t, .int p1] : List Value).toArray below meth c H locs 0 0 Q (F0 m 169 ls [])) (fun x2 o_2 hE ih_2 hr_2 => ?_) _ _ hE _ _ ls hP hD hS (lv_sub hl [1, 3, 0] rfl)
        obtain ⟨v3_2, w_t_sign_2⟩ := x2
        try dsimp only at hE
        intro H locs ls hP hD hS hl
        try dsimp only at hP hD hl ⊢
        refine lv_iload_n hx hb dX6_both_169 rfl (lv_at hl 2 rfl) ?_
        refine lv_aload_n hx hb dX6_both_170 rfl (lv_at hl 0 rfl) ?_
        refine va_get (D := G.1) (ci := 6) (v := .int t_size) (C := RX6) (T := TX6) (N := 23) hx hb hts iX6 hown hK hP 0 rfl rfl 2 (by decide) fl_54 (fun _ h9 => h9) rfl dX6_both_171 ?_
        refine lv_icmp_ge (tgt := 272) hx hb dX6_both_174 (by decide) (fun c_174 => ?_) (fun c_174 => ?_)
        · replace hE := (if_pos c_174).symm.trans hE
          refine lv_iload_n hx hb dX6_both_272 rfl (lv_at hl 1 rfl) ?_
          have e_2 := Option.some.inj hE
          have e_1 := hr_2 _ e_2.symm
          have e_0 := hr_1 _ e_1.symm
          subst e_0
          rw [hQ]
          exact W.iret (v := v2_1) hx hb hr (fun t ht _ => ⟨⟨_, (), rfl, rfl, by rw [ht]; exact hP, hD⟩, hS.F ht⟩) hS.2.2 dX6_both_273
        · replace hE := (if_neg c_174).symm.trans hE
          refine lv_iconst (v := 0) hx hb dX6_both_177 (by decide) ?_
          refine lv_istore (lv' := [(4, .int (0 : Int32)), (0, .ref q_t), (2, .int v2_1), (3, .int v3_2)]) hx hb dX6_both_178 hl (by decide) rfl (fun ls hl => ?_)
          refine itr_ind (fun (x3 : Int32 × (Nat → Int32)) => ∀ (H : Heap) (locs : List Loc) (ls : Array Slot), va_P G.1 vwCl [oX6 q_t t_length q_t_text t_size q_t_sign t_otherSize q_t_other q_t_before m_164_0 t_readSize q_t_read q_t_side q_t_tall q_t_endRow q_t_endColumn q_t_endSide q_t_gone t_lineRow t_lineColumn t_lineSide t_lineMany q_t_ways q_t_codes q_t_many, aI (G.2 1) q_t_sign 36 x3.2, aI (G.2 1) q_t_other 36 t_other, aI (G.2 1) q_t_before 222 m_164_1, aI (G.2 1) q_t_tall 49 w_t_tall_1] H → va_D A [oX6 q_t t_length q_t_text t_size q_t_sign t_otherSize q_t_other q_t_before m_164_0 t_readSize q_t_read q_t_side q_t_tall q_t_endRow q_t_endColumn q_t_endSide q_t_gone t_lineRow t_lineColumn t_lineSide t_lineMany q_t_ways q_t_codes q_t_many, aI (G.2 1) q_t_sign 36 x3.2, aI (G.2 1) q_t_other 36 t_other, aI (G.2 1) q_t_before 222 m_164_1, aI (G.2 1) q_t_tall 49 w_t_tall_1] → va_S A s.heap H locs → lv_has ls 8 [(0, .ref q_t), (2, .int v2_1), (3, .int v3_2), (4, .int x3.1)] → W p l e (headSpec wsX6_both ({ frames := 2, cells := 0, slots := 0, locals := 47 })).room s m ([.ref q_t, .int p1] : List Value).toArray below meth c H locs 0 0 Q (F0 m 180 ls [])) (fun x3 o_3 hE ih_3 hr_3 => ?_) _ _ hE _ _ ls hP hD hS (lv_sub hl [1, 2, 3, 0] rfl)
          obtain ⟨v4_3, w_t_sign_3⟩ := x3
          try dsimp only at hE
          intro H locs ls hP hD hS hl
          try dsimp only at hP hD hl ⊢
          refine lv_iload hx hb dX6_both_180 (lv_at hl 3 rfl) ?_
          refine lv_aload_n hx hb dX6_both_182 rfl (lv_at hl 0 rfl) ?_
          refine va_get (D := G.1) (ci := 6) (v := .int t_size) (C := RX6) (T := TX6) (N := 23) hx hb hts iX6 hown hK hP 0 rfl rfl 2 (by decide) fl_54 (fun _ h9 => h9) rfl dX6_both_183 ?_
          refine lv_icmp_ge (tgt := 266) hx hb dX6_both_186 (by decide) (fun c_186 => ?_) (fun c_186 => ?_)
          · replace hE := (if_pos c_186).symm.trans hE
            refine lv_iinc (v := v3_2 + (1 : Int32)) (lv' := [(3, .int (v3_2 + (1 : Int32))), (0, .ref q_t), (2, .int v2_1), (4, .int v4_3)]) hx hb dX6_both_266 hl (k := 2) rfl rfl (by decide) rfl (fun ls hl => ?_)
            refine lv_goto (tgt := 169) hx hb dX6_both_269 (by decide) ?_
            have e_3 := Option.some.inj hE
            have e_2 := hr_3 _ e_3.symm
            exact ih_2 _ e_2.symm _ _ ls hP hD hS (lv_sub hl [1, 2, 0] rfl)
          · replace hE := (if_neg c_186).symm.trans hE
            refine lv_aload_n hx hb dX6_both_189 rfl (lv_at hl 0 rfl) ?_
            refine va_get (D := G.1) (ci := 6) (v := .ref q_t_sign) (C := RX6) (T := TX6) (N := 23) hx hb hts iX6 hown hK hP 0 rfl rfl 3 (by decide) fl_13 (fun _ h9 => h9) rfl dX6_both_190 ?_
            refine lv_bipush (v := 6) hx hb dX6_both_193 (by decide) ?_
            refine lv_iload_n hx hb dX6_both_195 rfl (lv_at hl 2 rfl) ?_
            refine lv_imul hx hb dX6_both_196 ?_
            refine lv_iload hx hb dX6_both_197 (lv_at hl 3 rfl) ?_
            refine lv_iadd hx hb dX6_both_199 ?_
            refine lv_aload_n hx hb dX6_both_200 rfl (lv_at hl 0 rfl) ?_
            refine va_get (D := G.1) (ci := 6) (v := .ref q_t_tall) (C := RX6) (T := TX6) (N := 23) hx hb hts iX6 hown hK hP 0 rfl rfl 11 (by decide) fl_28 (fun _ h9 => h9) rfl dX6_both_201 ?_
            refine lv_bipush (v := 7) hx hb dX6_both_204 (by decide) ?_
            refine lv_iload_n hx hb dX6_both_206 rfl (lv_at hl 2 rfl) ?_
            refine lv_imul hx hb dX6_both_207 ?_
            refine lv_bipush (v := 8) hx hb dX6_both_208 (by decide) ?_
            refine lv_iadd hx hb dX6_both_210 ?_
            refine lv_iload hx hb dX6_both_211 (lv_at hl 3 rfl) ?_
            refine lv_iadd hx hb dX6_both_213 ?_
            obtain ⟨hi_214, hE⟩ := ck_some hE
            refine va_iald hx hb hK hP 4 1 rfl rfl (inb_in hi_214) dX6_both_214 ?_
            refine lv_aload_n hx hb dX6_both_215 rfl (lv_at hl 0 rfl) ?_
            refine va_get (D := G.1) (ci := 6) (v := .ref q_t_tall) (C := RX6) (T := TX6) (N := 23) hx hb hts iX6 hown hK hP 0 rfl rfl 11 (by decide) fl_28 (fun _ h9 => h9) rfl dX6_both_216 ?_
            refine lv_bipush (v := 7) hx hb dX6_both_219 (by decide) ?_
            refine lv_iload_n hx hb dX6_both_221 rfl (lv_at hl 2 rfl) ?_
            refine lv_imul hx hb dX6_both_222 ?_
            refine lv_bipush (v := 7) hx hb dX6_both_223 (by decide) ?_
            refine lv_iadd hx hb dX6_both_225 ?_
            refine lv_iload hx hb dX6_both_226 (lv_at hl 3 rfl) ?_
            refine lv_iadd hx hb dX6_both_228 ?_
            obtain ⟨hi_229, hE⟩ := ck_some hE
            refine va_iald hx hb hK hP 4 1 rfl rfl (inb_in hi_229) dX6_both_229 ?_
            refine lv_isub hx hb dX6_both_230 ?_
            refine lv_aload_n hx hb dX6_both_231 rfl (lv_at hl 0 rfl) ?_
            refine va_get (D := G.1) (ci := 6) (v := .ref q_t_tall) (C := RX6) (T := TX6) (N := 23) hx hb hts iX6 hown hK hP 0 rfl rfl 11 (by decide) fl_28 (fun _ h9 => h9) rfl dX6_both_232 ?_
            refine lv_bipush (v := 7) hx hb dX6_both_235 (by decide) ?_
            refine lv_iload_n hx hb dX6_both_237 rfl (lv_at hl 2 rfl) ?_
            refine lv_imul hx hb dX6_both_238 ?_
            refine lv_iconst (v := 1) hx hb dX6_both_239 (by decide) ?_
            refine lv_iadd hx hb dX6_both_240 ?_
            refine lv_iload hx hb dX6_both_241 (lv_at hl 3 rfl) ?_
            refine lv_iadd hx hb dX6_both_243 ?_
            obtain ⟨hi_244, hE⟩ := ck_some hE
            refine va_iald hx hb hK hP 4 1 rfl rfl (inb_in hi_244) dX6_both_244 ?_
            refine lv_isub hx hb dX6_both_245 ?_
            refine lv_aload_n hx hb dX6_both_246 rfl (lv_at hl 0 rfl) ?_
            refine va_get (D := G.1) (ci := 6) (v := .ref q_t_tall) (C := RX6) (T := TX6) (N := 23) hx hb hts iX6 hown hK hP 0 rfl rfl 11 (by decide) fl_28 (fun _ h9 => h9) rfl dX6_both_247 ?_
            refine lv_bipush (v := 7) hx hb dX6_both_250 (by decide) ?_
            refine lv_iload_n hx hb dX6_both_252 rfl (lv_at hl 2 rfl) ?_
            refine lv_imul hx hb dX6_both_253 ?_
            refine lv_iload hx hb dX6_both_254 (lv_at hl 3 rfl) ?_
            refine lv_iadd hx hb dX6_both_256 ?_
            obtain ⟨hi_257, hE⟩ := ck_some hE
            refine va_iald hx hb hK hP 4 1 rfl rfl (inb_in hi_257) dX6_both_257 ?_
            refine lv_iadd hx hb dX6_both_258 ?_
            obtain ⟨hi_259, hE⟩ := ck_some hE
            refine va_iast hx hb hK hP hD hS 1 1 rfl rfl (inb_in hi_259) dX6_both_259 (fun H locs hP hD hS => ?_)
            have hP : va_P G.1 vwCl [oX6 q_t t_length q_t_text t_size q_t_sign t_otherSize q_t_other q_t_before m_164_0 t_readSize q_t_read q_t_side q_t_tall q_t_endRow q_t_endColumn q_t_endSide q_t_gone t_lineRow t_lineColumn t_lineSide t_lineMany q_t_ways q_t_codes q_t_many, aI (G.2 1) q_t_sign 36 (upd w_t_sign_3 (((6 : Int32) * v3_2) + v4_3).toNatClampNeg ((((w_t_tall_1 ((((7 : Int32) * v3_2) + (8 : Int32)) + v4_3).toNatClampNeg) - (w_t_tall_1 ((((7 : Int32) * v3_2) + (7 : Int32)) + v4_3).toNatClampNeg)) - (w_t_tall_1 ((((7 : Int32) * v3_2) + (1 : Int32)) + v4_3).toNatClampNeg)) + (w_t_tall_1 (((7 : Int32) * v3_2) + v4_3).toNatClampNeg))), aI (G.2 1) q_t_other 36 t_other, aI (G.2 1) q_t_before 222 m_164_1, aI (G.2 1) q_t_tall 49 w_t_tall_1] H := hP
            have hD : va_D A [oX6 q_t t_length q_t_text t_size q_t_sign t_otherSize q_t_other q_t_before m_164_0 t_readSize q_t_read q_t_side q_t_tall q_t_endRow q_t_endColumn q_t_endSide q_t_gone t_lineRow t_lineColumn t_lineSide t_lineMany q_t_ways q_t_codes q_t_many, aI (G.2 1) q_t_sign 36 (upd w_t_sign_3 (((6 : Int32) * v3_2) + v4_3).toNatClampNeg ((((w_t_tall_1 ((((7 : Int32) * v3_2) + (8 : Int32)) + v4_3).toNatClampNeg) - (w_t_tall_1 ((((7 : Int32) * v3_2) + (7 : Int32)) + v4_3).toNatClampNeg)) - (w_t_tall_1 ((((7 : Int32) * v3_2) + (1 : Int32)) + v4_3).toNatClampNeg)) + (w_t_tall_1 (((7 : Int32) * v3_2) + v4_3).toNatClampNeg))), aI (G.2 1) q_t_other 36 t_other, aI (G.2 1) q_t_before 222 m_164_1, aI (G.2 1) q_t_tall 49 w_t_tall_1] := hD
            obtain ⟨z_259, ez9⟩ : ∃ w, w = upd w_t_sign_3 (((6 : Int32) * v3_2) + v4_3).toNatClampNeg ((((w_t_tall_1 ((((7 : Int32) * v3_2) + (8 : Int32)) + v4_3).toNatClampNeg) - (w_t_tall_1 ((((7 : Int32) * v3_2) + (7 : Int32)) + v4_3).toNatClampNeg)) - (w_t_tall_1 ((((7 : Int32) * v3_2) + (1 : Int32)) + v4_3).toNatClampNeg)) + (w_t_tall_1 (((7 : Int32) * v3_2) + v4_3).toNatClampNeg)) := ⟨_, rfl⟩
            rw [← ez9] at hE hP hD
            replace hE := bs_some hE
            try dsimp only at hE
            clear ez9
            refine lv_iinc (v := v4_3 + (1 : Int32)) (lv' := [(4, .int (v4_3 + (1 : Int32))), (0, .ref q_t), (2, .int v2_1), (3, .int v3_2)]) hx hb dX6_both_260 hl (k := 3) rfl rfl (by decide) rfl (fun ls hl => ?_)
            refine lv_goto (tgt := 180) hx hb dX6_both_263 (by decide) ?_
            have e_3 := Option.some.inj hE
            exact ih_3 _ e_3.symm _ _ ls hP hD hS (lv_sub hl [1, 2, 3, 0] rfl)
      · replace hE := (if_neg c_35).symm.trans hE
        refine lv_iconst (v := 0) hx hb dX6_both_38 (by decide) ?_
        refine lv_istore (lv' := [(4, .int (0 : Int32)), (0, .ref q_t), (1, .int p1), (2, .int v2_1), (3, .int v3_1)]) hx hb dX6_both_39 hl (by decide) rfl (fun ls hl => ?_)
        refine itr_ind (fun (x4 : Int32 × Int32 × (Nat → Int32)) => ∀ (H : Heap) (locs : List Loc) (ls : Array Slot), va_P G.1 vwCl [oX6 q_t t_length q_t_text t_size q_t_sign t_otherSize q_t_other q_t_before t_undoMany t_readSize q_t_read q_t_side q_t_tall q_t_endRow q_t_endColumn q_t_endSide q_t_gone t_lineRow t_lineColumn t_lineSide t_lineMany q_t_ways q_t_codes q_t_many, aI (G.2 1) q_t_sign 36 t_sign, aI (G.2 1) q_t_other 36 t_other, aI (G.2 1) q_t_before 222 t_before, aI (G.2 1) q_t_tall 49 x4.2.2] H → va_D A [oX6 q_t t_length q_t_text t_size q_t_sign t_otherSize q_t_other q_t_before t_undoMany t_readSize q_t_read q_t_side q_t_tall q_t_endRow q_t_endColumn q_t_endSide q_t_gone t_lineRow t_lineColumn t_lineSide t_lineMany q_t_ways q_t_codes q_t_many, aI (G.2 1) q_t_sign 36 t_sign, aI (G.2 1) q_t_other 36 t_other, aI (G.2 1) q_t_before 222 t_before, aI (G.2 1) q_t_tall 49 x4.2.2] → va_S A s.heap H locs → lv_has ls 8 [(0, .ref q_t), (1, .int p1), (2, .int x4.1), (3, .int v3_1), (4, .int x4.2.1)] → W p l e (headSpec wsX6_both ({ frames := 2, cells := 0, slots := 0, locals := 47 })).room s m ([.ref q_t, .int p1] : List Value).toArray below meth c H locs 0 0 Q (F0 m 41 ls [])) (fun x4 o_2 hE ih_2 hr_2 => ?_) _ _ hE _ _ ls hP hD hS (lv_sub hl [1, 2, 3, 4, 0] rfl)
        obtain ⟨v2_4, v4_4, w_t_tall_4⟩ := x4
        try dsimp only at hE
        intro H locs ls hP hD hS hl
        try dsimp only at hP hD hl ⊢
        refine lv_iload hx hb dX6_both_41 (lv_at hl 4 rfl) ?_
        refine lv_aload_n hx hb dX6_both_43 rfl (lv_at hl 0 rfl) ?_
        refine va_get (D := G.1) (ci := 6) (v := .int t_size) (C := RX6) (T := TX6) (N := 23) hx hb hts iX6 hown hK hP 0 rfl rfl 2 (by decide) fl_54 (fun _ h9 => h9) rfl dX6_both_44 ?_
        refine lv_icmp_gt (tgt := 157) hx hb dX6_both_47 (by decide) (fun c_47 => ?_) (fun c_47 => ?_)
        · replace hE := (if_pos c_47).symm.trans hE
          refine lv_iinc (v := v3_1 + (1 : Int32)) (lv' := [(3, .int (v3_1 + (1 : Int32))), (0, .ref q_t), (1, .int p1), (2, .int v2_4), (4, .int v4_4)]) hx hb dX6_both_157 hl (k := 3) rfl rfl (by decide) rfl (fun ls hl => ?_)
          refine lv_goto (tgt := 30) hx hb dX6_both_160 (by decide) ?_
          have e_2 := Option.some.inj hE
          have e_1 := hr_2 _ e_2.symm
          exact ih_1 _ e_1.symm _ _ ls hP hD hS (lv_sub hl [1, 2, 3, 0] rfl)
        · replace hE := (if_neg c_47).symm.trans hE
          refine lv_aload_n hx hb dX6_both_50 rfl (lv_at hl 0 rfl) ?_
          refine va_get (D := G.1) (ci := 6) (v := .ref q_t_sign) (C := RX6) (T := TX6) (N := 23) hx hb hts iX6 hown hK hP 0 rfl rfl 3 (by decide) fl_13 (fun _ h9 => h9) rfl dX6_both_51 ?_
          refine lv_iload_n hx hb dX6_both_54 rfl (lv_at hl 3 rfl) ?_
          refine lv_iload hx hb dX6_both_55 (lv_at hl 4 rfl) ?_
          obtain ⟨y57, hC_57, hE⟩ := Option.bind_eq_some_iff.mp hE
          obtain ⟨r_57, ex9⟩ : ∃ z, z = y57 := ⟨_, rfl⟩
          subst ex9
          try dsimp only at hE
          refine vp_callSi (va_Run.run (va_runS (As := [.ref q_t_sign, .int v3_1, .int v4_4]) (rest := []) ⟨hx, hb, hml, hown, hts⟩ (c_X6_heightOf (l := l) (G := G) (p2 := v3_1) (p3 := v4_4) (q_p1 := q_t_sign) (p1 := t_sign) hC_57) (va_cwS 3 hts gX6_both_X6_heightOf rfl rfl rfl kd_X6_heightOf ⟨Nat.le_of_ble_eq_true rfl, Nat.le_of_ble_eq_true rfl⟩) (pv_S hKW (hP.sub (ws' := [aI (G.2 1) q_t_sign 36 t_sign]) [1] rfl)) rfl rfl hl.1 rfl (lv_room (Nat.le_of_ble_eq_true rfl)) dX6_both_57 ⟨Nat.zero_le _, Nat.zero_le _⟩)) (fun r9 hr9 => ?_)
          subst r9
          refine lv_istore (lv' := [(5, .int r_57), (0, .ref q_t), (1, .int p1), (2, .int v2_4), (3, .int v3_1), (4, .int v4_4)]) hx hb dX6_both_60 hl (by decide) rfl (fun ls hl => ?_)
          refine lv_aload_n hx hb dX6_both_62 rfl (lv_at hl 1 rfl) ?_
          refine va_get (D := G.1) (ci := 6) (v := .ref q_t_other) (C := RX6) (T := TX6) (N := 23) hx hb hts iX6 hown hK hP 0 rfl rfl 5 (by decide) fl_16 (fun _ h9 => h9) rfl dX6_both_63 ?_
          refine lv_iload_n hx hb dX6_both_66 rfl (lv_at hl 4 rfl) ?_
          refine lv_iload hx hb dX6_both_67 (lv_at hl 5 rfl) ?_
          obtain ⟨y69, hC_69, hE⟩ := Option.bind_eq_some_iff.mp hE
          obtain ⟨r_69, ex9⟩ : ∃ z, z = y69 := ⟨_, rfl⟩
          subst ex9
          try dsimp only at hE
          refine vp_callSi (va_Run.run (va_runS (As := [.ref q_t_other, .int v3_1, .int v4_4]) (rest := []) ⟨hx, hb, hml, hown, hts⟩ (c_X6_heightOf (l := l) (G := G) (p2 := v3_1) (p3 := v4_4) (q_p1 := q_t_other) (p1 := t_other) hC_69) (va_cwS 3 hts gX6_both_X6_heightOf rfl rfl rfl kd_X6_heightOf ⟨Nat.le_of_ble_eq_true rfl, Nat.le_of_ble_eq_true rfl⟩) (pv_S hKW (hP.sub (ws' := [aI (G.2 1) q_t_other 36 t_other]) [2] rfl)) rfl rfl hl.1 rfl (lv_room (Nat.le_of_ble_eq_true rfl)) dX6_both_69 ⟨Nat.zero_le _, Nat.zero_le _⟩)) (fun r9 hr9 => ?_)
          subst r9
          refine lv_istore (lv' := [(6, .int r_69), (5, .int r_57), (0, .ref q_t), (1, .int p1), (2, .int v2_4), (3, .int v3_1), (4, .int v4_4)]) hx hb dX6_both_72 hl (by decide) rfl (fun ls hl => ?_)
          refine lv_iload_n hx hb dX6_both_74 rfl (lv_at hl 3 rfl) ?_
          obtain ⟨o_3, hEp, hk9, hr_3⟩ := jn_some hE
          have ih_3 : ∀ (x5 : Int32), o_3 = .inl x5 → ∀ (H : Heap) (locs : List Loc) (ls : Array Slot), va_P G.1 vwCl [oX6 q_t t_length q_t_text t_size q_t_sign t_otherSize q_t_other q_t_before t_undoMany t_readSize q_t_read q_t_side q_t_tall q_t_endRow q_t_endColumn q_t_endSide q_t_gone t_lineRow t_lineColumn t_lineSide t_lineMany q_t_ways q_t_codes q_t_many, aI (G.2 1) q_t_sign 36 t_sign, aI (G.2 1) q_t_other 36 t_other, aI (G.2 1) q_t_before 222 t_before, aI (G.2 1) q_t_tall 49 w_t_tall_4] H → va_D A [oX6 q_t t_length q_t_text t_size q_t_sign t_otherSize q_t_other q_t_before t_undoMany t_readSize q_t_read q_t_side q_t_tall q_t_endRow q_t_endColumn q_t_endSide q_t_gone t_lineRow t_lineColumn t_lineSide t_lineMany q_t_ways q_t_codes q_t_many, aI (G.2 1) q_t_sign 36 t_sign, aI (G.2 1) q_t_other 36 t_other, aI (G.2 1) q_t_before 222 t_before, aI (G.2 1) q_t_tall 49 w_t_tall_4] → va_S A s.heap H locs → lv_has ls 8 [(0, .ref q_t), (1, .int p1), (2, .int v2_4), (3, .int v3_1), (4, .int v4_4), (5, .int r_57), (6, .int r_69)] → W p l e (headSpec wsX6_both ({ frames := 2, cells := 0, slots := 0, locals := 47 })).room s m ([.ref q_t, .int p1] : List Value).toArray below meth c H locs 0 0 Q (F0 m 105 ls [.int x5]) := by
            intro x5 ho9
            have hE := hk9 _ ho9
            obtain ⟨k0_5, ex9⟩ : ∃ z, z = x5 := ⟨_, rfl⟩
            subst ex9
            try dsimp only at hE
            intro H locs ls hP hD hS hl
            try dsimp only at hP hD hl ⊢
            refine lv_istore (lv' := [(7, .int k0_5), (0, .ref q_t), (1, .int p1), (2, .int v2_4), (3, .int v3_1), (4, .int v4_4), (5, .int r_57), (6, .int r_69)]) hx hb dX6_both_105 hl (by decide) rfl (fun ls hl => ?_)
            refine lv_iload_n hx hb dX6_both_107 rfl (lv_at hl 3 rfl) ?_
            refine lv_iload hx hb dX6_both_108 (lv_at hl 0 rfl) ?_
            obtain ⟨o_3, hEp, hk9, hr_3⟩ := jn_some hE
            have ih_3 : ∀ (x6 : Int32), o_3 = .inl x6 → ∀ (H : Heap) (locs : List Loc) (ls : Array Slot), va_P G.1 vwCl [oX6 q_t t_length q_t_text t_size q_t_sign t_otherSize q_t_other q_t_before t_undoMany t_readSize q_t_read q_t_side q_t_tall q_t_endRow q_t_endColumn q_t_endSide q_t_gone t_lineRow t_lineColumn t_lineSide t_lineMany q_t_ways q_t_codes q_t_many, aI (G.2 1) q_t_sign 36 t_sign, aI (G.2 1) q_t_other 36 t_other, aI (G.2 1) q_t_before 222 t_before, aI (G.2 1) q_t_tall 49 w_t_tall_4] H → va_D A [oX6 q_t t_length q_t_text t_size q_t_sign t_otherSize q_t_other q_t_before t_undoMany t_readSize q_t_read q_t_side q_t_tall q_t_endRow q_t_endColumn q_t_endSide q_t_gone t_lineRow t_lineColumn t_lineSide t_lineMany q_t_ways q_t_codes q_t_many, aI (G.2 1) q_t_sign 36 t_sign, aI (G.2 1) q_t_other 36 t_other, aI (G.2 1) q_t_before 222 t_before, aI (G.2 1) q_t_tall 49 w_t_tall_4] → va_S A s.heap H locs → lv_has ls 8 [(0, .ref q_t), (1, .int p1), (3, .int v3_1), (4, .int v4_4), (5, .int r_57), (6, .int r_69), (7, .int k0_5)] → W p l e (headSpec wsX6_both ({ frames := 2, cells := 0, slots := 0, locals := 47 })).room s m ([.ref q_t, .int p1] : List Value).toArray below meth c H locs 0 0 Q (F0 m 118 ls [.int x6, .int v2_4]) := by
              intro x6 ho9
              have hE := hk9 _ ho9
              obtain ⟨k1_6, ex9⟩ : ∃ z, z = x6 := ⟨_, rfl⟩
              subst ex9
              try dsimp only at hE
              intro H locs ls hP hD hS hl
              try dsimp only at hP hD hl ⊢
              refine lv_iadd hx hb dX6_both_118 ?_
              refine lv_istore_n (lv' := [(2, .int (v2_4 + k1_6)), (0, .ref q_t), (1, .int p1), (3, .int v3_1), (4, .int v4_4), (5, .int r_57), (6, .int r_69), (7, .int k0_5)]) hx hb dX6_both_119 rfl hl (by decide) rfl (fun ls hl => ?_)
              refine lv_aload_n hx hb dX6_both_120 rfl (lv_at hl 1 rfl) ?_
              refine va_get (D := G.1) (ci := 6) (v := .ref q_t_tall) (C := RX6) (T := TX6) (N := 23) hx hb hts iX6 hown hK hP 0 rfl rfl 11 (by decide) fl_28 (fun _ h9 => h9) rfl dX6_both_121 ?_
              refine lv_bipush (v := 7) hx hb dX6_both_124 (by decide) ?_
              refine lv_iload_n hx hb dX6_both_126 rfl (lv_at hl 3 rfl) ?_
              refine lv_imul hx hb dX6_both_127 ?_
              refine lv_iload hx hb dX6_both_128 (lv_at hl 4 rfl) ?_
              refine lv_iadd hx hb dX6_both_130 ?_
              refine lv_iload_n hx hb dX6_both_131 rfl (lv_at hl 3 rfl) ?_
              refine lv_iload hx hb dX6_both_132 (lv_at hl 4 rfl) ?_
              refine lv_iadd hx hb dX6_both_134 ?_
              refine lv_iload hx hb dX6_both_135 (lv_at hl 7 rfl) ?_
              refine lv_if_eq (tgt := 145) hx hb dX6_both_137 (by decide) (fun c_137 => ?_) (fun c_137 => ?_)
              · replace hE := (if_pos c_137).symm.trans hE
                refine lv_iload hx hb dX6_both_145 (lv_at hl 5 rfl) ?_
                refine lv_isub hx hb dX6_both_147 ?_
                refine lv_iconst (v := 2) hx hb dX6_both_148 (by decide) ?_
                refine lv_idiv hx hb dX6_both_149 (by decide) ?_
                obtain ⟨hi_150, hE⟩ := ck_some hE
                refine va_iast hx hb hK hP hD hS 4 1 rfl rfl (inb_in hi_150) dX6_both_150 (fun H locs hP hD hS => ?_)
                have hP : va_P G.1 vwCl [oX6 q_t t_length q_t_text t_size q_t_sign t_otherSize q_t_other q_t_before t_undoMany t_readSize q_t_read q_t_side q_t_tall q_t_endRow q_t_endColumn q_t_endSide q_t_gone t_lineRow t_lineColumn t_lineSide t_lineMany q_t_ways q_t_codes q_t_many, aI (G.2 1) q_t_sign 36 t_sign, aI (G.2 1) q_t_other 36 t_other, aI (G.2 1) q_t_before 222 t_before, aI (G.2 1) q_t_tall 49 (upd w_t_tall_4 (((7 : Int32) * v3_1) + v4_4).toNatClampNeg (((v3_1 + v4_4) - r_57) / (2 : Int32)))] H := hP
                have hD : va_D A [oX6 q_t t_length q_t_text t_size q_t_sign t_otherSize q_t_other q_t_before t_undoMany t_readSize q_t_read q_t_side q_t_tall q_t_endRow q_t_endColumn q_t_endSide q_t_gone t_lineRow t_lineColumn t_lineSide t_lineMany q_t_ways q_t_codes q_t_many, aI (G.2 1) q_t_sign 36 t_sign, aI (G.2 1) q_t_other 36 t_other, aI (G.2 1) q_t_before 222 t_before, aI (G.2 1) q_t_tall 49 (upd w_t_tall_4 (((7 : Int32) * v3_1) + v4_4).toNatClampNeg (((v3_1 + v4_4) - r_57) / (2 : Int32)))] := hD
                obtain ⟨z_150, ez9⟩ : ∃ w, w = upd w_t_tall_4 (((7 : Int32) * v3_1) + v4_4).toNatClampNeg (((v3_1 + v4_4) - r_57) / (2 : Int32)) := ⟨_, rfl⟩
                rw [← ez9] at hE hP hD
                replace hE := bs_some hE
                try dsimp only at hE
                clear ez9
                refine lv_iinc (v := v4_4 + (1 : Int32)) (lv' := [(4, .int (v4_4 + (1 : Int32))), (2, .int (v2_4 + k1_6)), (0, .ref q_t), (1, .int p1), (3, .int v3_1), (5, .int r_57), (6, .int r_69), (7, .int k0_5)]) hx hb dX6_both_151 hl (k := 4) rfl rfl (by decide) rfl (fun ls hl => ?_)
                refine lv_goto (tgt := 41) hx hb dX6_both_154 (by decide) ?_
                have e_2 := Option.some.inj hE
                exact ih_2 _ e_2.symm _ _ ls hP hD hS (lv_sub hl [2, 3, 1, 4, 0] rfl)
              · replace hE := (if_neg c_137).symm.trans hE
                refine lv_iload hx hb dX6_both_140 (lv_at hl 6 rfl) ?_
                refine lv_goto (tgt := 147) hx hb dX6_both_142 (by decide) ?_
                refine lv_isub hx hb dX6_both_147 ?_
                refine lv_iconst (v := 2) hx hb dX6_both_148 (by decide) ?_
                refine lv_idiv hx hb dX6_both_149 (by decide) ?_
                obtain ⟨hi_150, hE⟩ := ck_some hE
                refine va_iast hx hb hK hP hD hS 4 1 rfl rfl (inb_in hi_150) dX6_both_150 (fun H locs hP hD hS => ?_)
                have hP : va_P G.1 vwCl [oX6 q_t t_length q_t_text t_size q_t_sign t_otherSize q_t_other q_t_before t_undoMany t_readSize q_t_read q_t_side q_t_tall q_t_endRow q_t_endColumn q_t_endSide q_t_gone t_lineRow t_lineColumn t_lineSide t_lineMany q_t_ways q_t_codes q_t_many, aI (G.2 1) q_t_sign 36 t_sign, aI (G.2 1) q_t_other 36 t_other, aI (G.2 1) q_t_before 222 t_before, aI (G.2 1) q_t_tall 49 (upd w_t_tall_4 (((7 : Int32) * v3_1) + v4_4).toNatClampNeg (((v3_1 + v4_4) - r_69) / (2 : Int32)))] H := hP
                have hD : va_D A [oX6 q_t t_length q_t_text t_size q_t_sign t_otherSize q_t_other q_t_before t_undoMany t_readSize q_t_read q_t_side q_t_tall q_t_endRow q_t_endColumn q_t_endSide q_t_gone t_lineRow t_lineColumn t_lineSide t_lineMany q_t_ways q_t_codes q_t_many, aI (G.2 1) q_t_sign 36 t_sign, aI (G.2 1) q_t_other 36 t_other, aI (G.2 1) q_t_before 222 t_before, aI (G.2 1) q_t_tall 49 (upd w_t_tall_4 (((7 : Int32) * v3_1) + v4_4).toNatClampNeg (((v3_1 + v4_4) - r_69) / (2 : Int32)))] := hD
                obtain ⟨z_150, ez9⟩ : ∃ w, w = upd w_t_tall_4 (((7 : Int32) * v3_1) + v4_4).toNatClampNeg (((v3_1 + v4_4) - r_69) / (2 : Int32)) := ⟨_, rfl⟩
                rw [← ez9] at hE hP hD
                replace hE := bs_some hE
                try dsimp only at hE
                clear ez9
                refine lv_iinc (v := v4_4 + (1 : Int32)) (lv' := [(4, .int (v4_4 + (1 : Int32))), (2, .int (v2_4 + k1_6)), (0, .ref q_t), (1, .int p1), (3, .int v3_1), (5, .int r_57), (6, .int r_69), (7, .int k0_5)]) hx hb dX6_both_151 hl (k := 4) rfl rfl (by decide) rfl (fun ls hl => ?_)
                refine lv_goto (tgt := 41) hx hb dX6_both_154 (by decide) ?_
                have e_2 := Option.some.inj hE
                exact ih_2 _ e_2.symm _ _ ls hP hD hS (lv_sub hl [2, 3, 1, 4, 0] rfl)
            clear hE hk9
            have hE := hEp
            clear hEp
            refine lv_if_eq (tgt := 117) hx hb dX6_both_110 (by decide) (fun c_110 => ?_) (fun c_110 => ?_)
            · replace hE := (if_pos c_110).symm.trans hE
              refine lv_iconst (v := 0) hx hb dX6_both_117 (by decide) ?_
              have e_3 := Option.some.inj hE
              exact ih_3 _ e_3.symm _ _ ls hP hD hS (lv_sub hl [1, 2, 4, 5, 6, 7, 0] rfl)
            · replace hE := (if_neg c_110).symm.trans hE
              refine lv_iconst (v := 1) hx hb dX6_both_113 (by decide) ?_
              refine lv_goto (tgt := 118) hx hb dX6_both_114 (by decide) ?_
              have e_3 := Option.some.inj hE
              exact ih_3 _ e_3.symm _ _ ls hP hD hS (lv_sub hl [1, 2, 4, 5, 6, 7, 0] rfl)
          clear hE hk9
          have hE := hEp
          clear hEp
          refine lv_if_ne (tgt := 93) hx hb dX6_both_75 (by decide) (fun c_75 => ?_) (fun c_75 => ?_)
          · replace hE := (if_neg c_75).symm.trans hE
            refine lv_iload hx hb dX6_both_93 (lv_at hl 0 rfl) ?_
            refine lv_iload hx hb dX6_both_95 (lv_at hl 1 rfl) ?_
            refine lv_icmp_le (tgt := 104) hx hb dX6_both_97 (by decide) (fun c_97 => ?_) (fun c_97 => ?_)
            · replace hE := (if_pos c_97).symm.trans hE
              refine lv_iconst (v := 0) hx hb dX6_both_104 (by decide) ?_
              have e_3 := Option.some.inj hE
              exact ih_3 _ e_3.symm _ _ ls hP hD hS (lv_sub hl [2, 3, 4, 5, 6, 1, 0] rfl)
            · replace hE := (if_neg c_97).symm.trans hE
              refine lv_iconst (v := 1) hx hb dX6_both_100 (by decide) ?_
              refine lv_goto (tgt := 105) hx hb dX6_both_101 (by decide) ?_
              have e_3 := Option.some.inj hE
              exact ih_3 _ e_3.symm _ _ ls hP hD hS (lv_sub hl [2, 3, 4, 5, 6, 1, 0] rfl)
          · replace hE := (if_pos c_75).symm.trans hE
            refine lv_iload hx hb dX6_both_78 (lv_at hl 0 rfl) ?_
            refine lv_iload hx hb dX6_both_80 (lv_at hl 1 rfl) ?_
            refine lv_icmp_ge (tgt := 89) hx hb dX6_both_82 (by decide) (fun c_82 => ?_) (fun c_82 => ?_)
            · replace hE := (if_pos c_82).symm.trans hE
              refine lv_iconst (v := 0) hx hb dX6_both_89 (by decide) ?_
              refine lv_goto (tgt := 105) hx hb dX6_both_90 (by decide) ?_
              have e_3 := Option.some.inj hE
              exact ih_3 _ e_3.symm _ _ ls hP hD hS (lv_sub hl [2, 3, 4, 5, 6, 1, 0] rfl)
            · replace hE := (if_neg c_82).symm.trans hE
              refine lv_iconst (v := 1) hx hb dX6_both_85 (by decide) ?_
              refine lv_goto (tgt := 105) hx hb dX6_both_86 (by decide) ?_
              have e_3 := Option.some.inj hE
              exact ih_3 _ e_3.symm _ _ ls hP hD hS (lv_sub hl [2, 3, 4, 5, 6, 1, 0] rfl)
    · replace hE := (if_neg c_20).symm.trans hE
      refine lv_bipush (v := -2) hx hb dX6_both_23 (by decide) ?_
      have e_0 := Option.some.inj hE
      subst e_0
      rw [hQ]
      exact W.iret (v := (-2 : Int32)) hx hb hr (fun t ht _ => ⟨⟨_, (), rfl, rfl, by rw [ht]; exact hP, hD⟩, hS.F ht⟩) hS.2.2 dX6_both_25
  · replace hE := (if_pos c_7).symm.trans hE
    refine lv_iconst (v := -1) hx hb dX6_both_10 (by decide) ?_
    have e_0 := Option.some.inj hE
    subst e_0
    rw [hQ]
    exact W.iret (v := (-1 : Int32)) hx hb hr (fun t ht _ => ⟨⟨_, (), rfl, rfl, by rw [ht]; exact hP, hD⟩, hS.F ht⟩) hS.2.2 dX6_both_11
def S_X6_turn (p1 : Int32) (t_size : Int32) (t_undoMany : Int32) (t_sign : Nat → Int32) (t_before : Nat → Int32) (t_side : Nat → Int32) : Option (Int32 × Int32 × (Nat → Int32) × (Nat → Int32) × (Nat → Int32)) := (S_X6_in p1.toInt64 (1 : Int64) (6 : Int64)).bind (fun (y6 : Int32) => if y6 = 0 then some ((-1 : Int32), t_undoMany, t_sign, t_before, t_side) else (S_X6_note t_size t_undoMany t_sign t_before).bind (fun (y15 : Int32 × (Nat → Int32)) => (S_X6_copy t_sign t_side).bind (fun (y26 : Nat → Int32) => itr (fun (x1 : Int32 × Int32 × (Nat → Int32)) => if t_size ≤ x1.2.1 then some (.inr (x1.1, y15.1, x1.2.2, y15.2, y26)) else itr (fun (x2 : Int32 × Int32 × (Nat → Int32)) => if t_size ≤ x2.2.1 then some (.inr (.inl (x2.1, x1.2.1 + (1 : Int32), x2.2.2))) else jn (if p1 = (1 : Int32) then some (.inl (((6 : Int32) * ((t_size - (1 : Int32)) - x2.2.1)) + x1.2.1)) else if p1 = (2 : Int32) then some (.inl ((((6 : Int32) * ((t_size - (1 : Int32)) - x1.2.1)) + (t_size - (1 : Int32))) - x2.2.1)) else if p1 = (3 : Int32) then some (.inl ((((6 : Int32) * x2.2.1) + (t_size - (1 : Int32))) - x1.2.1)) else if p1 = (4 : Int32) then some (.inl ((((6 : Int32) * x1.2.1) + (t_size - (1 : Int32))) - x2.2.1)) else if p1 = (5 : Int32) then some (.inl (((6 : Int32) * ((t_size - (1 : Int32)) - x1.2.1)) + x2.2.1)) else some (.inl (((6 : Int32) * x2.2.1) + x1.2.1))) (fun (x3 : Int32) => ck (inb x3 36) (ck (inb (((6 : Int32) * x1.2.1) + x2.2.1) 36) (jn (if (y26 x3.toNatClampNeg) = (x2.2.2 (((6 : Int32) * x1.2.1) + x2.2.1).toNatClampNeg) then some (.inl (0 : Int32)) else some (.inl (1 : Int32))) (fun (x4 : Int32) => ck (inb x3 36) (ck (inb (((6 : Int32) * x1.2.1) + x2.2.1) 36) (some (.inl (x2.1 + x4, x2.2.1 + (1 : Int32), upd x2.2.2 (((6 : Int32) * x1.2.1) + x2.2.1).toNatClampNeg (y26 x3.toNatClampNeg)))))))))) 10000 (x1.1, (0 : Int32), x1.2.2)) 10000 ((0 : Int32), (0 : Int32), t_sign))))
theorem kd_X6_turn : yX6_turn.cls = RX6 ∧ yX6_turn.cls ≠ "java/lang/invoke/MethodHandle" ∧ yX6_turn.cls ≠ "java/lang/invoke/VarHandle" ∧ (parseMethodDescriptor yX6_turn.desc).map (fun d => d.parameters.length) = some 1 := by decide +kernel
set_option maxHeartbeats 4000000 in
set_option maxRecDepth 100000 in
theorem c_X6_turn {l : Launch} {G : kG} (sz : Nat) {p1 : Int32} {q_t : Nat} {t_length : Int32} {q_t_text : Nat} {t_size : Int32} {q_t_sign : Nat} {t_otherSize : Int32} {q_t_other : Nat} {q_t_before : Nat} {t_undoMany : Int32} {t_readSize : Int32} {q_t_read : Nat} {q_t_side : Nat} {q_t_tall : Nat} {q_t_endRow : Nat} {q_t_endColumn : Nat} {q_t_endSide : Nat} {q_t_gone : Nat} {t_lineRow : Int32} {t_lineColumn : Int32} {t_lineSide : Int32} {t_lineMany : Int32} {q_t_ways : Nat} {q_t_codes : Nat} {q_t_many : Nat} {t_sign : Nat → Int32} {t_before : Nat → Int32} {t_side : Nat → Int32} {res : Int32 × Int32 × (Nat → Int32) × (Nat → Int32) × (Nat → Int32)} (hE : S_X6_turn p1 t_size t_undoMany t_sign t_before t_side = some res) : Met l yX6_turn wsX6_turn ({ frames := 1, cells := 0, slots := 0, locals := 25 }) (va_Pc [.ref q_t, .int p1] (fun U => U.heap.size = sz ∧ va_P G.1 vwCl [oX6 q_t t_length q_t_text t_size q_t_sign t_otherSize q_t_other q_t_before t_undoMany t_readSize q_t_read q_t_side q_t_tall q_t_endRow q_t_endColumn q_t_endSide q_t_gone t_lineRow t_lineColumn t_lineSide t_lineMany q_t_ways q_t_codes q_t_many, aI (G.2 1) q_t_sign 36 t_sign, aI (G.2 1) q_t_before 222 t_before, aI (G.2 1) q_t_side 36 t_side] U.heap ∧ kw G U ∧ va_D (fun _ => True) [oX6 q_t t_length q_t_text t_size q_t_sign t_otherSize q_t_other q_t_before t_undoMany t_readSize q_t_read q_t_side q_t_tall q_t_endRow q_t_endColumn q_t_endSide q_t_gone t_lineRow t_lineColumn t_lineSide t_lineMany q_t_ways q_t_codes q_t_many, aI (G.2 1) q_t_sign 36 t_sign, aI (G.2 1) q_t_before 222 t_before, aI (G.2 1) q_t_side 36 t_side])) (va_Qi (fun r (_ : Unit) => r = res.1) (fun _ t => va_P G.1 vwCl [oX6 q_t t_length q_t_text t_size q_t_sign t_otherSize q_t_other q_t_before res.2.1 t_readSize q_t_read q_t_side q_t_tall q_t_endRow q_t_endColumn q_t_endSide q_t_gone t_lineRow t_lineColumn t_lineSide t_lineMany q_t_ways q_t_codes q_t_many, aI (G.2 1) q_t_sign 36 res.2.2.1, aI (G.2 1) q_t_before 222 res.2.2.2.1, aI (G.2 1) q_t_side 36 res.2.2.2.2] t.heap ∧ va_D (va_A [oX6 q_t t_length q_t_text t_size q_t_sign t_otherSize q_t_other q_t_before t_undoMany t_readSize q_t_read q_t_side q_t_tall q_t_endRow q_t_endColumn q_t_endSide q_t_gone t_lineRow t_lineColumn t_lineSide t_lineMany q_t_ways q_t_codes q_t_many, aI (G.2 1) q_t_sign 36 t_sign, aI (G.2 1) q_t_before 222 t_before, aI (G.2 1) q_t_side 36 t_side] sz) [oX6 q_t t_length q_t_text t_size q_t_sign t_otherSize q_t_other q_t_before res.2.1 t_readSize q_t_read q_t_side q_t_tall q_t_endRow q_t_endColumn q_t_endSide q_t_gone t_lineRow t_lineColumn t_lineSide t_lineMany q_t_ways q_t_codes q_t_many, aI (G.2 1) q_t_sign 36 res.2.2.1, aI (G.2 1) q_t_before 222 res.2.2.2.1, aI (G.2 1) q_t_side 36 res.2.2.2.2]) (va_A [oX6 q_t t_length q_t_text t_size q_t_sign t_otherSize q_t_other q_t_before t_undoMany t_readSize q_t_read q_t_side q_t_tall q_t_endRow q_t_endColumn q_t_endSide q_t_gone t_lineRow t_lineColumn t_lineSide t_lineMany q_t_ways q_t_codes q_t_many, aI (G.2 1) q_t_sign 36 t_sign, aI (G.2 1) q_t_before 222 t_before, aI (G.2 1) q_t_side 36 t_side] sz)) 0 0 (va_A [oX6 q_t t_length q_t_text t_size q_t_sign t_otherSize q_t_other q_t_before t_undoMany t_readSize q_t_read q_t_side q_t_tall q_t_endRow q_t_endColumn q_t_endSide q_t_gone t_lineRow t_lineColumn t_lineSide t_lineMany q_t_ways q_t_codes q_t_many, aI (G.2 1) q_t_sign 36 t_sign, aI (G.2 1) q_t_before 222 t_before, aI (G.2 1) q_t_side 36 t_side] sz) := by
  refine Met.ofQ (cc := cX6_turn) (maxL := 7) (ret := (some .int)) (by decide) rfl ?_
  intro p e s m args below meth c s₁ Q hQ B hml hv
  obtain ⟨rfl, hsz, hP, hKW, hD0⟩ := hv
  have hK := hKW.1
  have hx := B.exec
  have hb := B.bytes
  have hr := B.returns
  have hts := atoms_spec (ws := wsX6_turn) B.pre
  have hown : s.vm.findClass RX6 = some m.cls := findClass_of_methodNamed B.named
  have hlocks := B.notSynchronized
  have iX6 : ∀ w ∈ u_ws RX6 TX6 23, w ∈ wsX6_turn := by decide +kernel
  have fl_13 := hts (.fieldLink RX6 13 "AlternateSignsModel" "sign" "[I") (by decide +kernel)
  have fl_25 := hts (.fieldLink RX6 25 "AlternateSignsModel" "side" "[I") (by decide +kernel)
  have fl_54 := hts (.fieldLink RX6 54 "AlternateSignsModel" "size" "I") (by decide +kernel)
  subst hsz
  have hD := hD0.self (sz := s.heap.size)
  generalize hAe : va_A [oX6 q_t t_length q_t_text t_size q_t_sign t_otherSize q_t_other q_t_before t_undoMany t_readSize q_t_read q_t_side q_t_tall q_t_endRow q_t_endColumn q_t_endSide q_t_gone t_lineRow t_lineColumn t_lineSide t_lineMany q_t_ways q_t_codes q_t_many, aI (G.2 1) q_t_sign 36 t_sign, aI (G.2 1) q_t_before 222 t_before, aI (G.2 1) q_t_side 36 t_side] s.heap.size = A at hD hQ
  have hA : ∀ q : Nat, s.heap.size ≤ q → A q := fun q h => by rw [← hAe]; exact Or.inr h
  have hS : va_S A s.heap s.heap [] := va_S.rf
  have hl := lv_entry ([.ref q_t, .int p1]) (n := 7) (Nat.le_of_ble_eq_true rfl)
  rw [lg_entry_eq]
  generalize (lg_sl ([.ref q_t, .int p1]) ++ List.replicate (7 - (lg_sl ([.ref q_t, .int p1])).length) Slot.unset).toArray = ls at hl ⊢
  have hl : lv_has ls 7 [(0, .ref q_t), (1, .int p1)] := hl
  unfold S_X6_turn at hE
  refine lv_iload_n hx hb dX6_turn_0 rfl (lv_at hl 1 rfl) ?_
  refine lv_i2l (v := p1.toInt64) hx hb dX6_turn_1 rfl ?_
  refine lv_lconst (v := 1) hx hb dX6_turn_2 (by decide) ?_
  refine lv_ldc2 (v := 6) hx hb hown (hts (.constantLong RX6 124 (6)) (by decide +kernel)) dX6_turn_3 ?_
  obtain ⟨y6, hC_6, hE⟩ := Option.bind_eq_some_iff.mp hE
  obtain ⟨r_6, ex9⟩ : ∃ z, z = y6 := ⟨_, rfl⟩
  subst ex9
  try dsimp only at hE
  refine vp_callSi (va_Run.run (va_runS (As := [.long p1.toInt64, .long (1 : Int64), .long (6 : Int64)]) (rest := []) ⟨hx, hb, hml, hown, hts⟩ (c_X6_in (l := l) (G := G) (p1 := p1.toInt64) (p2 := (1 : Int64)) (p3 := (6 : Int64)) hC_6) (va_cwS 3 hts gX6_turn_X6_in rfl rfl rfl kd_X6_in ⟨Nat.le_of_ble_eq_true rfl, Nat.le_of_ble_eq_true rfl⟩) (pv_S hKW (hP.sub (ws' := []) [] rfl)) rfl rfl hl.1 rfl (lv_room (Nat.le_of_ble_eq_true rfl)) dX6_turn_6 ⟨Nat.zero_le _, Nat.zero_le _⟩)) (fun r9 hr9 => ?_)
  subst r9
  refine lv_if_ne (tgt := 14) hx hb dX6_turn_9 (by decide) (fun c_9 => ?_) (fun c_9 => ?_)
  · replace hE := (if_neg c_9).symm.trans hE
    refine lv_aload_n hx hb dX6_turn_14 rfl (lv_at hl 0 rfl) ?_
    obtain ⟨y15, hC_15, hE⟩ := Option.bind_eq_some_iff.mp hE
    obtain ⟨m_15_0, m_15_1⟩ := y15
    try dsimp only at hE
    have hPc := hP.sub (ws' := [oX6 q_t t_length q_t_text t_size q_t_sign t_otherSize q_t_other q_t_before t_undoMany t_readSize q_t_read q_t_side q_t_tall q_t_endRow q_t_endColumn q_t_endSide q_t_gone t_lineRow t_lineColumn t_lineSide t_lineMany q_t_ways q_t_codes q_t_many, aI (G.2 1) q_t_sign 36 t_sign, aI (G.2 1) q_t_before 222 t_before]) [0, 1, 2] rfl
    have hDc := hD.sub (ws' := [oX6 q_t t_length q_t_text t_size q_t_sign t_otherSize q_t_other q_t_before t_undoMany t_readSize q_t_read q_t_side q_t_tall q_t_endRow q_t_endColumn q_t_endSide q_t_gone t_lineRow t_lineColumn t_lineSide t_lineMany q_t_ways q_t_codes q_t_many, aI (G.2 1) q_t_sign 36 t_sign, aI (G.2 1) q_t_before 222 t_before]) [0, 1, 2] (by decide) rfl
    have hFc := va_free (wc := [oX6 q_t t_length q_t_text t_size q_t_sign t_otherSize q_t_other q_t_before t_undoMany t_readSize q_t_read q_t_side q_t_tall q_t_endRow q_t_endColumn q_t_endSide q_t_gone t_lineRow t_lineColumn t_lineSide t_lineMany q_t_ways q_t_codes q_t_many, aI (G.2 1) q_t_sign 36 t_sign, aI (G.2 1) q_t_before 222 t_before]) hD hS hA [0, 1, 2] rfl
    refine va_callv (va_runV (As := []) (rest := []) ⟨hx, hb, hml, hown, hts⟩ (c_X6_note (l := l) (G := G) _ (q_t := q_t) (t_length := t_length) (q_t_text := q_t_text) (t_size := t_size) (q_t_sign := q_t_sign) (t_otherSize := t_otherSize) (q_t_other := q_t_other) (q_t_before := q_t_before) (t_undoMany := t_undoMany) (t_readSize := t_readSize) (q_t_read := q_t_read) (q_t_side := q_t_side) (q_t_tall := q_t_tall) (q_t_endRow := q_t_endRow) (q_t_endColumn := q_t_endColumn) (q_t_endSide := q_t_endSide) (q_t_gone := q_t_gone) (t_lineRow := t_lineRow) (t_lineColumn := t_lineColumn) (t_lineSide := t_lineSide) (t_lineMany := t_lineMany) (q_t_ways := q_t_ways) (q_t_codes := q_t_codes) (q_t_many := q_t_many) (t_sign := t_sign) (t_before := t_before) hC_15) (cwV 0 hts gX6_turn_X6_note rfl rfl rfl kd_X6_note ⟨Nat.le_of_ble_eq_true rfl, Nat.le_of_ble_eq_true rfl⟩) (iv_V hKW hPc hDc (ci := 6) (q0 := 0) rfl rfl) rfl rfl hl.1 rfl (lv_room (Nat.le_of_ble_eq_true rfl)) dX6_turn_15 ⟨Nat.zero_le _, Nat.zero_le _⟩) hS (fun q _ h => hFc q h) hFc (fun u9 t9 H1 locs ht9 hvm9 hw9 hB9 hz9 hk9 hS => ?_)
    obtain ⟨hP1, hD1⟩ := hB9
    rw [ht9] at hP1
    obtain ⟨hP, hD⟩ := va_join (wr := [aI (G.2 1) q_t_side 36 t_side]) (w1 := [oX6 q_t t_length q_t_text t_size q_t_sign t_otherSize q_t_other q_t_before m_15_0 t_readSize q_t_read q_t_side q_t_tall q_t_endRow q_t_endColumn q_t_endSide q_t_gone t_lineRow t_lineColumn t_lineSide t_lineMany q_t_ways q_t_codes q_t_many, aI (G.2 1) q_t_sign 36 t_sign, aI (G.2 1) q_t_before 222 m_15_1]) hP hD [0, 1, 2] [3] rfl rfl (by decide) (by decide) hk9 hFc hP1 hD1
    have hP := hP.sub (ws' := [oX6 q_t t_length q_t_text t_size q_t_sign t_otherSize q_t_other q_t_before m_15_0 t_readSize q_t_read q_t_side q_t_tall q_t_endRow q_t_endColumn q_t_endSide q_t_gone t_lineRow t_lineColumn t_lineSide t_lineMany q_t_ways q_t_codes q_t_many, aI (G.2 1) q_t_sign 36 t_sign, aI (G.2 1) q_t_before 222 m_15_1, aI (G.2 1) q_t_side 36 t_side]) [1, 2, 3, 0] rfl
    have hD := hD.sub (ws' := [oX6 q_t t_length q_t_text t_size q_t_sign t_otherSize q_t_other q_t_before m_15_0 t_readSize q_t_read q_t_side q_t_tall q_t_endRow q_t_endColumn q_t_endSide q_t_gone t_lineRow t_lineColumn t_lineSide t_lineMany q_t_ways q_t_codes q_t_many, aI (G.2 1) q_t_sign 36 t_sign, aI (G.2 1) q_t_before 222 m_15_1, aI (G.2 1) q_t_side 36 t_side]) [1, 2, 3, 0] (by decide) rfl
    clear hPc hDc hFc hP1 hD1 hk9 hz9 hvm9
    refine lv_aload_n hx hb dX6_turn_18 rfl (lv_at hl 0 rfl) ?_
    refine va_get (D := G.1) (ci := 6) (v := .ref q_t_sign) (C := RX6) (T := TX6) (N := 23) hx hb hts iX6 hown hK hP 0 rfl rfl 3 (by decide) fl_13 (fun _ h9 => h9) rfl dX6_turn_19 ?_
    refine lv_aload_n hx hb dX6_turn_22 rfl (lv_at hl 0 rfl) ?_
    refine va_get (D := G.1) (ci := 6) (v := .ref q_t_side) (C := RX6) (T := TX6) (N := 23) hx hb hts iX6 hown hK hP 0 rfl rfl 10 (by decide) fl_25 (fun _ h9 => h9) rfl dX6_turn_23 ?_
    obtain ⟨y26, hC_26, hE⟩ := Option.bind_eq_some_iff.mp hE
    obtain ⟨m_26_0, ex9⟩ : ∃ z, z = y26 := ⟨_, rfl⟩
    subst ex9
    try dsimp only at hE
    have hPc := hP.sub (ws' := [aI (G.2 1) q_t_sign 36 t_sign, aI (G.2 1) q_t_side 36 t_side]) [1, 3] rfl
    have hDc := hD.sub (ws' := [aI (G.2 1) q_t_sign 36 t_sign, aI (G.2 1) q_t_side 36 t_side]) [1, 3] (by decide) rfl
    have hFc := va_free (wc := [aI (G.2 1) q_t_sign 36 t_sign, aI (G.2 1) q_t_side 36 t_side]) hD hS hA [1, 3] rfl
    refine va_callv (va_runS (As := [.ref q_t_sign, .ref q_t_side]) (rest := []) ⟨hx, hb, hml, hown, hts⟩ (c_X6_copy (l := l) (G := G) _ (q_p1 := q_t_sign) (p1 := t_sign) (q_p2 := q_t_side) (p2 := t_side) hC_26) (va_cwS 2 hts gX6_turn_X6_copy rfl rfl rfl kd_X6_copy ⟨Nat.le_of_ble_eq_true rfl, Nat.le_of_ble_eq_true rfl⟩) (iv_S hKW hPc hDc) rfl rfl hl.1 rfl (lv_room (Nat.le_of_ble_eq_true rfl)) dX6_turn_26 ⟨Nat.zero_le _, Nat.zero_le _⟩) hS (fun q _ h => hFc q h) hFc (fun u9 t9 H1 locs ht9 hvm9 hw9 hB9 hz9 hk9 hS => ?_)
    obtain ⟨hP1, hD1⟩ := hB9
    rw [ht9] at hP1
    obtain ⟨hP, hD⟩ := va_join (wr := [oX6 q_t t_length q_t_text t_size q_t_sign t_otherSize q_t_other q_t_before m_15_0 t_readSize q_t_read q_t_side q_t_tall q_t_endRow q_t_endColumn q_t_endSide q_t_gone t_lineRow t_lineColumn t_lineSide t_lineMany q_t_ways q_t_codes q_t_many, aI (G.2 1) q_t_before 222 m_15_1]) (w1 := [aI (G.2 1) q_t_sign 36 t_sign, aI (G.2 1) q_t_side 36 m_26_0]) hP hD [1, 3] [0, 2] rfl rfl (by decide) (by decide) hk9 hFc hP1 hD1
    have hP := hP.sub (ws' := [oX6 q_t t_length q_t_text t_size q_t_sign t_otherSize q_t_other q_t_before m_15_0 t_readSize q_t_read q_t_side q_t_tall q_t_endRow q_t_endColumn q_t_endSide q_t_gone t_lineRow t_lineColumn t_lineSide t_lineMany q_t_ways q_t_codes q_t_many, aI (G.2 1) q_t_sign 36 t_sign, aI (G.2 1) q_t_before 222 m_15_1, aI (G.2 1) q_t_side 36 m_26_0]) [0, 2, 1, 3] rfl
    have hD := hD.sub (ws' := [oX6 q_t t_length q_t_text t_size q_t_sign t_otherSize q_t_other q_t_before m_15_0 t_readSize q_t_read q_t_side q_t_tall q_t_endRow q_t_endColumn q_t_endSide q_t_gone t_lineRow t_lineColumn t_lineSide t_lineMany q_t_ways q_t_codes q_t_many, aI (G.2 1) q_t_sign 36 t_sign, aI (G.2 1) q_t_before 222 m_15_1, aI (G.2 1) q_t_side 36 m_26_0]) [0, 2, 1, 3] (by decide) rfl
    clear hPc hDc hFc hP1 hD1 hk9 hz9 hvm9
    refine lv_iconst (v := 0) hx hb dX6_turn_29 (by decide) ?_
    refine lv_istore_n (lv' := [(2, .int (0 : Int32)), (0, .ref q_t), (1, .int p1)]) hx hb dX6_turn_30 rfl hl (by decide) rfl (fun ls hl => ?_)
    refine lv_aload_n hx hb dX6_turn_31 rfl (lv_at hl 1 rfl) ?_
    refine va_get (D := G.1) (ci := 6) (v := .int t_size) (C := RX6) (T := TX6) (N := 23) hx hb hts iX6 hown hK hP 0 rfl rfl 2 (by decide) fl_54 (fun _ h9 => h9) rfl dX6_turn_32 ?_
    refine lv_iconst (v := 1) hx hb dX6_turn_35 (by decide) ?_
    refine lv_isub hx hb dX6_turn_36 ?_
    refine lv_istore_n (lv' := [(3, .int (t_size - (1 : Int32))), (2, .int (0 : Int32)), (0, .ref q_t), (1, .int p1)]) hx hb dX6_turn_37 rfl hl (by decide) rfl (fun ls hl => ?_)
    refine lv_iconst (v := 0) hx hb dX6_turn_38 (by decide) ?_
    refine lv_istore (lv' := [(4, .int (0 : Int32)), (3, .int (t_size - (1 : Int32))), (2, .int (0 : Int32)), (0, .ref q_t), (1, .int p1)]) hx hb dX6_turn_39 hl (by decide) rfl (fun ls hl => ?_)
    refine itr_ind (fun (x1 : Int32 × Int32 × (Nat → Int32)) => ∀ (H : Heap) (locs : List Loc) (ls : Array Slot), va_P G.1 vwCl [oX6 q_t t_length q_t_text t_size q_t_sign t_otherSize q_t_other q_t_before m_15_0 t_readSize q_t_read q_t_side q_t_tall q_t_endRow q_t_endColumn q_t_endSide q_t_gone t_lineRow t_lineColumn t_lineSide t_lineMany q_t_ways q_t_codes q_t_many, aI (G.2 1) q_t_sign 36 x1.2.2, aI (G.2 1) q_t_before 222 m_15_1, aI (G.2 1) q_t_side 36 m_26_0] H → va_D A [oX6 q_t t_length q_t_text t_size q_t_sign t_otherSize q_t_other q_t_before m_15_0 t_readSize q_t_read q_t_side q_t_tall q_t_endRow q_t_endColumn q_t_endSide q_t_gone t_lineRow t_lineColumn t_lineSide t_lineMany q_t_ways q_t_codes q_t_many, aI (G.2 1) q_t_sign 36 x1.2.2, aI (G.2 1) q_t_before 222 m_15_1, aI (G.2 1) q_t_side 36 m_26_0] → va_S A s.heap H locs → lv_has ls 7 [(0, .ref q_t), (1, .int p1), (2, .int x1.1), (3, .int (t_size - (1 : Int32))), (4, .int x1.2.1)] → W p l e (headSpec wsX6_turn ({ frames := 1, cells := 0, slots := 0, locals := 25 })).room s m ([.ref q_t, .int p1] : List Value).toArray below meth c H locs 0 0 Q (F0 m 41 ls [])) (fun x1 o_1 hE ih_1 hr_1 => ?_) _ _ hE _ _ ls hP hD hS (lv_sub hl [3, 4, 2, 1, 0] rfl)
    obtain ⟨v2_1, v4_1, w_t_sign_1⟩ := x1
    try dsimp only at hE
    intro H locs ls hP hD hS hl
    try dsimp only at hP hD hl ⊢
    refine lv_iload hx hb dX6_turn_41 (lv_at hl 4 rfl) ?_
    refine lv_aload_n hx hb dX6_turn_43 rfl (lv_at hl 0 rfl) ?_
    refine va_get (D := G.1) (ci := 6) (v := .int t_size) (C := RX6) (T := TX6) (N := 23) hx hb hts iX6 hown hK hP 0 rfl rfl 2 (by decide) fl_54 (fun _ h9 => h9) rfl dX6_turn_44 ?_
    refine lv_icmp_ge (tgt := 227) hx hb dX6_turn_47 (by decide) (fun c_47 => ?_) (fun c_47 => ?_)
    · replace hE := (if_pos c_47).symm.trans hE
      refine lv_iload_n hx hb dX6_turn_227 rfl (lv_at hl 2 rfl) ?_
      have e_1 := Option.some.inj hE
      have e_0 := hr_1 _ e_1.symm
      subst e_0
      rw [hQ]
      exact W.iret (v := v2_1) hx hb hr (fun t ht _ => ⟨⟨_, (), rfl, rfl, by rw [ht]; exact hP, hD⟩, hS.F ht⟩) hS.2.2 dX6_turn_228
    · replace hE := (if_neg c_47).symm.trans hE
      refine lv_iconst (v := 0) hx hb dX6_turn_50 (by decide) ?_
      refine lv_istore (lv' := [(5, .int (0 : Int32)), (0, .ref q_t), (1, .int p1), (2, .int v2_1), (3, .int (t_size - (1 : Int32))), (4, .int v4_1)]) hx hb dX6_turn_51 hl (by decide) rfl (fun ls hl => ?_)
      refine itr_ind (fun (x2 : Int32 × Int32 × (Nat → Int32)) => ∀ (H : Heap) (locs : List Loc) (ls : Array Slot), va_P G.1 vwCl [oX6 q_t t_length q_t_text t_size q_t_sign t_otherSize q_t_other q_t_before m_15_0 t_readSize q_t_read q_t_side q_t_tall q_t_endRow q_t_endColumn q_t_endSide q_t_gone t_lineRow t_lineColumn t_lineSide t_lineMany q_t_ways q_t_codes q_t_many, aI (G.2 1) q_t_sign 36 x2.2.2, aI (G.2 1) q_t_before 222 m_15_1, aI (G.2 1) q_t_side 36 m_26_0] H → va_D A [oX6 q_t t_length q_t_text t_size q_t_sign t_otherSize q_t_other q_t_before m_15_0 t_readSize q_t_read q_t_side q_t_tall q_t_endRow q_t_endColumn q_t_endSide q_t_gone t_lineRow t_lineColumn t_lineSide t_lineMany q_t_ways q_t_codes q_t_many, aI (G.2 1) q_t_sign 36 x2.2.2, aI (G.2 1) q_t_before 222 m_15_1, aI (G.2 1) q_t_side 36 m_26_0] → va_S A s.heap H locs → lv_has ls 7 [(0, .ref q_t), (1, .int p1), (2, .int x2.1), (3, .int (t_size - (1 : Int32))), (4, .int v4_1), (5, .int x2.2.1)] → W p l e (headSpec wsX6_turn ({ frames := 1, cells := 0, slots := 0, locals := 25 })).room s m ([.ref q_t, .int p1] : List Value).toArray below meth c H locs 0 0 Q (F0 m 53 ls [])) (fun x2 o_2 hE ih_2 hr_2 => ?_) _ _ hE _ _ ls hP hD hS (lv_sub hl [1, 2, 3, 4, 5, 0] rfl)
      obtain ⟨v2_2, v5_2, w_t_sign_2⟩ := x2
      try dsimp only at hE
      intro H locs ls hP hD hS hl
      try dsimp only at hP hD hl ⊢
      refine lv_iload hx hb dX6_turn_53 (lv_at hl 5 rfl) ?_
      refine lv_aload_n hx hb dX6_turn_55 rfl (lv_at hl 0 rfl) ?_
      refine va_get (D := G.1) (ci := 6) (v := .int t_size) (C := RX6) (T := TX6) (N := 23) hx hb hts iX6 hown hK hP 0 rfl rfl 2 (by decide) fl_54 (fun _ h9 => h9) rfl dX6_turn_56 ?_
      refine lv_icmp_ge (tgt := 221) hx hb dX6_turn_59 (by decide) (fun c_59 => ?_) (fun c_59 => ?_)
      · replace hE := (if_pos c_59).symm.trans hE
        refine lv_iinc (v := v4_1 + (1 : Int32)) (lv' := [(4, .int (v4_1 + (1 : Int32))), (0, .ref q_t), (1, .int p1), (2, .int v2_2), (3, .int (t_size - (1 : Int32))), (5, .int v5_2)]) hx hb dX6_turn_221 hl (k := 4) rfl rfl (by decide) rfl (fun ls hl => ?_)
        refine lv_goto (tgt := 41) hx hb dX6_turn_224 (by decide) ?_
        have e_2 := Option.some.inj hE
        have e_1 := hr_2 _ e_2.symm
        exact ih_1 _ e_1.symm _ _ ls hP hD hS (lv_sub hl [1, 2, 3, 4, 0] rfl)
      · replace hE := (if_neg c_59).symm.trans hE
        refine lv_iload_n hx hb dX6_turn_62 rfl (lv_at hl 1 rfl) ?_
        refine lv_iconst (v := 1) hx hb dX6_turn_63 (by decide) ?_
        obtain ⟨o_3, hEp, hk9, hr_3⟩ := jn_some hE
        have ih_3 : ∀ (x3 : Int32), o_3 = .inl x3 → ∀ (H : Heap) (locs : List Loc) (ls : Array Slot), va_P G.1 vwCl [oX6 q_t t_length q_t_text t_size q_t_sign t_otherSize q_t_other q_t_before m_15_0 t_readSize q_t_read q_t_side q_t_tall q_t_endRow q_t_endColumn q_t_endSide q_t_gone t_lineRow t_lineColumn t_lineSide t_lineMany q_t_ways q_t_codes q_t_many, aI (G.2 1) q_t_sign 36 w_t_sign_2, aI (G.2 1) q_t_before 222 m_15_1, aI (G.2 1) q_t_side 36 m_26_0] H → va_D A [oX6 q_t t_length q_t_text t_size q_t_sign t_otherSize q_t_other q_t_before m_15_0 t_readSize q_t_read q_t_side q_t_tall q_t_endRow q_t_endColumn q_t_endSide q_t_gone t_lineRow t_lineColumn t_lineSide t_lineMany q_t_ways q_t_codes q_t_many, aI (G.2 1) q_t_sign 36 w_t_sign_2, aI (G.2 1) q_t_before 222 m_15_1, aI (G.2 1) q_t_side 36 m_26_0] → va_S A s.heap H locs → lv_has ls 7 [(0, .ref q_t), (1, .int p1), (2, .int v2_2), (3, .int (t_size - (1 : Int32))), (4, .int v4_1), (5, .int v5_2)] → W p l e (headSpec wsX6_turn ({ frames := 1, cells := 0, slots := 0, locals := 25 })).room s m ([.ref q_t, .int p1] : List Value).toArray below meth c H locs 0 0 Q (F0 m 162 ls [.int x3]) := by
          intro x3 ho9
          have hE := hk9 _ ho9
          obtain ⟨k0_3, ex9⟩ : ∃ z, z = x3 := ⟨_, rfl⟩
          subst ex9
          try dsimp only at hE
          intro H locs ls hP hD hS hl
          try dsimp only at hP hD hl ⊢
          refine lv_istore (lv' := [(6, .int k0_3), (0, .ref q_t), (1, .int p1), (2, .int v2_2), (3, .int (t_size - (1 : Int32))), (4, .int v4_1), (5, .int v5_2)]) hx hb dX6_turn_162 hl (by decide) rfl (fun ls hl => ?_)
          refine lv_iload_n hx hb dX6_turn_164 rfl (lv_at hl 3 rfl) ?_
          refine lv_aload_n hx hb dX6_turn_165 rfl (lv_at hl 1 rfl) ?_
          refine va_get (D := G.1) (ci := 6) (v := .ref q_t_side) (C := RX6) (T := TX6) (N := 23) hx hb hts iX6 hown hK hP 0 rfl rfl 10 (by decide) fl_25 (fun _ h9 => h9) rfl dX6_turn_166 ?_
          refine lv_iload hx hb dX6_turn_169 (lv_at hl 0 rfl) ?_
          obtain ⟨hi_171, hE⟩ := ck_some hE
          refine va_iald hx hb hK hP 3 1 rfl rfl (inb_in hi_171) dX6_turn_171 ?_
          refine lv_aload_n hx hb dX6_turn_172 rfl (lv_at hl 1 rfl) ?_
          refine va_get (D := G.1) (ci := 6) (v := .ref q_t_sign) (C := RX6) (T := TX6) (N := 23) hx hb hts iX6 hown hK hP 0 rfl rfl 3 (by decide) fl_13 (fun _ h9 => h9) rfl dX6_turn_173 ?_
          refine lv_bipush (v := 6) hx hb dX6_turn_176 (by decide) ?_
          refine lv_iload hx hb dX6_turn_178 (lv_at hl 5 rfl) ?_
          refine lv_imul hx hb dX6_turn_180 ?_
          refine lv_iload hx hb dX6_turn_181 (lv_at hl 6 rfl) ?_
          refine lv_iadd hx hb dX6_turn_183 ?_
          obtain ⟨hi_184, hE⟩ := ck_some hE
          refine va_iald hx hb hK hP 1 1 rfl rfl (inb_in hi_184) dX6_turn_184 ?_
          obtain ⟨o_3, hEp, hk9, hr_3⟩ := jn_some hE
          have ih_3 : ∀ (x4 : Int32), o_3 = .inl x4 → ∀ (H : Heap) (locs : List Loc) (ls : Array Slot), va_P G.1 vwCl [oX6 q_t t_length q_t_text t_size q_t_sign t_otherSize q_t_other q_t_before m_15_0 t_readSize q_t_read q_t_side q_t_tall q_t_endRow q_t_endColumn q_t_endSide q_t_gone t_lineRow t_lineColumn t_lineSide t_lineMany q_t_ways q_t_codes q_t_many, aI (G.2 1) q_t_sign 36 w_t_sign_2, aI (G.2 1) q_t_before 222 m_15_1, aI (G.2 1) q_t_side 36 m_26_0] H → va_D A [oX6 q_t t_length q_t_text t_size q_t_sign t_otherSize q_t_other q_t_before m_15_0 t_readSize q_t_read q_t_side q_t_tall q_t_endRow q_t_endColumn q_t_endSide q_t_gone t_lineRow t_lineColumn t_lineSide t_lineMany q_t_ways q_t_codes q_t_many, aI (G.2 1) q_t_sign 36 w_t_sign_2, aI (G.2 1) q_t_before 222 m_15_1, aI (G.2 1) q_t_side 36 m_26_0] → va_S A s.heap H locs → lv_has ls 7 [(0, .ref q_t), (1, .int p1), (3, .int (t_size - (1 : Int32))), (4, .int v4_1), (5, .int v5_2), (6, .int k0_3)] → W p l e (headSpec wsX6_turn ({ frames := 1, cells := 0, slots := 0, locals := 25 })).room s m ([.ref q_t, .int p1] : List Value).toArray below meth c H locs 0 0 Q (F0 m 193 ls [.int x4, .int v2_2]) := by
            intro x4 ho9
            have hE := hk9 _ ho9
            obtain ⟨k1_4, ex9⟩ : ∃ z, z = x4 := ⟨_, rfl⟩
            subst ex9
            try dsimp only at hE
            intro H locs ls hP hD hS hl
            try dsimp only at hP hD hl ⊢
            refine lv_iadd hx hb dX6_turn_193 ?_
            refine lv_istore_n (lv' := [(2, .int (v2_2 + k1_4)), (0, .ref q_t), (1, .int p1), (3, .int (t_size - (1 : Int32))), (4, .int v4_1), (5, .int v5_2), (6, .int k0_3)]) hx hb dX6_turn_194 rfl hl (by decide) rfl (fun ls hl => ?_)
            refine lv_aload_n hx hb dX6_turn_195 rfl (lv_at hl 1 rfl) ?_
            refine va_get (D := G.1) (ci := 6) (v := .ref q_t_sign) (C := RX6) (T := TX6) (N := 23) hx hb hts iX6 hown hK hP 0 rfl rfl 3 (by decide) fl_13 (fun _ h9 => h9) rfl dX6_turn_196 ?_
            refine lv_bipush (v := 6) hx hb dX6_turn_199 (by decide) ?_
            refine lv_iload hx hb dX6_turn_201 (lv_at hl 4 rfl) ?_
            refine lv_imul hx hb dX6_turn_203 ?_
            refine lv_iload hx hb dX6_turn_204 (lv_at hl 5 rfl) ?_
            refine lv_iadd hx hb dX6_turn_206 ?_
            refine lv_aload_n hx hb dX6_turn_207 rfl (lv_at hl 1 rfl) ?_
            refine va_get (D := G.1) (ci := 6) (v := .ref q_t_side) (C := RX6) (T := TX6) (N := 23) hx hb hts iX6 hown hK hP 0 rfl rfl 10 (by decide) fl_25 (fun _ h9 => h9) rfl dX6_turn_208 ?_
            refine lv_iload hx hb dX6_turn_211 (lv_at hl 6 rfl) ?_
            obtain ⟨hi_213, hE⟩ := ck_some hE
            refine va_iald hx hb hK hP 3 1 rfl rfl (inb_in hi_213) dX6_turn_213 ?_
            obtain ⟨hi_214, hE⟩ := ck_some hE
            refine va_iast hx hb hK hP hD hS 1 1 rfl rfl (inb_in hi_214) dX6_turn_214 (fun H locs hP hD hS => ?_)
            have hP : va_P G.1 vwCl [oX6 q_t t_length q_t_text t_size q_t_sign t_otherSize q_t_other q_t_before m_15_0 t_readSize q_t_read q_t_side q_t_tall q_t_endRow q_t_endColumn q_t_endSide q_t_gone t_lineRow t_lineColumn t_lineSide t_lineMany q_t_ways q_t_codes q_t_many, aI (G.2 1) q_t_sign 36 (upd w_t_sign_2 (((6 : Int32) * v4_1) + v5_2).toNatClampNeg (m_26_0 k0_3.toNatClampNeg)), aI (G.2 1) q_t_before 222 m_15_1, aI (G.2 1) q_t_side 36 m_26_0] H := hP
            have hD : va_D A [oX6 q_t t_length q_t_text t_size q_t_sign t_otherSize q_t_other q_t_before m_15_0 t_readSize q_t_read q_t_side q_t_tall q_t_endRow q_t_endColumn q_t_endSide q_t_gone t_lineRow t_lineColumn t_lineSide t_lineMany q_t_ways q_t_codes q_t_many, aI (G.2 1) q_t_sign 36 (upd w_t_sign_2 (((6 : Int32) * v4_1) + v5_2).toNatClampNeg (m_26_0 k0_3.toNatClampNeg)), aI (G.2 1) q_t_before 222 m_15_1, aI (G.2 1) q_t_side 36 m_26_0] := hD
            refine lv_iinc (v := v5_2 + (1 : Int32)) (lv' := [(5, .int (v5_2 + (1 : Int32))), (2, .int (v2_2 + k1_4)), (0, .ref q_t), (1, .int p1), (3, .int (t_size - (1 : Int32))), (4, .int v4_1), (6, .int k0_3)]) hx hb dX6_turn_215 hl (k := 5) rfl rfl (by decide) rfl (fun ls hl => ?_)
            refine lv_goto (tgt := 53) hx hb dX6_turn_218 (by decide) ?_
            have e_2 := Option.some.inj hE
            exact ih_2 _ e_2.symm _ _ ls hP hD hS (lv_sub hl [2, 3, 1, 4, 5, 0] rfl)
          clear hE hk9
          have hE := hEp
          clear hEp
          refine lv_icmp_eq (tgt := 192) hx hb dX6_turn_185 (by decide) (fun c_185 => ?_) (fun c_185 => ?_)
          · replace hE := (if_pos c_185).symm.trans hE
            refine lv_iconst (v := 0) hx hb dX6_turn_192 (by decide) ?_
            have e_3 := Option.some.inj hE
            exact ih_3 _ e_3.symm _ _ ls hP hD hS (lv_sub hl [1, 2, 4, 5, 6, 0] rfl)
          · replace hE := (if_neg c_185).symm.trans hE
            refine lv_iconst (v := 1) hx hb dX6_turn_188 (by decide) ?_
            refine lv_goto (tgt := 193) hx hb dX6_turn_189 (by decide) ?_
            have e_3 := Option.some.inj hE
            exact ih_3 _ e_3.symm _ _ ls hP hD hS (lv_sub hl [1, 2, 4, 5, 6, 0] rfl)
        clear hE hk9
        have hE := hEp
        clear hEp
        refine lv_icmp_ne (tgt := 80) hx hb dX6_turn_64 (by decide) (fun c_64 => ?_) (fun c_64 => ?_)
        · replace hE := (if_neg c_64).symm.trans hE
          refine lv_iload_n hx hb dX6_turn_80 rfl (lv_at hl 1 rfl) ?_
          refine lv_iconst (v := 2) hx hb dX6_turn_81 (by decide) ?_
          refine lv_icmp_ne (tgt := 100) hx hb dX6_turn_82 (by decide) (fun c_82 => ?_) (fun c_82 => ?_)
          · replace hE := (if_neg c_82).symm.trans hE
            refine lv_iload_n hx hb dX6_turn_100 rfl (lv_at hl 1 rfl) ?_
            refine lv_iconst (v := 3) hx hb dX6_turn_101 (by decide) ?_
            refine lv_icmp_ne (tgt := 118) hx hb dX6_turn_102 (by decide) (fun c_102 => ?_) (fun c_102 => ?_)
            · replace hE := (if_neg c_102).symm.trans hE
              refine lv_iload_n hx hb dX6_turn_118 rfl (lv_at hl 1 rfl) ?_
              refine lv_iconst (v := 4) hx hb dX6_turn_119 (by decide) ?_
              refine lv_icmp_ne (tgt := 136) hx hb dX6_turn_120 (by decide) (fun c_120 => ?_) (fun c_120 => ?_)
              · replace hE := (if_neg c_120).symm.trans hE
                refine lv_iload_n hx hb dX6_turn_136 rfl (lv_at hl 1 rfl) ?_
                refine lv_iconst (v := 5) hx hb dX6_turn_137 (by decide) ?_
                refine lv_icmp_ne (tgt := 154) hx hb dX6_turn_138 (by decide) (fun c_138 => ?_) (fun c_138 => ?_)
                · replace hE := (if_neg c_138).symm.trans hE
                  refine lv_bipush (v := 6) hx hb dX6_turn_154 (by decide) ?_
                  refine lv_iload hx hb dX6_turn_156 (lv_at hl 5 rfl) ?_
                  refine lv_imul hx hb dX6_turn_158 ?_
                  refine lv_iload hx hb dX6_turn_159 (lv_at hl 4 rfl) ?_
                  refine lv_iadd hx hb dX6_turn_161 ?_
                  have e_3 := Option.some.inj hE
                  exact ih_3 _ e_3.symm _ _ ls hP hD hS (lv_sub hl [0, 1, 2, 3, 4, 5] rfl)
                · replace hE := (if_pos c_138).symm.trans hE
                  refine lv_bipush (v := 6) hx hb dX6_turn_141 (by decide) ?_
                  refine lv_iload_n hx hb dX6_turn_143 rfl (lv_at hl 3 rfl) ?_
                  refine lv_iload hx hb dX6_turn_144 (lv_at hl 4 rfl) ?_
                  refine lv_isub hx hb dX6_turn_146 ?_
                  refine lv_imul hx hb dX6_turn_147 ?_
                  refine lv_iload hx hb dX6_turn_148 (lv_at hl 5 rfl) ?_
                  refine lv_iadd hx hb dX6_turn_150 ?_
                  refine lv_goto (tgt := 162) hx hb dX6_turn_151 (by decide) ?_
                  have e_3 := Option.some.inj hE
                  exact ih_3 _ e_3.symm _ _ ls hP hD hS (lv_sub hl [0, 1, 2, 3, 4, 5] rfl)
              · replace hE := (if_pos c_120).symm.trans hE
                refine lv_bipush (v := 6) hx hb dX6_turn_123 (by decide) ?_
                refine lv_iload hx hb dX6_turn_125 (lv_at hl 4 rfl) ?_
                refine lv_imul hx hb dX6_turn_127 ?_
                refine lv_iload_n hx hb dX6_turn_128 rfl (lv_at hl 3 rfl) ?_
                refine lv_iadd hx hb dX6_turn_129 ?_
                refine lv_iload hx hb dX6_turn_130 (lv_at hl 5 rfl) ?_
                refine lv_isub hx hb dX6_turn_132 ?_
                refine lv_goto (tgt := 162) hx hb dX6_turn_133 (by decide) ?_
                have e_3 := Option.some.inj hE
                exact ih_3 _ e_3.symm _ _ ls hP hD hS (lv_sub hl [0, 1, 2, 3, 4, 5] rfl)
            · replace hE := (if_pos c_102).symm.trans hE
              refine lv_bipush (v := 6) hx hb dX6_turn_105 (by decide) ?_
              refine lv_iload hx hb dX6_turn_107 (lv_at hl 5 rfl) ?_
              refine lv_imul hx hb dX6_turn_109 ?_
              refine lv_iload_n hx hb dX6_turn_110 rfl (lv_at hl 3 rfl) ?_
              refine lv_iadd hx hb dX6_turn_111 ?_
              refine lv_iload hx hb dX6_turn_112 (lv_at hl 4 rfl) ?_
              refine lv_isub hx hb dX6_turn_114 ?_
              refine lv_goto (tgt := 162) hx hb dX6_turn_115 (by decide) ?_
              have e_3 := Option.some.inj hE
              exact ih_3 _ e_3.symm _ _ ls hP hD hS (lv_sub hl [0, 1, 2, 3, 4, 5] rfl)
          · replace hE := (if_pos c_82).symm.trans hE
            refine lv_bipush (v := 6) hx hb dX6_turn_85 (by decide) ?_
            refine lv_iload_n hx hb dX6_turn_87 rfl (lv_at hl 3 rfl) ?_
            refine lv_iload hx hb dX6_turn_88 (lv_at hl 4 rfl) ?_
            refine lv_isub hx hb dX6_turn_90 ?_
            refine lv_imul hx hb dX6_turn_91 ?_
            refine lv_iload_n hx hb dX6_turn_92 rfl (lv_at hl 3 rfl) ?_
            refine lv_iadd hx hb dX6_turn_93 ?_
            refine lv_iload hx hb dX6_turn_94 (lv_at hl 5 rfl) ?_
            refine lv_isub hx hb dX6_turn_96 ?_
            refine lv_goto (tgt := 162) hx hb dX6_turn_97 (by decide) ?_
            have e_3 := Option.some.inj hE
            exact ih_3 _ e_3.symm _ _ ls hP hD hS (lv_sub hl [0, 1, 2, 3, 4, 5] rfl)
        · replace hE := (if_pos c_64).symm.trans hE
          refine lv_bipush (v := 6) hx hb dX6_turn_67 (by decide) ?_
          refine lv_iload_n hx hb dX6_turn_69 rfl (lv_at hl 3 rfl) ?_
          refine lv_iload hx hb dX6_turn_70 (lv_at hl 5 rfl) ?_
          refine lv_isub hx hb dX6_turn_72 ?_
          refine lv_imul hx hb dX6_turn_73 ?_
          refine lv_iload hx hb dX6_turn_74 (lv_at hl 4 rfl) ?_
          refine lv_iadd hx hb dX6_turn_76 ?_
          refine lv_goto (tgt := 162) hx hb dX6_turn_77 (by decide) ?_
          have e_3 := Option.some.inj hE
          exact ih_3 _ e_3.symm _ _ ls hP hD hS (lv_sub hl [0, 1, 2, 3, 4, 5] rfl)
  · replace hE := (if_pos c_9).symm.trans hE
    refine lv_iconst (v := -1) hx hb dX6_turn_12 (by decide) ?_
    have e_0 := Option.some.inj hE
    subst e_0
    rw [hQ]
    exact W.iret (v := (-1 : Int32)) hx hb hr (fun t ht _ => ⟨⟨_, (), rfl, rfl, by rw [ht]; exact hP, hD⟩, hS.F ht⟩) hS.2.2 dX6_turn_13
